/-! methods: X11_held, X11_pixel, X11_type, X11_isBeyond, X11_nearest, X12_in, X12_sizeOf, X12_toPixel, X12_u1, X12_u2, X12_s2, X12_s1, X12_u4, X12_tableOf, X12_beginOf, X12_lengthOf, X12_sumOf, X12_directory, X12_head, X12_maxp, X12_loca, X12_bytesOf -/
theorem dX11_held_0 : decode cX11_held 0 = .ok (.aload_n 0, 1) := by decide +kernel
theorem dX11_held_1 : decode cX11_held 1 = .ok (.getfield 37, 3) := by decide +kernel
theorem dX11_held_4 : decode cX11_held 4 = .ok (.getfield 197, 3) := by decide +kernel
theorem dX11_held_7 : decode cX11_held 7 = .ok (.astore_n 3, 1) := by decide +kernel
theorem dX11_held_8 : decode cX11_held 8 = .ok (.aload_n 0, 1) := by decide +kernel
theorem dX11_held_9 : decode cX11_held 9 = .ok (.getfield 37, 3) := by decide +kernel
theorem dX11_held_12 : decode cX11_held 12 = .ok (.getfield 137, 3) := by decide +kernel
theorem dX11_held_15 : decode cX11_held 15 = .ok (.ifCond .eq 7, 3) := by decide +kernel
theorem dX11_held_18 : decode cX11_held 18 = .ok (.iload_n 2, 1) := by decide +kernel
theorem dX11_held_19 : decode cX11_held 19 = .ok (.ifCond .ge 5, 3) := by decide +kernel
theorem dX11_held_22 : decode cX11_held 22 = .ok (.iconst 0, 1) := by decide +kernel
theorem dX11_held_23 : decode cX11_held 23 = .ok (.ireturn, 1) := by decide +kernel
theorem dX11_held_24 : decode cX11_held 24 = .ok (.iload_n 1, 1) := by decide +kernel
theorem dX11_held_25 : decode cX11_held 25 = .ok (.ifCond .ne 22, 3) := by decide +kernel
theorem dX11_held_28 : decode cX11_held 28 = .ok (.iload_n 2, 1) := by decide +kernel
theorem dX11_held_29 : decode cX11_held 29 = .ok (.aload_n 3, 1) := by decide +kernel
theorem dX11_held_30 : decode cX11_held 30 = .ok (.getfield 201, 3) := by decide +kernel
theorem dX11_held_33 : decode cX11_held 33 = .ok (.if_icmp .ge 12, 3) := by decide +kernel
theorem dX11_held_36 : decode cX11_held 36 = .ok (.aload_n 3, 1) := by decide +kernel
theorem dX11_held_37 : decode cX11_held 37 = .ok (.getfield 206, 3) := by decide +kernel
theorem dX11_held_40 : decode cX11_held 40 = .ok (.iload_n 2, 1) := by decide +kernel
theorem dX11_held_41 : decode cX11_held 41 = .ok (.iaload, 1) := by decide +kernel
theorem dX11_held_42 : decode cX11_held 42 = .ok (.goto 4, 3) := by decide +kernel
theorem dX11_held_45 : decode cX11_held 45 = .ok (.iconst 0, 1) := by decide +kernel
theorem dX11_held_46 : decode cX11_held 46 = .ok (.ireturn, 1) := by decide +kernel
theorem dX11_held_47 : decode cX11_held 47 = .ok (.iload_n 1, 1) := by decide +kernel
theorem dX11_held_48 : decode cX11_held 48 = .ok (.iconst 1, 1) := by decide +kernel
theorem dX11_held_49 : decode cX11_held 49 = .ok (.if_icmp .ne 22, 3) := by decide +kernel
theorem dX11_held_52 : decode cX11_held 52 = .ok (.iload_n 2, 1) := by decide +kernel
theorem dX11_held_53 : decode cX11_held 53 = .ok (.aload_n 3, 1) := by decide +kernel
theorem dX11_held_54 : decode cX11_held 54 = .ok (.getfield 209, 3) := by decide +kernel
theorem dX11_held_57 : decode cX11_held 57 = .ok (.if_icmp .ge 12, 3) := by decide +kernel
theorem dX11_held_60 : decode cX11_held 60 = .ok (.aload_n 3, 1) := by decide +kernel
theorem dX11_held_61 : decode cX11_held 61 = .ok (.getfield 212, 3) := by decide +kernel
theorem dX11_held_64 : decode cX11_held 64 = .ok (.iload_n 2, 1) := by decide +kernel
theorem dX11_held_65 : decode cX11_held 65 = .ok (.iaload, 1) := by decide +kernel
theorem dX11_held_66 : decode cX11_held 66 = .ok (.goto 4, 3) := by decide +kernel
theorem dX11_held_69 : decode cX11_held 69 = .ok (.iconst 0, 1) := by decide +kernel
theorem dX11_held_70 : decode cX11_held 70 = .ok (.ireturn, 1) := by decide +kernel
theorem dX11_held_71 : decode cX11_held 71 = .ok (.aload_n 3, 1) := by decide +kernel
theorem dX11_held_72 : decode cX11_held 72 = .ok (.getfield 215, 3) := by decide +kernel
theorem dX11_held_75 : decode cX11_held 75 = .ok (.astore 4, 2) := by decide +kernel
theorem dX11_held_77 : decode cX11_held 77 = .ok (.iload_n 2, 1) := by decide +kernel
theorem dX11_held_78 : decode cX11_held 78 = .ok (.aload 4, 2) := by decide +kernel
theorem dX11_held_80 : decode cX11_held 80 = .ok (.getfield 150, 3) := by decide +kernel
theorem dX11_held_83 : decode cX11_held 83 = .ok (.if_icmp .lt 5, 3) := by decide +kernel
theorem dX11_held_86 : decode cX11_held 86 = .ok (.iconst 0, 1) := by decide +kernel
theorem dX11_held_87 : decode cX11_held 87 = .ok (.ireturn, 1) := by decide +kernel
theorem dX11_held_88 : decode cX11_held 88 = .ok (.iload_n 1, 1) := by decide +kernel
theorem dX11_held_89 : decode cX11_held 89 = .ok (.tableswitch 63 2 5 #[31, 39, 47, 55], 31) := by decide +kernel
theorem dX11_held_120 : decode cX11_held 120 = .ok (.aload 4, 2) := by decide +kernel
theorem dX11_held_122 : decode cX11_held 122 = .ok (.getfield 155, 3) := by decide +kernel
theorem dX11_held_125 : decode cX11_held 125 = .ok (.iload_n 2, 1) := by decide +kernel
theorem dX11_held_126 : decode cX11_held 126 = .ok (.iaload, 1) := by decide +kernel
theorem dX11_held_127 : decode cX11_held 127 = .ok (.ireturn, 1) := by decide +kernel
theorem dX11_held_128 : decode cX11_held 128 = .ok (.aload 4, 2) := by decide +kernel
theorem dX11_held_130 : decode cX11_held 130 = .ok (.getfield 158, 3) := by decide +kernel
theorem dX11_held_133 : decode cX11_held 133 = .ok (.iload_n 2, 1) := by decide +kernel
theorem dX11_held_134 : decode cX11_held 134 = .ok (.iaload, 1) := by decide +kernel
theorem dX11_held_135 : decode cX11_held 135 = .ok (.ireturn, 1) := by decide +kernel
theorem dX11_held_136 : decode cX11_held 136 = .ok (.aload 4, 2) := by decide +kernel
theorem dX11_held_138 : decode cX11_held 138 = .ok (.getfield 219, 3) := by decide +kernel
theorem dX11_held_141 : decode cX11_held 141 = .ok (.iload_n 2, 1) := by decide +kernel
theorem dX11_held_142 : decode cX11_held 142 = .ok (.iaload, 1) := by decide +kernel
theorem dX11_held_143 : decode cX11_held 143 = .ok (.ireturn, 1) := by decide +kernel
theorem dX11_held_144 : decode cX11_held 144 = .ok (.aload 4, 2) := by decide +kernel
theorem dX11_held_146 : decode cX11_held 146 = .ok (.getfield 222, 3) := by decide +kernel
theorem dX11_held_149 : decode cX11_held 149 = .ok (.iload_n 2, 1) := by decide +kernel
theorem dX11_held_150 : decode cX11_held 150 = .ok (.iaload, 1) := by decide +kernel
theorem dX11_held_151 : decode cX11_held 151 = .ok (.ireturn, 1) := by decide +kernel
theorem dX11_held_152 : decode cX11_held 152 = .ok (.iconst 0, 1) := by decide +kernel
theorem dX11_held_153 : decode cX11_held 153 = .ok (.ireturn, 1) := by decide +kernel
def F_X11_held (l1 : Int32) (l2 : Int32) (V : sv_V) : Option (Int32 × sv_V) := if (V.1 30 7) = 0 then (some ((0 : Int32), V)) else (if 0 ≤ l2 then (if l1 = 0 then (if (V.1 31 1) ≤ l2 then (some ((0 : Int32), V)) else (if sx_in l2 256 = true then some (V.1 32 l2.toNatClampNeg, V) else none)) else (if l1 = (1 : Int32) then (if (V.1 31 3) ≤ l2 then (some ((0 : Int32), V)) else (if sx_in l2 64 = true then some (V.1 33 l2.toNatClampNeg, V) else none)) else (if l2 < (V.1 34 9) then (if l1 = 2 then (if sx_in l2 64 = true then some (V.1 38 l2.toNatClampNeg, V) else none) else (if l1 = 3 then (if sx_in l2 64 = true then some (V.1 39 l2.toNatClampNeg, V) else none) else (if l1 = 4 then (if sx_in l2 64 = true then some (V.1 40 l2.toNatClampNeg, V) else none) else (if l1 = 5 then (if sx_in l2 64 = true then some (V.1 41 l2.toNatClampNeg, V) else none) else (some ((0 : Int32), V)))))) else (some ((0 : Int32), V))))) else (some ((0 : Int32), V)))
set_option maxRecDepth 20000 in
theorem t_X11_held {g : sx_G} (hG : sx_Go g) {P : Option Value → sv_V → Prop} {r : Int32} {Vr : sv_V} (hP : P (some (.int r)) Vr) {l1 : Int32} {l2 : Int32} {V : sv_V} (h : F_X11_held l1 l2 V = some (r, Vr)) : sv_N g qX11_held 0 0 [(0, .ref 0), (1, .int l1), (2, .int l2)] [] V P := by
  unfold F_X11_held at h
  refine sx_aload_n (pc := 0) dX11_held_0 sx_m0 ?_
  refine sv_getO (pc := 1) hG dX11_held_1 f_11_37 lay_0 rfl cr_0_4 ?_
  refine sv_getO (pc := 4) hG dX11_held_4 f_11_197 lay_30 rfl cr_30_3 ?_
  refine sx_astore_n (pc := 7) (lo' := [(3, .ref 31), (0, .ref 0), (1, .int l1), (2, .int l2)]) dX11_held_7 (by decide) rfl ?_
  refine sx_aload_n (pc := 8) dX11_held_8 sx_m1 ?_
  refine sv_getO (pc := 9) hG dX11_held_9 f_11_37 lay_0 rfl cr_0_4 ?_
  refine sv_getI (pc := 12) hG dX11_held_12 f_11_137 lay_30 rfl ?_
  refine sx_if_eq (pc := 15) (tgt := 22) dX11_held_15 (by decide) (fun c1 => ?_) (fun c1 => ?_)
  · have h := sx_pos c1 h
    refine sx_iconst (pc := 22) (v := 0) dX11_held_22 (by decide) ?_
    exact sv_iret (pc := 23) dX11_held_23 rfl h hP
  · have h := sx_neg c1 h
    refine sx_iload_n (pc := 18) dX11_held_18 sx_m3 ?_
    refine sx_if_ge (pc := 19) (tgt := 24) dX11_held_19 (by decide) (fun c2 => ?_) (fun c2 => ?_)
    · have h := sx_pos c2 h
      refine sx_iload_n (pc := 24) dX11_held_24 sx_m2 ?_
      refine sx_if_ne (pc := 25) (tgt := 47) dX11_held_25 (by decide) (fun c3 => ?_) (fun c3 => ?_)
      · have h := sx_neg c3 h
        refine sx_iload_n (pc := 47) dX11_held_47 sx_m2 ?_
        refine sx_iconst (pc := 48) (v := 1) dX11_held_48 (by decide) ?_
        refine sx_icmp_ne (pc := 49) (tgt := 71) dX11_held_49 (by decide) (fun c4 => ?_) (fun c4 => ?_)
        · have h := sx_neg c4 h
          refine sx_aload_n (pc := 71) dX11_held_71 sx_m0 ?_
          refine sv_getO (pc := 72) hG dX11_held_72 f_11_215 lay_31 rfl cr_31_4 ?_
          refine sx_astore (pc := 75) (lo' := [(4, .ref 34), (3, .ref 31), (0, .ref 0), (1, .int l1), (2, .int l2)]) dX11_held_75 (by decide) rfl ?_
          refine sx_iload_n (pc := 77) dX11_held_77 sx_m4 ?_
          refine sx_aload (pc := 78) dX11_held_78 sx_m0 ?_
          refine sv_getI (pc := 80) hG dX11_held_80 f_11_150 lay_34 rfl ?_
          refine sx_icmp_lt (pc := 83) (tgt := 88) dX11_held_83 (by decide) (fun c5 => ?_) (fun c5 => ?_)
          · have h := sx_pos c5 h
            refine sx_iload_n (pc := 88) dX11_held_88 sx_m3 ?_
            by_cases c6 : l1 = 2
            · have h := sx_pos c6 h
              refine sx_tabI (pc := 89) (off := 31) (tgt := 120) dX11_held_89 (by rw [c6]; decide) (by rw [c6]; decide) (by rw [c6]; rfl) (by decide) ?_
              refine sx_aload (pc := 120) dX11_held_120 sx_m0 ?_
              refine sv_getA (pc := 122) hG dX11_held_122 f_11_155 lay_34 rfl cr_34_0 ?_
              refine sx_iload_n (pc := 125) dX11_held_125 sx_m4 ?_
              obtain ⟨g7, h⟩ := sx_grd h
              refine sv_iald (pc := 126) hG dX11_held_126 lay_38 g7 ?_
              exact sv_iret (pc := 127) dX11_held_127 rfl h hP
            have h := sx_neg c6 h
            by_cases c8 : l1 = 3
            · have h := sx_pos c8 h
              refine sx_tabI (pc := 89) (off := 39) (tgt := 128) dX11_held_89 (by rw [c8]; decide) (by rw [c8]; decide) (by rw [c8]; rfl) (by decide) ?_
              refine sx_aload (pc := 128) dX11_held_128 sx_m0 ?_
              refine sv_getA (pc := 130) hG dX11_held_130 f_11_158 lay_34 rfl cr_34_1 ?_
              refine sx_iload_n (pc := 133) dX11_held_133 sx_m4 ?_
              obtain ⟨g9, h⟩ := sx_grd h
              refine sv_iald (pc := 134) hG dX11_held_134 lay_39 g9 ?_
              exact sv_iret (pc := 135) dX11_held_135 rfl h hP
            have h := sx_neg c8 h
            by_cases c10 : l1 = 4
            · have h := sx_pos c10 h
              refine sx_tabI (pc := 89) (off := 47) (tgt := 136) dX11_held_89 (by rw [c10]; decide) (by rw [c10]; decide) (by rw [c10]; rfl) (by decide) ?_
              refine sx_aload (pc := 136) dX11_held_136 sx_m0 ?_
              refine sv_getA (pc := 138) hG dX11_held_138 f_11_219 lay_34 rfl cr_34_2 ?_
              refine sx_iload_n (pc := 141) dX11_held_141 sx_m4 ?_
              obtain ⟨g11, h⟩ := sx_grd h
              refine sv_iald (pc := 142) hG dX11_held_142 lay_40 g11 ?_
              exact sv_iret (pc := 143) dX11_held_143 rfl h hP
            have h := sx_neg c10 h
            by_cases c12 : l1 = 5
            · have h := sx_pos c12 h
              refine sx_tabI (pc := 89) (off := 55) (tgt := 144) dX11_held_89 (by rw [c12]; decide) (by rw [c12]; decide) (by rw [c12]; rfl) (by decide) ?_
              refine sx_aload (pc := 144) dX11_held_144 sx_m0 ?_
              refine sv_getA (pc := 146) hG dX11_held_146 f_11_222 lay_34 rfl cr_34_3 ?_
              refine sx_iload_n (pc := 149) dX11_held_149 sx_m4 ?_
              obtain ⟨g13, h⟩ := sx_grd h
              refine sv_iald (pc := 150) hG dX11_held_150 lay_41 g13 ?_
              exact sv_iret (pc := 151) dX11_held_151 rfl h hP
            have h := sx_neg c12 h
            refine sx_tabO (pc := 89) (tgt := 152) dX11_held_89 (by have ec6 := lv_neT (a := 2) c6 rfl; have ec8 := lv_neT (a := 3) c8 rfl; have ec10 := lv_neT (a := 4) c10 rfl; have ec12 := lv_neT (a := 5) c12 rfl; omega) (by decide) ?_
            refine sx_iconst (pc := 152) (v := 0) dX11_held_152 (by decide) ?_
            exact sv_iret (pc := 153) dX11_held_153 rfl h hP
          · have h := sx_neg c5 h
            refine sx_iconst (pc := 86) (v := 0) dX11_held_86 (by decide) ?_
            exact sv_iret (pc := 87) dX11_held_87 rfl h hP
        · have h := sx_pos c4 h
          refine sx_iload_n (pc := 52) dX11_held_52 sx_m3 ?_
          refine sx_aload_n (pc := 53) dX11_held_53 sx_m0 ?_
          refine sv_getI (pc := 54) hG dX11_held_54 f_11_209 lay_31 rfl ?_
          refine sx_icmp_ge (pc := 57) (tgt := 69) dX11_held_57 (by decide) (fun c14 => ?_) (fun c14 => ?_)
          · have h := sx_pos c14 h
            refine sx_iconst (pc := 69) (v := 0) dX11_held_69 (by decide) ?_
            exact sv_iret (pc := 70) dX11_held_70 rfl h hP
          · have h := sx_neg c14 h
            refine sx_aload_n (pc := 60) dX11_held_60 sx_m0 ?_
            refine sv_getA (pc := 61) hG dX11_held_61 f_11_212 lay_31 rfl cr_31_2 ?_
            refine sx_iload_n (pc := 64) dX11_held_64 sx_m3 ?_
            obtain ⟨g15, h⟩ := sx_grd h
            refine sv_iald (pc := 65) hG dX11_held_65 lay_33 g15 ?_
            refine sx_goto (pc := 66) (tgt := 70) dX11_held_66 (by decide) ?_
            exact sv_iret (pc := 70) dX11_held_70 rfl h hP
      · have h := sx_pos c3 h
        refine sx_iload_n (pc := 28) dX11_held_28 sx_m3 ?_
        refine sx_aload_n (pc := 29) dX11_held_29 sx_m0 ?_
        refine sv_getI (pc := 30) hG dX11_held_30 f_11_201 lay_31 rfl ?_
        refine sx_icmp_ge (pc := 33) (tgt := 45) dX11_held_33 (by decide) (fun c16 => ?_) (fun c16 => ?_)
        · have h := sx_pos c16 h
          refine sx_iconst (pc := 45) (v := 0) dX11_held_45 (by decide) ?_
          exact sv_iret (pc := 46) dX11_held_46 rfl h hP
        · have h := sx_neg c16 h
          refine sx_aload_n (pc := 36) dX11_held_36 sx_m0 ?_
          refine sv_getA (pc := 37) hG dX11_held_37 f_11_206 lay_31 rfl cr_31_0 ?_
          refine sx_iload_n (pc := 40) dX11_held_40 sx_m3 ?_
          obtain ⟨g17, h⟩ := sx_grd h
          refine sv_iald (pc := 41) hG dX11_held_41 lay_32 g17 ?_
          refine sx_goto (pc := 42) (tgt := 46) dX11_held_42 (by decide) ?_
          exact sv_iret (pc := 46) dX11_held_46 rfl h hP
    · have h := sx_neg c2 h
      refine sx_iconst (pc := 22) (v := 0) dX11_held_22 (by decide) ?_
      exact sv_iret (pc := 23) dX11_held_23 rfl h hP
theorem dX11_pixel_0 : decode cX11_pixel 0 = .ok (.iload_n 1, 1) := by decide +kernel
theorem dX11_pixel_1 : decode cX11_pixel 1 = .ok (.ifCond .lt 29, 3) := by decide +kernel
theorem dX11_pixel_4 : decode cX11_pixel 4 = .ok (.iload_n 1, 1) := by decide +kernel
theorem dX11_pixel_5 : decode cX11_pixel 5 = .ok (.aload_n 0, 1) := by decide +kernel
theorem dX11_pixel_6 : decode cX11_pixel 6 = .ok (.getfield 44, 3) := by decide +kernel
theorem dX11_pixel_9 : decode cX11_pixel 9 = .ok (.getfield 247, 3) := by decide +kernel
theorem dX11_pixel_12 : decode cX11_pixel 12 = .ok (.if_icmp .ge 18, 3) := by decide +kernel
theorem dX11_pixel_15 : decode cX11_pixel 15 = .ok (.iload_n 2, 1) := by decide +kernel
theorem dX11_pixel_16 : decode cX11_pixel 16 = .ok (.ifCond .lt 14, 3) := by decide +kernel
theorem dX11_pixel_19 : decode cX11_pixel 19 = .ok (.iload_n 2, 1) := by decide +kernel
theorem dX11_pixel_20 : decode cX11_pixel 20 = .ok (.aload_n 0, 1) := by decide +kernel
theorem dX11_pixel_21 : decode cX11_pixel 21 = .ok (.getfield 44, 3) := by decide +kernel
theorem dX11_pixel_24 : decode cX11_pixel 24 = .ok (.getfield 254, 3) := by decide +kernel
theorem dX11_pixel_27 : decode cX11_pixel 27 = .ok (.if_icmp .lt 5, 3) := by decide +kernel
theorem dX11_pixel_30 : decode cX11_pixel 30 = .ok (.iconst (-1), 1) := by decide +kernel
theorem dX11_pixel_31 : decode cX11_pixel 31 = .ok (.ireturn, 1) := by decide +kernel
theorem dX11_pixel_32 : decode cX11_pixel 32 = .ok (.aload_n 0, 1) := by decide +kernel
theorem dX11_pixel_33 : decode cX11_pixel 33 = .ok (.getfield 44, 3) := by decide +kernel
theorem dX11_pixel_36 : decode cX11_pixel 36 = .ok (.getfield 257, 3) := by decide +kernel
theorem dX11_pixel_39 : decode cX11_pixel 39 = .ok (.iload_n 2, 1) := by decide +kernel
theorem dX11_pixel_40 : decode cX11_pixel 40 = .ok (.sipush 128, 3) := by decide +kernel
theorem dX11_pixel_43 : decode cX11_pixel 43 = .ok (.imul, 1) := by decide +kernel
theorem dX11_pixel_44 : decode cX11_pixel 44 = .ok (.iload_n 1, 1) := by decide +kernel
theorem dX11_pixel_45 : decode cX11_pixel 45 = .ok (.iadd, 1) := by decide +kernel
theorem dX11_pixel_46 : decode cX11_pixel 46 = .ok (.baload, 1) := by decide +kernel
theorem dX11_pixel_47 : decode cX11_pixel 47 = .ok (.ireturn, 1) := by decide +kernel
def F_X11_pixel (l1 : Int32) (l2 : Int32) (V : sv_V) : Option (Int32 × sv_V) := if l1 < 0 then (some ((-1 : Int32), V)) else (if (V.1 143 1) ≤ l1 then (some ((-1 : Int32), V)) else (if l2 < 0 then (some ((-1 : Int32), V)) else (if l2 < (V.1 143 2) then (if sx_in ((l2 * (128 : Int32)) + l1) 16384 = true then some (V.1 144 ((l2 * (128 : Int32)) + l1).toNatClampNeg, V) else none) else (some ((-1 : Int32), V)))))
set_option maxRecDepth 20000 in
theorem t_X11_pixel {g : sx_G} (hG : sx_Go g) {P : Option Value → sv_V → Prop} {r : Int32} {Vr : sv_V} (hP : P (some (.int r)) Vr) {l1 : Int32} {l2 : Int32} {V : sv_V} (h : F_X11_pixel l1 l2 V = some (r, Vr)) : sv_N g qX11_pixel 0 0 [(0, .ref 0), (1, .int l1), (2, .int l2)] [] V P := by
  unfold F_X11_pixel at h
  refine sx_iload_n (pc := 0) dX11_pixel_0 sx_m1 ?_
  refine sx_if_lt (pc := 1) (tgt := 30) dX11_pixel_1 (by decide) (fun c1 => ?_) (fun c1 => ?_)
  · have h := sx_pos c1 h
    refine sx_iconst (pc := 30) (v := (-1)) dX11_pixel_30 (by decide) ?_
    exact sv_iret (pc := 31) dX11_pixel_31 rfl h hP
  · have h := sx_neg c1 h
    refine sx_iload_n (pc := 4) dX11_pixel_4 sx_m1 ?_
    refine sx_aload_n (pc := 5) dX11_pixel_5 sx_m0 ?_
    refine sv_getO (pc := 6) hG dX11_pixel_6 f_11_44 lay_0 rfl cr_0_5 ?_
    refine sv_getI (pc := 9) hG dX11_pixel_9 f_11_247 lay_143 rfl ?_
    refine sx_icmp_ge (pc := 12) (tgt := 30) dX11_pixel_12 (by decide) (fun c2 => ?_) (fun c2 => ?_)
    · have h := sx_pos c2 h
      refine sx_iconst (pc := 30) (v := (-1)) dX11_pixel_30 (by decide) ?_
      exact sv_iret (pc := 31) dX11_pixel_31 rfl h hP
    · have h := sx_neg c2 h
      refine sx_iload_n (pc := 15) dX11_pixel_15 sx_m2 ?_
      refine sx_if_lt (pc := 16) (tgt := 30) dX11_pixel_16 (by decide) (fun c3 => ?_) (fun c3 => ?_)
      · have h := sx_pos c3 h
        refine sx_iconst (pc := 30) (v := (-1)) dX11_pixel_30 (by decide) ?_
        exact sv_iret (pc := 31) dX11_pixel_31 rfl h hP
      · have h := sx_neg c3 h
        refine sx_iload_n (pc := 19) dX11_pixel_19 sx_m2 ?_
        refine sx_aload_n (pc := 20) dX11_pixel_20 sx_m0 ?_
        refine sv_getO (pc := 21) hG dX11_pixel_21 f_11_44 lay_0 rfl cr_0_5 ?_
        refine sv_getI (pc := 24) hG dX11_pixel_24 f_11_254 lay_143 rfl ?_
        refine sx_icmp_lt (pc := 27) (tgt := 32) dX11_pixel_27 (by decide) (fun c4 => ?_) (fun c4 => ?_)
        · have h := sx_pos c4 h
          refine sx_aload_n (pc := 32) dX11_pixel_32 sx_m0 ?_
          refine sv_getO (pc := 33) hG dX11_pixel_33 f_11_44 lay_0 rfl cr_0_5 ?_
          refine sv_getA (pc := 36) hG dX11_pixel_36 f_11_257 lay_143 rfl cr_143_0 ?_
          refine sx_iload_n (pc := 39) dX11_pixel_39 sx_m2 ?_
          refine sx_sipush (pc := 40) (v := 128) dX11_pixel_40 (by decide) ?_
          refine sx_imul (pc := 43) dX11_pixel_43 ?_
          refine sx_iload_n (pc := 44) dX11_pixel_44 sx_m1 ?_
          refine sx_iadd (pc := 45) dX11_pixel_45 ?_
          obtain ⟨g5, h⟩ := sx_grd h
          refine sv_bald (pc := 46) hG dX11_pixel_46 lay_144 g5 ?_
          exact sv_iret (pc := 47) dX11_pixel_47 rfl h hP
        · have h := sx_neg c4 h
          refine sx_iconst (pc := 30) (v := (-1)) dX11_pixel_30 (by decide) ?_
          exact sv_iret (pc := 31) dX11_pixel_31 rfl h hP
theorem dX11_type_0 : decode cX11_type 0 = .ok (.iload_n 1, 1) := by decide +kernel
theorem dX11_type_1 : decode cX11_type 1 = .ok (.ifCond .lt 9, 3) := by decide +kernel
theorem dX11_type_4 : decode cX11_type 4 = .ok (.iload_n 1, 1) := by decide +kernel
theorem dX11_type_5 : decode cX11_type 5 = .ok (.ldc 111, 2) := by decide +kernel
theorem dX11_type_7 : decode cX11_type 7 = .ok (.if_icmp .le 6, 3) := by decide +kernel
theorem dX11_type_10 : decode cX11_type 10 = .ok (.bipush (-2), 2) := by decide +kernel
theorem dX11_type_12 : decode cX11_type 12 = .ok (.ireturn, 1) := by decide +kernel
theorem dX11_type_13 : decode cX11_type 13 = .ok (.aload_n 0, 1) := by decide +kernel
theorem dX11_type_14 : decode cX11_type 14 = .ok (.getfield 260, 3) := by decide +kernel
theorem dX11_type_17 : decode cX11_type 17 = .ok (.bipush 100, 2) := by decide +kernel
theorem dX11_type_19 : decode cX11_type 19 = .ok (.if_icmp .lt 6, 3) := by decide +kernel
theorem dX11_type_22 : decode cX11_type 22 = .ok (.bipush (-4), 2) := by decide +kernel
theorem dX11_type_24 : decode cX11_type 24 = .ok (.ireturn, 1) := by decide +kernel
theorem dX11_type_25 : decode cX11_type 25 = .ok (.aload_n 0, 1) := by decide +kernel
theorem dX11_type_26 : decode cX11_type 26 = .ok (.getfield 48, 3) := by decide +kernel
theorem dX11_type_29 : decode cX11_type 29 = .ok (.aload_n 0, 1) := by decide +kernel
theorem dX11_type_30 : decode cX11_type 30 = .ok (.getfield 260, 3) := by decide +kernel
theorem dX11_type_33 : decode cX11_type 33 = .ok (.iload_n 1, 1) := by decide +kernel
theorem dX11_type_34 : decode cX11_type 34 = .ok (.iastore, 1) := by decide +kernel
theorem dX11_type_35 : decode cX11_type 35 = .ok (.aload_n 0, 1) := by decide +kernel
theorem dX11_type_36 : decode cX11_type 36 = .ok (.dup, 1) := by decide +kernel
theorem dX11_type_37 : decode cX11_type 37 = .ok (.getfield 260, 3) := by decide +kernel
theorem dX11_type_40 : decode cX11_type 40 = .ok (.iconst 1, 1) := by decide +kernel
theorem dX11_type_41 : decode cX11_type 41 = .ok (.iadd, 1) := by decide +kernel
theorem dX11_type_42 : decode cX11_type 42 = .ok (.putfield 260, 3) := by decide +kernel
theorem dX11_type_45 : decode cX11_type 45 = .ok (.aload_n 0, 1) := by decide +kernel
theorem dX11_type_46 : decode cX11_type 46 = .ok (.getfield 260, 3) := by decide +kernel
theorem dX11_type_49 : decode cX11_type 49 = .ok (.ireturn, 1) := by decide +kernel
def F_X11_type (l1 : Int32) (V : sv_V) : Option (Int32 × sv_V) := if l1 < 0 then (some ((-2 : Int32), V)) else (if l1 ≤ (1114111 : Int32) then (if (V.1 0 7) < (100 : Int32) then (if sx_in (V.1 0 7) 100 = true then sx_let (sv_I V 145 (V.1 0 7).toNatClampNeg l1) (fun V5 => sx_let (sv_I V5 0 7 ((V5.1 0 7) + (1 : Int32))) (fun V6 => some (V6.1 0 7, V6))) else none) else (some ((-4 : Int32), V))) else (some ((-2 : Int32), V)))
set_option maxRecDepth 20000 in
theorem t_X11_type {g : sx_G} (hG : sx_Go g) {P : Option Value → sv_V → Prop} {r : Int32} {Vr : sv_V} (hP : P (some (.int r)) Vr) {l1 : Int32} {V : sv_V} (h : F_X11_type l1 V = some (r, Vr)) : sv_N g qX11_type 0 0 [(0, .ref 0), (1, .int l1)] [] V P := by
  unfold F_X11_type at h
  refine sx_iload_n (pc := 0) dX11_type_0 sx_m1 ?_
  refine sx_if_lt (pc := 1) (tgt := 10) dX11_type_1 (by decide) (fun c1 => ?_) (fun c1 => ?_)
  · have h := sx_pos c1 h
    refine sx_bipush (pc := 10) (v := (-2)) dX11_type_10 (by decide) ?_
    exact sv_iret (pc := 12) dX11_type_12 rfl h hP
  · have h := sx_neg c1 h
    refine sx_iload_n (pc := 4) dX11_type_4 sx_m1 ?_
    refine sx_ldc (pc := 5) dX11_type_5 k_X11_111 ?_
    refine sx_icmp_le (pc := 7) (tgt := 13) dX11_type_7 (by decide) (fun c2 => ?_) (fun c2 => ?_)
    · have h := sx_pos c2 h
      refine sx_aload_n (pc := 13) dX11_type_13 sx_m0 ?_
      refine sv_getI (pc := 14) hG dX11_type_14 f_11_260 lay_0 rfl ?_
      refine sx_bipush (pc := 17) (v := 100) dX11_type_17 (by decide) ?_
      refine sx_icmp_lt (pc := 19) (tgt := 25) dX11_type_19 (by decide) (fun c3 => ?_) (fun c3 => ?_)
      · have h := sx_pos c3 h
        refine sx_aload_n (pc := 25) dX11_type_25 sx_m0 ?_
        refine sv_getA (pc := 26) hG dX11_type_26 f_11_48 lay_0 rfl cr_0_6 ?_
        refine sx_aload_n (pc := 29) dX11_type_29 sx_m0 ?_
        refine sv_getI (pc := 30) hG dX11_type_30 f_11_260 lay_0 rfl ?_
        refine sx_iload_n (pc := 33) dX11_type_33 sx_m1 ?_
        obtain ⟨g4, h⟩ := sx_grd h
        obtain ⟨V5, hV5⟩ : ∃ z : sv_V, z = sv_I V 145 (V.1 0 7).toNatClampNeg l1 := ⟨_, rfl⟩
        have h := sx_letE hV5 h
        refine sv_iast (pc := 34) hG dX11_type_34 lay_145 g4 hV5 ?_
        refine sx_aload_n (pc := 35) dX11_type_35 sx_m0 ?_
        refine sx_dup (pc := 36) dX11_type_36 rfl ?_
        refine sv_getI (pc := 37) hG dX11_type_37 f_11_260 lay_0 rfl ?_
        refine sx_iconst (pc := 40) (v := 1) dX11_type_40 (by decide) ?_
        refine sx_iadd (pc := 41) dX11_type_41 ?_
        obtain ⟨V6, hV6⟩ : ∃ z : sv_V, z = sv_I V5 0 7 ((V5.1 0 7) + (1 : Int32)) := ⟨_, rfl⟩
        have h := sx_letE hV6 h
        refine sv_putI (pc := 42) hG dX11_type_42 f_11_260 lay_0 rfl hV6 ?_
        refine sx_aload_n (pc := 45) dX11_type_45 sx_m0 ?_
        refine sv_getI (pc := 46) hG dX11_type_46 f_11_260 lay_0 rfl ?_
        exact sv_iret (pc := 49) dX11_type_49 rfl h hP
      · have h := sx_neg c3 h
        refine sx_bipush (pc := 22) (v := (-4)) dX11_type_22 (by decide) ?_
        exact sv_iret (pc := 24) dX11_type_24 rfl h hP
    · have h := sx_neg c2 h
      refine sx_bipush (pc := 10) (v := (-2)) dX11_type_10 (by decide) ?_
      exact sv_iret (pc := 12) dX11_type_12 rfl h hP
theorem dX11_isBeyond_0 : decode cX11_isBeyond 0 = .ok (.lload_n 0, 1) := by decide +kernel
theorem dX11_isBeyond_1 : decode cX11_isBeyond 1 = .ok (.iload_n 2, 1) := by decide +kernel
theorem dX11_isBeyond_2 : decode cX11_isBeyond 2 = .ok (.ineg, 1) := by decide +kernel
theorem dX11_isBeyond_3 : decode cX11_isBeyond 3 = .ok (.i2l, 1) := by decide +kernel
theorem dX11_isBeyond_4 : decode cX11_isBeyond 4 = .ok (.lcmp, 1) := by decide +kernel
theorem dX11_isBeyond_5 : decode cX11_isBeyond 5 = .ok (.ifCond .lt 10, 3) := by decide +kernel
theorem dX11_isBeyond_8 : decode cX11_isBeyond 8 = .ok (.lload_n 0, 1) := by decide +kernel
theorem dX11_isBeyond_9 : decode cX11_isBeyond 9 = .ok (.iload_n 2, 1) := by decide +kernel
theorem dX11_isBeyond_10 : decode cX11_isBeyond 10 = .ok (.i2l, 1) := by decide +kernel
theorem dX11_isBeyond_11 : decode cX11_isBeyond 11 = .ok (.lcmp, 1) := by decide +kernel
theorem dX11_isBeyond_12 : decode cX11_isBeyond 12 = .ok (.ifCond .le 7, 3) := by decide +kernel
theorem dX11_isBeyond_15 : decode cX11_isBeyond 15 = .ok (.iconst 1, 1) := by decide +kernel
theorem dX11_isBeyond_16 : decode cX11_isBeyond 16 = .ok (.goto 4, 3) := by decide +kernel
theorem dX11_isBeyond_19 : decode cX11_isBeyond 19 = .ok (.iconst 0, 1) := by decide +kernel
theorem dX11_isBeyond_20 : decode cX11_isBeyond 20 = .ok (.ireturn, 1) := by decide +kernel
def B_X11_isBeyond_15   (V : sv_V) : Option (Int32 × sv_V) := some ((1 : Int32), V)
set_option maxRecDepth 20000 in
theorem tB_X11_isBeyond_15 {g : sx_G} (hG : sx_Go g) {P : Option Value → sv_V → Prop} {r : Int32} {Vr : sv_V} (hP : P (some (.int r)) Vr)    {V : sv_V} (h : B_X11_isBeyond_15   V = some (r, Vr)) : sv_N g qX11_isBeyond 0 15 [] [] V P := by
  unfold B_X11_isBeyond_15 at h
  refine sx_iconst (pc := 15) (v := 1) dX11_isBeyond_15 (by decide) ?_
  refine sx_goto (pc := 16) (tgt := 20) dX11_isBeyond_16 (by decide) ?_
  exact sv_zret (pc := 20) dX11_isBeyond_20 rfl rfl h hP
def F_X11_isBeyond (l0 : Int64) (l2 : Int32) (V : sv_V) : Option (Int32 × sv_V) := if (lg_cmp l0 ((-l2).toInt64)) < 0 then (B_X11_isBeyond_15   V) else (if (lg_cmp l0 l2.toInt64) ≤ 0 then (some ((0 : Int32), V)) else (B_X11_isBeyond_15   V))
set_option maxRecDepth 20000 in
theorem t_X11_isBeyond {g : sx_G} (hG : sx_Go g) {P : Option Value → sv_V → Prop} {r : Int32} {Vr : sv_V} (hP : P (some (.int r)) Vr) {l0 : Int64} {l2 : Int32} {V : sv_V} (h : F_X11_isBeyond l0 l2 V = some (r, Vr)) : sv_N g qX11_isBeyond 0 0 [(0, .long l0), (2, .int l2)] [] V P := by
  unfold F_X11_isBeyond at h
  refine sx_lload_n (pc := 0) dX11_isBeyond_0 sx_m0 ?_
  refine sx_iload_n (pc := 1) dX11_isBeyond_1 sx_m1 ?_
  refine sx_ineg (pc := 2) dX11_isBeyond_2 ?_
  refine sx_i2l (pc := 3) dX11_isBeyond_3 ?_
  refine sx_lcmp (pc := 4) dX11_isBeyond_4 ?_
  refine sx_if_lt (pc := 5) (tgt := 15) dX11_isBeyond_5 (by decide) (fun c1 => ?_) (fun c1 => ?_)
  · have h := sx_pos c1 h
    refine sx_wk sx_s0 ?_
    exact tB_X11_isBeyond_15 hG hP  h
  · have h := sx_neg c1 h
    refine sx_lload_n (pc := 8) dX11_isBeyond_8 sx_m0 ?_
    refine sx_iload_n (pc := 9) dX11_isBeyond_9 sx_m1 ?_
    refine sx_i2l (pc := 10) dX11_isBeyond_10 ?_
    refine sx_lcmp (pc := 11) dX11_isBeyond_11 ?_
    refine sx_if_le (pc := 12) (tgt := 19) dX11_isBeyond_12 (by decide) (fun c2 => ?_) (fun c2 => ?_)
    · have h := sx_pos c2 h
      refine sx_iconst (pc := 19) (v := 0) dX11_isBeyond_19 (by decide) ?_
      exact sv_zret (pc := 20) dX11_isBeyond_20 rfl rfl h hP
    · have h := sx_neg c2 h
      refine sx_wk sx_s0 ?_
      exact tB_X11_isBeyond_15 hG hP  h
theorem dX11_nearest_0 : decode cX11_nearest 0 = .ok (.lload_n 2, 1) := by decide +kernel
theorem dX11_nearest_1 : decode cX11_nearest 1 = .ok (.lconst 0, 1) := by decide +kernel
theorem dX11_nearest_2 : decode cX11_nearest 2 = .ok (.lcmp, 1) := by decide +kernel
theorem dX11_nearest_3 : decode cX11_nearest 3 = .ok (.ifCond .ne 5, 3) := by decide +kernel
theorem dX11_nearest_6 : decode cX11_nearest 6 = .ok (.lconst 0, 1) := by decide +kernel
theorem dX11_nearest_7 : decode cX11_nearest 7 = .ok (.lreturn, 1) := by decide +kernel
theorem dX11_nearest_8 : decode cX11_nearest 8 = .ok (.lload_n 0, 1) := by decide +kernel
theorem dX11_nearest_9 : decode cX11_nearest 9 = .ok (.lload_n 2, 1) := by decide +kernel
theorem dX11_nearest_10 : decode cX11_nearest 10 = .ok (.ldiv, 1) := by decide +kernel
theorem dX11_nearest_11 : decode cX11_nearest 11 = .ok (.lstore 4, 2) := by decide +kernel
theorem dX11_nearest_13 : decode cX11_nearest 13 = .ok (.lload_n 0, 1) := by decide +kernel
theorem dX11_nearest_14 : decode cX11_nearest 14 = .ok (.lload_n 2, 1) := by decide +kernel
theorem dX11_nearest_15 : decode cX11_nearest 15 = .ok (.lrem, 1) := by decide +kernel
theorem dX11_nearest_16 : decode cX11_nearest 16 = .ok (.lstore 6, 2) := by decide +kernel
theorem dX11_nearest_18 : decode cX11_nearest 18 = .ok (.lload 6, 2) := by decide +kernel
theorem dX11_nearest_20 : decode cX11_nearest 20 = .ok (.lconst 0, 1) := by decide +kernel
theorem dX11_nearest_21 : decode cX11_nearest 21 = .ok (.lcmp, 1) := by decide +kernel
theorem dX11_nearest_22 : decode cX11_nearest 22 = .ok (.ifCond .ge 8, 3) := by decide +kernel
theorem dX11_nearest_25 : decode cX11_nearest 25 = .ok (.lload 6, 2) := by decide +kernel
theorem dX11_nearest_27 : decode cX11_nearest 27 = .ok (.goto 6, 3) := by decide +kernel
theorem dX11_nearest_30 : decode cX11_nearest 30 = .ok (.lload 6, 2) := by decide +kernel
theorem dX11_nearest_32 : decode cX11_nearest 32 = .ok (.lneg, 1) := by decide +kernel
theorem dX11_nearest_33 : decode cX11_nearest 33 = .ok (.lstore 8, 2) := by decide +kernel
theorem dX11_nearest_35 : decode cX11_nearest 35 = .ok (.lload_n 2, 1) := by decide +kernel
theorem dX11_nearest_36 : decode cX11_nearest 36 = .ok (.lconst 0, 1) := by decide +kernel
theorem dX11_nearest_37 : decode cX11_nearest 37 = .ok (.lcmp, 1) := by decide +kernel
theorem dX11_nearest_38 : decode cX11_nearest 38 = .ok (.ifCond .ge 7, 3) := by decide +kernel
theorem dX11_nearest_41 : decode cX11_nearest 41 = .ok (.lload_n 2, 1) := by decide +kernel
theorem dX11_nearest_42 : decode cX11_nearest 42 = .ok (.goto 5, 3) := by decide +kernel
theorem dX11_nearest_45 : decode cX11_nearest 45 = .ok (.lload_n 2, 1) := by decide +kernel
theorem dX11_nearest_46 : decode cX11_nearest 46 = .ok (.lneg, 1) := by decide +kernel
theorem dX11_nearest_47 : decode cX11_nearest 47 = .ok (.lstore 10, 2) := by decide +kernel
theorem dX11_nearest_49 : decode cX11_nearest 49 = .ok (.lload 8, 2) := by decide +kernel
theorem dX11_nearest_51 : decode cX11_nearest 51 = .ok (.lload 10, 2) := by decide +kernel
theorem dX11_nearest_53 : decode cX11_nearest 53 = .ok (.lload 8, 2) := by decide +kernel
theorem dX11_nearest_55 : decode cX11_nearest 55 = .ok (.lsub, 1) := by decide +kernel
theorem dX11_nearest_56 : decode cX11_nearest 56 = .ok (.lcmp, 1) := by decide +kernel
theorem dX11_nearest_57 : decode cX11_nearest 57 = .ok (.ifCond .le 6, 3) := by decide +kernel
theorem dX11_nearest_60 : decode cX11_nearest 60 = .ok (.lload 4, 2) := by decide +kernel
theorem dX11_nearest_62 : decode cX11_nearest 62 = .ok (.lreturn, 1) := by decide +kernel
theorem dX11_nearest_63 : decode cX11_nearest 63 = .ok (.lload_n 0, 1) := by decide +kernel
theorem dX11_nearest_64 : decode cX11_nearest 64 = .ok (.lconst 0, 1) := by decide +kernel
theorem dX11_nearest_65 : decode cX11_nearest 65 = .ok (.lcmp, 1) := by decide +kernel
theorem dX11_nearest_66 : decode cX11_nearest 66 = .ok (.ifCond .ge 7, 3) := by decide +kernel
theorem dX11_nearest_69 : decode cX11_nearest 69 = .ok (.iconst 1, 1) := by decide +kernel
theorem dX11_nearest_70 : decode cX11_nearest 70 = .ok (.goto 4, 3) := by decide +kernel
theorem dX11_nearest_73 : decode cX11_nearest 73 = .ok (.iconst 0, 1) := by decide +kernel
theorem dX11_nearest_74 : decode cX11_nearest 74 = .ok (.lload_n 2, 1) := by decide +kernel
theorem dX11_nearest_75 : decode cX11_nearest 75 = .ok (.lconst 0, 1) := by decide +kernel
theorem dX11_nearest_76 : decode cX11_nearest 76 = .ok (.lcmp, 1) := by decide +kernel
theorem dX11_nearest_77 : decode cX11_nearest 77 = .ok (.ifCond .ge 7, 3) := by decide +kernel
theorem dX11_nearest_80 : decode cX11_nearest 80 = .ok (.iconst 1, 1) := by decide +kernel
theorem dX11_nearest_81 : decode cX11_nearest 81 = .ok (.goto 4, 3) := by decide +kernel
theorem dX11_nearest_84 : decode cX11_nearest 84 = .ok (.iconst 0, 1) := by decide +kernel
theorem dX11_nearest_85 : decode cX11_nearest 85 = .ok (.if_icmp .eq 10, 3) := by decide +kernel
theorem dX11_nearest_88 : decode cX11_nearest 88 = .ok (.lload 4, 2) := by decide +kernel
theorem dX11_nearest_90 : decode cX11_nearest 90 = .ok (.lconst 1, 1) := by decide +kernel
theorem dX11_nearest_91 : decode cX11_nearest 91 = .ok (.lsub, 1) := by decide +kernel
theorem dX11_nearest_92 : decode cX11_nearest 92 = .ok (.goto 7, 3) := by decide +kernel
theorem dX11_nearest_95 : decode cX11_nearest 95 = .ok (.lload 4, 2) := by decide +kernel
theorem dX11_nearest_97 : decode cX11_nearest 97 = .ok (.lconst 1, 1) := by decide +kernel
theorem dX11_nearest_98 : decode cX11_nearest 98 = .ok (.ladd, 1) := by decide +kernel
theorem dX11_nearest_99 : decode cX11_nearest 99 = .ok (.lreturn, 1) := by decide +kernel
def B_X11_nearest_85  (l4 : Int64) (s0 : Int32) (s1 : Int32) (V : sv_V) : Option (Int64 × sv_V) := if s0 = s1 then (some (l4 + (1 : Int64), V)) else (some (l4 - (1 : Int64), V))
set_option maxRecDepth 20000 in
theorem tB_X11_nearest_85 {g : sx_G} (hG : sx_Go g) {P : Option Value → sv_V → Prop} {r : Int64} {Vr : sv_V} (hP : P (some (.long r)) Vr)   {l4 : Int64} {s0 : Int32} {s1 : Int32} {V : sv_V} (h : B_X11_nearest_85  l4 s0 s1 V = some (r, Vr)) : sv_N g qX11_nearest 0 85 [(4, .long l4)] [.int s1, .int s0] V P := by
  unfold B_X11_nearest_85 at h
  refine sx_icmp_eq (pc := 85) (tgt := 95) dX11_nearest_85 (by decide) (fun c1 => ?_) (fun c1 => ?_)
  · have h := sx_pos c1 h
    refine sx_lload (pc := 95) dX11_nearest_95 sx_m0 ?_
    refine sx_lconst (pc := 97) (v := 1) dX11_nearest_97 rfl ?_
    refine sx_ladd (pc := 98) dX11_nearest_98 ?_
    exact sv_lret (pc := 99) dX11_nearest_99 rfl h hP
  · have h := sx_neg c1 h
    refine sx_lload (pc := 88) dX11_nearest_88 sx_m0 ?_
    refine sx_lconst (pc := 90) (v := 1) dX11_nearest_90 rfl ?_
    refine sx_lsub (pc := 91) dX11_nearest_91 ?_
    refine sx_goto (pc := 92) (tgt := 99) dX11_nearest_92 (by decide) ?_
    exact sv_lret (pc := 99) dX11_nearest_99 rfl h hP
def B_X11_nearest_74  (l2 : Int64) (l4 : Int64) (s0 : Int32) (V : sv_V) : Option (Int64 × sv_V) := if 0 ≤ (lg_cmp l2 (0 : Int64)) then (B_X11_nearest_85  l4 s0 (0 : Int32) V) else (B_X11_nearest_85  l4 s0 (1 : Int32) V)
set_option maxRecDepth 20000 in
theorem tB_X11_nearest_74 {g : sx_G} (hG : sx_Go g) {P : Option Value → sv_V → Prop} {r : Int64} {Vr : sv_V} (hP : P (some (.long r)) Vr)   {l2 : Int64} {l4 : Int64} {s0 : Int32} {V : sv_V} (h : B_X11_nearest_74  l2 l4 s0 V = some (r, Vr)) : sv_N g qX11_nearest 0 74 [(2, .long l2), (4, .long l4)] [.int s0] V P := by
  unfold B_X11_nearest_74 at h
  refine sx_lload_n (pc := 74) dX11_nearest_74 sx_m0 ?_
  refine sx_lconst (pc := 75) (v := 0) dX11_nearest_75 rfl ?_
  refine sx_lcmp (pc := 76) dX11_nearest_76 ?_
  refine sx_if_ge (pc := 77) (tgt := 84) dX11_nearest_77 (by decide) (fun c2 => ?_) (fun c2 => ?_)
  · have h := sx_pos c2 h
    refine sx_iconst (pc := 84) (v := 0) dX11_nearest_84 (by decide) ?_
    refine sx_wk (sx_s1 sx_m1 sx_s0) ?_
    exact tB_X11_nearest_85 hG hP  h
  · have h := sx_neg c2 h
    refine sx_iconst (pc := 80) (v := 1) dX11_nearest_80 (by decide) ?_
    refine sx_goto (pc := 81) (tgt := 85) dX11_nearest_81 (by decide) ?_
    refine sx_wk (sx_s1 sx_m1 sx_s0) ?_
    exact tB_X11_nearest_85 hG hP  h
def B_X11_nearest_47  (l0 : Int64) (l2 : Int64) (l4 : Int64) (l8 : Int64) (s0 : Int64) (V : sv_V) : Option (Int64 × sv_V) := if (lg_cmp l8 (s0 - l8)) ≤ 0 then (if 0 ≤ (lg_cmp l0 (0 : Int64)) then (B_X11_nearest_74  l2 l4 (0 : Int32) V) else (B_X11_nearest_74  l2 l4 (1 : Int32) V)) else (some (l4, V))
set_option maxRecDepth 20000 in
theorem tB_X11_nearest_47 {g : sx_G} (hG : sx_Go g) {P : Option Value → sv_V → Prop} {r : Int64} {Vr : sv_V} (hP : P (some (.long r)) Vr)   {l0 : Int64} {l2 : Int64} {l4 : Int64} {l8 : Int64} {s0 : Int64} {V : sv_V} (h : B_X11_nearest_47  l0 l2 l4 l8 s0 V = some (r, Vr)) : sv_N g qX11_nearest 0 47 [(0, .long l0), (2, .long l2), (4, .long l4), (8, .long l8)] [.long s0] V P := by
  unfold B_X11_nearest_47 at h
  refine sx_lstore (pc := 47) (lo' := [(10, .long s0), (0, .long l0), (2, .long l2), (4, .long l4), (8, .long l8)]) dX11_nearest_47 (by decide) rfl ?_
  refine sx_lload (pc := 49) dX11_nearest_49 sx_m4 ?_
  refine sx_lload (pc := 51) dX11_nearest_51 sx_m0 ?_
  refine sx_lload (pc := 53) dX11_nearest_53 sx_m4 ?_
  refine sx_lsub (pc := 55) dX11_nearest_55 ?_
  refine sx_lcmp (pc := 56) dX11_nearest_56 ?_
  refine sx_if_le (pc := 57) (tgt := 63) dX11_nearest_57 (by decide) (fun c3 => ?_) (fun c3 => ?_)
  · have h := sx_pos c3 h
    refine sx_lload_n (pc := 63) dX11_nearest_63 sx_m1 ?_
    refine sx_lconst (pc := 64) (v := 0) dX11_nearest_64 rfl ?_
    refine sx_lcmp (pc := 65) dX11_nearest_65 ?_
    refine sx_if_ge (pc := 66) (tgt := 73) dX11_nearest_66 (by decide) (fun c4 => ?_) (fun c4 => ?_)
    · have h := sx_pos c4 h
      refine sx_iconst (pc := 73) (v := 0) dX11_nearest_73 (by decide) ?_
      refine sx_wk (sx_s1 sx_m2 (sx_s1 sx_m3 sx_s0)) ?_
      exact tB_X11_nearest_74 hG hP  h
    · have h := sx_neg c4 h
      refine sx_iconst (pc := 69) (v := 1) dX11_nearest_69 (by decide) ?_
      refine sx_goto (pc := 70) (tgt := 74) dX11_nearest_70 (by decide) ?_
      refine sx_wk (sx_s1 sx_m2 (sx_s1 sx_m3 sx_s0)) ?_
      exact tB_X11_nearest_74 hG hP  h
  · have h := sx_neg c3 h
    refine sx_lload (pc := 60) dX11_nearest_60 sx_m3 ?_
    exact sv_lret (pc := 62) dX11_nearest_62 rfl h hP
def B_X11_nearest_33  (l0 : Int64) (l2 : Int64) (l4 : Int64) (s0 : Int64) (V : sv_V) : Option (Int64 × sv_V) := if 0 ≤ (lg_cmp l2 (0 : Int64)) then (B_X11_nearest_47  l0 l2 l4 s0 (-l2) V) else (B_X11_nearest_47  l0 l2 l4 s0 l2 V)
set_option maxRecDepth 20000 in
theorem tB_X11_nearest_33 {g : sx_G} (hG : sx_Go g) {P : Option Value → sv_V → Prop} {r : Int64} {Vr : sv_V} (hP : P (some (.long r)) Vr)   {l0 : Int64} {l2 : Int64} {l4 : Int64} {s0 : Int64} {V : sv_V} (h : B_X11_nearest_33  l0 l2 l4 s0 V = some (r, Vr)) : sv_N g qX11_nearest 0 33 [(0, .long l0), (2, .long l2), (4, .long l4)] [.long s0] V P := by
  unfold B_X11_nearest_33 at h
  refine sx_lstore (pc := 33) (lo' := [(8, .long s0), (0, .long l0), (2, .long l2), (4, .long l4)]) dX11_nearest_33 (by decide) rfl ?_
  refine sx_lload_n (pc := 35) dX11_nearest_35 sx_m2 ?_
  refine sx_lconst (pc := 36) (v := 0) dX11_nearest_36 rfl ?_
  refine sx_lcmp (pc := 37) dX11_nearest_37 ?_
  refine sx_if_ge (pc := 38) (tgt := 45) dX11_nearest_38 (by decide) (fun c5 => ?_) (fun c5 => ?_)
  · have h := sx_pos c5 h
    refine sx_lload_n (pc := 45) dX11_nearest_45 sx_m2 ?_
    refine sx_lneg (pc := 46) dX11_nearest_46 ?_
    refine sx_wk (sx_s1 sx_m1 (sx_s1 sx_m2 (sx_s1 sx_m3 (sx_s1 sx_m0 sx_s0)))) ?_
    exact tB_X11_nearest_47 hG hP  h
  · have h := sx_neg c5 h
    refine sx_lload_n (pc := 41) dX11_nearest_41 sx_m2 ?_
    refine sx_goto (pc := 42) (tgt := 47) dX11_nearest_42 (by decide) ?_
    refine sx_wk (sx_s1 sx_m1 (sx_s1 sx_m2 (sx_s1 sx_m3 (sx_s1 sx_m0 sx_s0)))) ?_
    exact tB_X11_nearest_47 hG hP  h
def F_X11_nearest (l0 : Int64) (l2 : Int64) (V : sv_V) : Option (Int64 × sv_V) := if (lg_cmp l2 (0 : Int64)) = 0 then (some ((0 : Int64), V)) else (if ¬ l2 = 0 then sx_let (l0 / l2) (fun x8 => if ¬ l2 = 0 then sx_let (l0 - l0 / l2 * l2) (fun x10 => if 0 ≤ (lg_cmp x10 (0 : Int64)) then (B_X11_nearest_33  l0 l2 x8 (-x10) V) else (B_X11_nearest_33  l0 l2 x8 x10 V)) else none) else none)
set_option maxRecDepth 20000 in
theorem t_X11_nearest {g : sx_G} (hG : sx_Go g) {P : Option Value → sv_V → Prop} {r : Int64} {Vr : sv_V} (hP : P (some (.long r)) Vr) {l0 : Int64} {l2 : Int64} {V : sv_V} (h : F_X11_nearest l0 l2 V = some (r, Vr)) : sv_N g qX11_nearest 0 0 [(0, .long l0), (2, .long l2)] [] V P := by
  unfold F_X11_nearest at h
  refine sx_lload_n (pc := 0) dX11_nearest_0 sx_m1 ?_
  refine sx_lconst (pc := 1) (v := 0) dX11_nearest_1 rfl ?_
  refine sx_lcmp (pc := 2) dX11_nearest_2 ?_
  refine sx_if_ne (pc := 3) (tgt := 8) dX11_nearest_3 (by decide) (fun c6 => ?_) (fun c6 => ?_)
  · have h := sx_neg c6 h
    refine sx_lload_n (pc := 8) dX11_nearest_8 sx_m0 ?_
    refine sx_lload_n (pc := 9) dX11_nearest_9 sx_m1 ?_
    obtain ⟨g7, h⟩ := sx_grd h
    refine sx_ldiv (pc := 10) dX11_nearest_10 g7 ?_
    refine sv_tJ (fun x8 hx8 => ?_)
    have h := sx_letE hx8 h
    refine sx_lstore (pc := 11) (lo' := [(4, .long x8), (0, .long l0), (2, .long l2)]) dX11_nearest_11 (by decide) rfl ?_
    refine sx_lload_n (pc := 13) dX11_nearest_13 sx_m1 ?_
    refine sx_lload_n (pc := 14) dX11_nearest_14 sx_m2 ?_
    obtain ⟨g9, h⟩ := sx_grd h
    refine sx_lrem (pc := 15) dX11_nearest_15 g9 ?_
    refine sv_tJ (fun x10 hx10 => ?_)
    have h := sx_letE hx10 h
    refine sx_lstore (pc := 16) (lo' := [(6, .long x10), (4, .long x8), (0, .long l0), (2, .long l2)]) dX11_nearest_16 (by decide) rfl ?_
    refine sx_lload (pc := 18) dX11_nearest_18 sx_m0 ?_
    refine sx_lconst (pc := 20) (v := 0) dX11_nearest_20 rfl ?_
    refine sx_lcmp (pc := 21) dX11_nearest_21 ?_
    refine sx_if_ge (pc := 22) (tgt := 30) dX11_nearest_22 (by decide) (fun c11 => ?_) (fun c11 => ?_)
    · have h := sx_pos c11 h
      refine sx_lload (pc := 30) dX11_nearest_30 sx_m0 ?_
      refine sx_lneg (pc := 32) dX11_nearest_32 ?_
      refine sx_wk (sx_s1 sx_m2 (sx_s1 sx_m3 (sx_s1 sx_m1 sx_s0))) ?_
      exact tB_X11_nearest_33 hG hP  h
    · have h := sx_neg c11 h
      refine sx_lload (pc := 25) dX11_nearest_25 sx_m0 ?_
      refine sx_goto (pc := 27) (tgt := 33) dX11_nearest_27 (by decide) ?_
      refine sx_wk (sx_s1 sx_m2 (sx_s1 sx_m3 (sx_s1 sx_m1 sx_s0))) ?_
      exact tB_X11_nearest_33 hG hP  h
  · have h := sx_pos c6 h
    refine sx_lconst (pc := 6) (v := 0) dX11_nearest_6 rfl ?_
    exact sv_lret (pc := 7) dX11_nearest_7 rfl h hP
theorem dX12_in_0 : decode cX12_in 0 = .ok (.lload_n 0, 1) := by decide +kernel
theorem dX12_in_1 : decode cX12_in 1 = .ok (.lload_n 2, 1) := by decide +kernel
theorem dX12_in_2 : decode cX12_in 2 = .ok (.lcmp, 1) := by decide +kernel
theorem dX12_in_3 : decode cX12_in 3 = .ok (.ifCond .lt 14, 3) := by decide +kernel
theorem dX12_in_6 : decode cX12_in 6 = .ok (.lload_n 0, 1) := by decide +kernel
theorem dX12_in_7 : decode cX12_in 7 = .ok (.lload 4, 2) := by decide +kernel
theorem dX12_in_9 : decode cX12_in 9 = .ok (.lcmp, 1) := by decide +kernel
theorem dX12_in_10 : decode cX12_in 10 = .ok (.ifCond .gt 7, 3) := by decide +kernel
theorem dX12_in_13 : decode cX12_in 13 = .ok (.iconst 1, 1) := by decide +kernel
theorem dX12_in_14 : decode cX12_in 14 = .ok (.goto 4, 3) := by decide +kernel
theorem dX12_in_17 : decode cX12_in 17 = .ok (.iconst 0, 1) := by decide +kernel
theorem dX12_in_18 : decode cX12_in 18 = .ok (.ireturn, 1) := by decide +kernel
def F_X12_in (l0 : Int64) (l2 : Int64) (l4 : Int64) (V : sv_V) : Option (Int32 × sv_V) := if (lg_cmp l0 l2) < 0 then (some ((0 : Int32), V)) else (if 0 < (lg_cmp l0 l4) then (some ((0 : Int32), V)) else (some ((1 : Int32), V)))
set_option maxRecDepth 20000 in
theorem t_X12_in {g : sx_G} (hG : sx_Go g) {P : Option Value → sv_V → Prop} {r : Int32} {Vr : sv_V} (hP : P (some (.int r)) Vr) {l0 : Int64} {l2 : Int64} {l4 : Int64} {V : sv_V} (h : F_X12_in l0 l2 l4 V = some (r, Vr)) : sv_N g qX12_in 0 0 [(0, .long l0), (2, .long l2), (4, .long l4)] [] V P := by
  unfold F_X12_in at h
  refine sx_lload_n (pc := 0) dX12_in_0 sx_m0 ?_
  refine sx_lload_n (pc := 1) dX12_in_1 sx_m1 ?_
  refine sx_lcmp (pc := 2) dX12_in_2 ?_
  refine sx_if_lt (pc := 3) (tgt := 17) dX12_in_3 (by decide) (fun c1 => ?_) (fun c1 => ?_)
  · have h := sx_pos c1 h
    refine sx_iconst (pc := 17) (v := 0) dX12_in_17 (by decide) ?_
    exact sv_zret (pc := 18) dX12_in_18 rfl rfl h hP
  · have h := sx_neg c1 h
    refine sx_lload_n (pc := 6) dX12_in_6 sx_m0 ?_
    refine sx_lload (pc := 7) dX12_in_7 sx_m2 ?_
    refine sx_lcmp (pc := 9) dX12_in_9 ?_
    refine sx_if_gt (pc := 10) (tgt := 17) dX12_in_10 (by decide) (fun c2 => ?_) (fun c2 => ?_)
    · have h := sx_pos c2 h
      refine sx_iconst (pc := 17) (v := 0) dX12_in_17 (by decide) ?_
      exact sv_zret (pc := 18) dX12_in_18 rfl rfl h hP
    · have h := sx_neg c2 h
      refine sx_iconst (pc := 13) (v := 1) dX12_in_13 (by decide) ?_
      refine sx_goto (pc := 14) (tgt := 18) dX12_in_14 (by decide) ?_
      exact sv_zret (pc := 18) dX12_in_18 rfl rfl h hP
theorem dX12_sizeOf_0 : decode cX12_sizeOf 0 = .ok (.lload_n 0, 1) := by decide +kernel
theorem dX12_sizeOf_1 : decode cX12_sizeOf 1 = .ok (.lconst 0, 1) := by decide +kernel
theorem dX12_sizeOf_2 : decode cX12_sizeOf 2 = .ok (.lcmp, 1) := by decide +kernel
theorem dX12_sizeOf_3 : decode cX12_sizeOf 3 = .ok (.ifCond .ge 8, 3) := by decide +kernel
theorem dX12_sizeOf_6 : decode cX12_sizeOf 6 = .ok (.lload_n 0, 1) := by decide +kernel
theorem dX12_sizeOf_7 : decode cX12_sizeOf 7 = .ok (.lneg, 1) := by decide +kernel
theorem dX12_sizeOf_8 : decode cX12_sizeOf 8 = .ok (.goto 4, 3) := by decide +kernel
theorem dX12_sizeOf_11 : decode cX12_sizeOf 11 = .ok (.lload_n 0, 1) := by decide +kernel
theorem dX12_sizeOf_12 : decode cX12_sizeOf 12 = .ok (.lreturn, 1) := by decide +kernel
def F_X12_sizeOf (l0 : Int64) (V : sv_V) : Option (Int64 × sv_V) := if 0 ≤ (lg_cmp l0 (0 : Int64)) then (some (l0, V)) else (some (-l0, V))
set_option maxRecDepth 20000 in
theorem t_X12_sizeOf {g : sx_G} (hG : sx_Go g) {P : Option Value → sv_V → Prop} {r : Int64} {Vr : sv_V} (hP : P (some (.long r)) Vr) {l0 : Int64} {V : sv_V} (h : F_X12_sizeOf l0 V = some (r, Vr)) : sv_N g qX12_sizeOf 0 0 [(0, .long l0)] [] V P := by
  unfold F_X12_sizeOf at h
  refine sx_lload_n (pc := 0) dX12_sizeOf_0 sx_m0 ?_
  refine sx_lconst (pc := 1) (v := 0) dX12_sizeOf_1 rfl ?_
  refine sx_lcmp (pc := 2) dX12_sizeOf_2 ?_
  refine sx_if_ge (pc := 3) (tgt := 11) dX12_sizeOf_3 (by decide) (fun c1 => ?_) (fun c1 => ?_)
  · have h := sx_pos c1 h
    refine sx_lload_n (pc := 11) dX12_sizeOf_11 sx_m0 ?_
    exact sv_lret (pc := 12) dX12_sizeOf_12 rfl h hP
  · have h := sx_neg c1 h
    refine sx_lload_n (pc := 6) dX12_sizeOf_6 sx_m0 ?_
    refine sx_lneg (pc := 7) dX12_sizeOf_7 ?_
    refine sx_goto (pc := 8) (tgt := 12) dX12_sizeOf_8 (by decide) ?_
    exact sv_lret (pc := 12) dX12_sizeOf_12 rfl h hP
theorem dX12_toPixel_0 : decode cX12_toPixel 0 = .ok (.lload_n 0, 1) := by decide +kernel
theorem dX12_toPixel_1 : decode cX12_toPixel 1 = .ok (.ldc2_w 202, 3) := by decide +kernel
theorem dX12_toPixel_4 : decode cX12_toPixel 4 = .ok (.ladd, 1) := by decide +kernel
theorem dX12_toPixel_5 : decode cX12_toPixel 5 = .ok (.ldc2_w 204, 3) := by decide +kernel
theorem dX12_toPixel_8 : decode cX12_toPixel 8 = .ok (.land, 1) := by decide +kernel
theorem dX12_toPixel_9 : decode cX12_toPixel 9 = .ok (.l2i, 1) := by decide +kernel
theorem dX12_toPixel_10 : decode cX12_toPixel 10 = .ok (.ireturn, 1) := by decide +kernel
def F_X12_toPixel (l0 : Int64) (V : sv_V) : Option (Int32 × sv_V) := some (((l0 + (32 : Int64)) &&& (-64 : Int64)).toInt32, V)
set_option maxRecDepth 20000 in
theorem t_X12_toPixel {g : sx_G} (hG : sx_Go g) {P : Option Value → sv_V → Prop} {r : Int32} {Vr : sv_V} (hP : P (some (.int r)) Vr) {l0 : Int64} {V : sv_V} (h : F_X12_toPixel l0 V = some (r, Vr)) : sv_N g qX12_toPixel 0 0 [(0, .long l0)] [] V P := by
  unfold F_X12_toPixel at h
  refine sx_lload_n (pc := 0) dX12_toPixel_0 sx_m0 ?_
  refine sx_ldc2 (pc := 1) dX12_toPixel_1 k_X12_202 ?_
  refine sx_ladd (pc := 4) dX12_toPixel_4 ?_
  refine sx_ldc2 (pc := 5) dX12_toPixel_5 k_X12_204 ?_
  refine sx_land (pc := 8) dX12_toPixel_8 ?_
  refine sx_l2i (pc := 9) dX12_toPixel_9 ?_
  exact sv_iret (pc := 10) dX12_toPixel_10 rfl h hP
theorem dX12_u1_0 : decode cX12_u1 0 = .ok (.iload_n 1, 1) := by decide +kernel
theorem dX12_u1_1 : decode cX12_u1 1 = .ok (.ifCond .lt 24, 3) := by decide +kernel
theorem dX12_u1_4 : decode cX12_u1 4 = .ok (.iload_n 1, 1) := by decide +kernel
theorem dX12_u1_5 : decode cX12_u1 5 = .ok (.aload_n 0, 1) := by decide +kernel
theorem dX12_u1_6 : decode cX12_u1 6 = .ok (.getfield 206, 3) := by decide +kernel
theorem dX12_u1_9 : decode cX12_u1 9 = .ok (.if_icmp .ge 16, 3) := by decide +kernel
theorem dX12_u1_12 : decode cX12_u1 12 = .ok (.aload_n 0, 1) := by decide +kernel
theorem dX12_u1_13 : decode cX12_u1 13 = .ok (.getfield 13, 3) := by decide +kernel
theorem dX12_u1_16 : decode cX12_u1 16 = .ok (.iload_n 1, 1) := by decide +kernel
theorem dX12_u1_17 : decode cX12_u1 17 = .ok (.baload, 1) := by decide +kernel
theorem dX12_u1_18 : decode cX12_u1 18 = .ok (.sipush 255, 3) := by decide +kernel
theorem dX12_u1_21 : decode cX12_u1 21 = .ok (.iand, 1) := by decide +kernel
theorem dX12_u1_22 : decode cX12_u1 22 = .ok (.goto 4, 3) := by decide +kernel
theorem dX12_u1_25 : decode cX12_u1 25 = .ok (.iconst 0, 1) := by decide +kernel
theorem dX12_u1_26 : decode cX12_u1 26 = .ok (.ireturn, 1) := by decide +kernel
def F_X12_u1 (l1 : Int32) (V : sv_V) : Option (Int32 × sv_V) := if l1 < 0 then (some ((0 : Int32), V)) else (if (V.1 146 3) ≤ l1 then (some ((0 : Int32), V)) else (if sx_in l1 12000 = true then some ((V.1 148 l1.toNatClampNeg) &&& (255 : Int32), V) else none))
set_option maxRecDepth 20000 in
theorem t_X12_u1 {g : sx_G} (hG : sx_Go g) {P : Option Value → sv_V → Prop} {r : Int32} {Vr : sv_V} (hP : P (some (.int r)) Vr) {l1 : Int32} {V : sv_V} (h : F_X12_u1 l1 V = some (r, Vr)) : sv_N g qX12_u1 0 0 [(0, .ref 146), (1, .int l1)] [] V P := by
  unfold F_X12_u1 at h
  refine sx_iload_n (pc := 0) dX12_u1_0 sx_m1 ?_
  refine sx_if_lt (pc := 1) (tgt := 25) dX12_u1_1 (by decide) (fun c1 => ?_) (fun c1 => ?_)
  · have h := sx_pos c1 h
    refine sx_iconst (pc := 25) (v := 0) dX12_u1_25 (by decide) ?_
    exact sv_iret (pc := 26) dX12_u1_26 rfl h hP
  · have h := sx_neg c1 h
    refine sx_iload_n (pc := 4) dX12_u1_4 sx_m1 ?_
    refine sx_aload_n (pc := 5) dX12_u1_5 sx_m0 ?_
    refine sv_getI (pc := 6) hG dX12_u1_6 f_12_206 lay_146 rfl ?_
    refine sx_icmp_ge (pc := 9) (tgt := 25) dX12_u1_9 (by decide) (fun c2 => ?_) (fun c2 => ?_)
    · have h := sx_pos c2 h
      refine sx_iconst (pc := 25) (v := 0) dX12_u1_25 (by decide) ?_
      exact sv_iret (pc := 26) dX12_u1_26 rfl h hP
    · have h := sx_neg c2 h
      refine sx_aload_n (pc := 12) dX12_u1_12 sx_m0 ?_
      refine sv_getA (pc := 13) hG dX12_u1_13 f_12_13 lay_146 rfl cr_146_2 ?_
      refine sx_iload_n (pc := 16) dX12_u1_16 sx_m1 ?_
      obtain ⟨g3, h⟩ := sx_grd h
      refine sv_bald (pc := 17) hG dX12_u1_17 lay_148 g3 ?_
      refine sx_sipush (pc := 18) (v := 255) dX12_u1_18 (by decide) ?_
      refine sx_iand (pc := 21) dX12_u1_21 ?_
      refine sx_goto (pc := 22) (tgt := 26) dX12_u1_22 (by decide) ?_
      exact sv_iret (pc := 26) dX12_u1_26 rfl h hP
theorem dX12_u2_0 : decode cX12_u2 0 = .ok (.aload_n 0, 1) := by decide +kernel
theorem dX12_u2_1 : decode cX12_u2 1 = .ok (.iload_n 1, 1) := by decide +kernel
theorem dX12_u2_2 : decode cX12_u2 2 = .ok (.invokevirtual 209, 3) := by decide +kernel
theorem dX12_u2_5 : decode cX12_u2 5 = .ok (.bipush 8, 2) := by decide +kernel
theorem dX12_u2_7 : decode cX12_u2 7 = .ok (.ishl, 1) := by decide +kernel
theorem dX12_u2_8 : decode cX12_u2 8 = .ok (.aload_n 0, 1) := by decide +kernel
theorem dX12_u2_9 : decode cX12_u2 9 = .ok (.iload_n 1, 1) := by decide +kernel
theorem dX12_u2_10 : decode cX12_u2 10 = .ok (.iconst 1, 1) := by decide +kernel
theorem dX12_u2_11 : decode cX12_u2 11 = .ok (.iadd, 1) := by decide +kernel
theorem dX12_u2_12 : decode cX12_u2 12 = .ok (.invokevirtual 209, 3) := by decide +kernel
theorem dX12_u2_15 : decode cX12_u2 15 = .ok (.ior, 1) := by decide +kernel
theorem dX12_u2_16 : decode cX12_u2 16 = .ok (.ireturn, 1) := by decide +kernel
def F_X12_u2 (l1 : Int32) (V : sv_V) : Option (Int32 × sv_V) := (F_X12_u1 l1 V).bind (fun (x3, V1) => (F_X12_u1 (l1 + (1 : Int32)) V1).bind (fun (x6, V4) => some ((x3 <<< ((8 : Int32) &&& 31)) ||| x6, V4)))
set_option maxRecDepth 20000 in
theorem t_X12_u2 {g : sx_G} (hG : sx_Go g) {P : Option Value → sv_V → Prop} {r : Int32} {Vr : sv_V} (hP : P (some (.int r)) Vr) {l1 : Int32} {V : sv_V} (h : F_X12_u2 l1 V = some (r, Vr)) : sv_N g qX12_u2 1 0 [(0, .ref 146), (1, .int l1)] [] V P := by
  unfold F_X12_u2 at h
  refine sx_aload_n (pc := 0) dX12_u2_0 sx_m0 ?_
  refine sx_iload_n (pc := 1) dX12_u2_1 sx_m1 ?_
  obtain ⟨⟨x3, V1⟩, g2, h⟩ := sx_bnd h
  refine sv_cV (pc := 2) (y := qX12_u1) (o := (some (.int x3))) (as := [.int l1]) (V1 := V1) hG dX12_u2_2 l_X12_209 y0X12_u1 yvX12_u1 rfl (Nat.le_of_ble_eq_true rfl) lay_146 kr_12 (by decide) (Nat.le_of_ble_eq_true rfl) rfl rfl rfl (t_X12_u1 hG ⟨rfl, rfl⟩ g2) ?_
  refine sx_bipush (pc := 5) (v := 8) dX12_u2_5 (by decide) ?_
  refine sx_ishl (pc := 7) dX12_u2_7 ?_
  refine sx_aload_n (pc := 8) dX12_u2_8 sx_m0 ?_
  refine sx_iload_n (pc := 9) dX12_u2_9 sx_m1 ?_
  refine sx_iconst (pc := 10) (v := 1) dX12_u2_10 (by decide) ?_
  refine sx_iadd (pc := 11) dX12_u2_11 ?_
  obtain ⟨⟨x6, V4⟩, g5, h⟩ := sx_bnd h
  refine sv_cV (pc := 12) (y := qX12_u1) (o := (some (.int x6))) (as := [.int (l1 + (1 : Int32))]) (V1 := V4) hG dX12_u2_12 l_X12_209 y0X12_u1 yvX12_u1 rfl (Nat.le_of_ble_eq_true rfl) lay_146 kr_12 (by decide) (Nat.le_of_ble_eq_true rfl) rfl rfl rfl (t_X12_u1 hG ⟨rfl, rfl⟩ g5) ?_
  refine sx_ior (pc := 15) dX12_u2_15 ?_
  exact sv_iret (pc := 16) dX12_u2_16 rfl h hP
theorem dX12_s2_0 : decode cX12_s2 0 = .ok (.aload_n 0, 1) := by decide +kernel
theorem dX12_s2_1 : decode cX12_s2 1 = .ok (.iload_n 1, 1) := by decide +kernel
theorem dX12_s2_2 : decode cX12_s2 2 = .ok (.invokevirtual 213, 3) := by decide +kernel
theorem dX12_s2_5 : decode cX12_s2 5 = .ok (.i2s, 1) := by decide +kernel
theorem dX12_s2_6 : decode cX12_s2 6 = .ok (.ireturn, 1) := by decide +kernel
def F_X12_s2 (l1 : Int32) (V : sv_V) : Option (Int32 × sv_V) := (F_X12_u2 l1 V).bind (fun (x3, V1) => some (x3.toInt16.toInt32, V1))
set_option maxRecDepth 20000 in
theorem t_X12_s2 {g : sx_G} (hG : sx_Go g) {P : Option Value → sv_V → Prop} {r : Int32} {Vr : sv_V} (hP : P (some (.int r)) Vr) {l1 : Int32} {V : sv_V} (h : F_X12_s2 l1 V = some (r, Vr)) : sv_N g qX12_s2 2 0 [(0, .ref 146), (1, .int l1)] [] V P := by
  unfold F_X12_s2 at h
  refine sx_aload_n (pc := 0) dX12_s2_0 sx_m0 ?_
  refine sx_iload_n (pc := 1) dX12_s2_1 sx_m1 ?_
  obtain ⟨⟨x3, V1⟩, g2, h⟩ := sx_bnd h
  refine sv_cV (pc := 2) (y := qX12_u2) (o := (some (.int x3))) (as := [.int l1]) (V1 := V1) hG dX12_s2_2 l_X12_213 y0X12_u2 yvX12_u2 rfl (Nat.le_of_ble_eq_true rfl) lay_146 kr_12 (by decide) (Nat.le_of_ble_eq_true rfl) rfl rfl rfl (t_X12_u2 hG ⟨rfl, rfl⟩ g2) ?_
  refine sx_i2s (pc := 5) dX12_s2_5 ?_
  exact sv_iret (pc := 6) dX12_s2_6 rfl h hP
theorem dX12_s1_0 : decode cX12_s1 0 = .ok (.aload_n 0, 1) := by decide +kernel
theorem dX12_s1_1 : decode cX12_s1 1 = .ok (.iload_n 1, 1) := by decide +kernel
theorem dX12_s1_2 : decode cX12_s1 2 = .ok (.invokevirtual 209, 3) := by decide +kernel
theorem dX12_s1_5 : decode cX12_s1 5 = .ok (.i2b, 1) := by decide +kernel
theorem dX12_s1_6 : decode cX12_s1 6 = .ok (.ireturn, 1) := by decide +kernel
def F_X12_s1 (l1 : Int32) (V : sv_V) : Option (Int32 × sv_V) := (F_X12_u1 l1 V).bind (fun (x3, V1) => some (x3.toInt8.toInt32, V1))
set_option maxRecDepth 20000 in
theorem t_X12_s1 {g : sx_G} (hG : sx_Go g) {P : Option Value → sv_V → Prop} {r : Int32} {Vr : sv_V} (hP : P (some (.int r)) Vr) {l1 : Int32} {V : sv_V} (h : F_X12_s1 l1 V = some (r, Vr)) : sv_N g qX12_s1 1 0 [(0, .ref 146), (1, .int l1)] [] V P := by
  unfold F_X12_s1 at h
  refine sx_aload_n (pc := 0) dX12_s1_0 sx_m0 ?_
  refine sx_iload_n (pc := 1) dX12_s1_1 sx_m1 ?_
  obtain ⟨⟨x3, V1⟩, g2, h⟩ := sx_bnd h
  refine sv_cV (pc := 2) (y := qX12_u1) (o := (some (.int x3))) (as := [.int l1]) (V1 := V1) hG dX12_s1_2 l_X12_209 y0X12_u1 yvX12_u1 rfl (Nat.le_of_ble_eq_true rfl) lay_146 kr_12 (by decide) (Nat.le_of_ble_eq_true rfl) rfl rfl rfl (t_X12_u1 hG ⟨rfl, rfl⟩ g2) ?_
  refine sx_i2b (pc := 5) dX12_s1_5 ?_
  exact sv_iret (pc := 6) dX12_s1_6 rfl h hP
theorem dX12_u4_0 : decode cX12_u4 0 = .ok (.aload_n 0, 1) := by decide +kernel
theorem dX12_u4_1 : decode cX12_u4 1 = .ok (.iload_n 1, 1) := by decide +kernel
theorem dX12_u4_2 : decode cX12_u4 2 = .ok (.invokevirtual 213, 3) := by decide +kernel
theorem dX12_u4_5 : decode cX12_u4 5 = .ok (.i2l, 1) := by decide +kernel
theorem dX12_u4_6 : decode cX12_u4 6 = .ok (.bipush 16, 2) := by decide +kernel
theorem dX12_u4_8 : decode cX12_u4 8 = .ok (.lshl, 1) := by decide +kernel
theorem dX12_u4_9 : decode cX12_u4 9 = .ok (.aload_n 0, 1) := by decide +kernel
theorem dX12_u4_10 : decode cX12_u4 10 = .ok (.iload_n 1, 1) := by decide +kernel
theorem dX12_u4_11 : decode cX12_u4 11 = .ok (.iconst 2, 1) := by decide +kernel
theorem dX12_u4_12 : decode cX12_u4 12 = .ok (.iadd, 1) := by decide +kernel
theorem dX12_u4_13 : decode cX12_u4 13 = .ok (.invokevirtual 213, 3) := by decide +kernel
theorem dX12_u4_16 : decode cX12_u4 16 = .ok (.i2l, 1) := by decide +kernel
theorem dX12_u4_17 : decode cX12_u4 17 = .ok (.lor, 1) := by decide +kernel
theorem dX12_u4_18 : decode cX12_u4 18 = .ok (.lreturn, 1) := by decide +kernel
def F_X12_u4 (l1 : Int32) (V : sv_V) : Option (Int64 × sv_V) := (F_X12_u2 l1 V).bind (fun (x3, V1) => (F_X12_u2 (l1 + (2 : Int32)) V1).bind (fun (x6, V4) => some ((x3.toInt64 <<< ((16 : Int32).toInt64 &&& 63)) ||| x6.toInt64, V4)))
set_option maxRecDepth 20000 in
theorem t_X12_u4 {g : sx_G} (hG : sx_Go g) {P : Option Value → sv_V → Prop} {r : Int64} {Vr : sv_V} (hP : P (some (.long r)) Vr) {l1 : Int32} {V : sv_V} (h : F_X12_u4 l1 V = some (r, Vr)) : sv_N g qX12_u4 2 0 [(0, .ref 146), (1, .int l1)] [] V P := by
  unfold F_X12_u4 at h
  refine sx_aload_n (pc := 0) dX12_u4_0 sx_m0 ?_
  refine sx_iload_n (pc := 1) dX12_u4_1 sx_m1 ?_
  obtain ⟨⟨x3, V1⟩, g2, h⟩ := sx_bnd h
  refine sv_cV (pc := 2) (y := qX12_u2) (o := (some (.int x3))) (as := [.int l1]) (V1 := V1) hG dX12_u4_2 l_X12_213 y0X12_u2 yvX12_u2 rfl (Nat.le_of_ble_eq_true rfl) lay_146 kr_12 (by decide) (Nat.le_of_ble_eq_true rfl) rfl rfl rfl (t_X12_u2 hG ⟨rfl, rfl⟩ g2) ?_
  refine sx_i2l (pc := 5) dX12_u4_5 ?_
  refine sx_bipush (pc := 6) (v := 16) dX12_u4_6 (by decide) ?_
  refine sx_lshl (pc := 8) dX12_u4_8 ?_
  refine sx_aload_n (pc := 9) dX12_u4_9 sx_m0 ?_
  refine sx_iload_n (pc := 10) dX12_u4_10 sx_m1 ?_
  refine sx_iconst (pc := 11) (v := 2) dX12_u4_11 (by decide) ?_
  refine sx_iadd (pc := 12) dX12_u4_12 ?_
  obtain ⟨⟨x6, V4⟩, g5, h⟩ := sx_bnd h
  refine sv_cV (pc := 13) (y := qX12_u2) (o := (some (.int x6))) (as := [.int (l1 + (2 : Int32))]) (V1 := V4) hG dX12_u4_13 l_X12_213 y0X12_u2 yvX12_u2 rfl (Nat.le_of_ble_eq_true rfl) lay_146 kr_12 (by decide) (Nat.le_of_ble_eq_true rfl) rfl rfl rfl (t_X12_u2 hG ⟨rfl, rfl⟩ g5) ?_
  refine sx_i2l (pc := 16) dX12_u4_16 ?_
  refine sx_lor (pc := 17) dX12_u4_17 ?_
  exact sv_lret (pc := 18) dX12_u4_18 rfl h hP
theorem dX12_tableOf_0 : decode cX12_tableOf 0 = .ok (.iconst 0, 1) := by decide +kernel
theorem dX12_tableOf_1 : decode cX12_tableOf 1 = .ok (.istore_n 2, 1) := by decide +kernel
theorem dX12_tableOf_2 : decode cX12_tableOf 2 = .ok (.iload_n 2, 1) := by decide +kernel
theorem dX12_tableOf_3 : decode cX12_tableOf 3 = .ok (.aload_n 0, 1) := by decide +kernel
theorem dX12_tableOf_4 : decode cX12_tableOf 4 = .ok (.getfield 216, 3) := by decide +kernel
theorem dX12_tableOf_7 : decode cX12_tableOf 7 = .ok (.if_icmp .ge 21, 3) := by decide +kernel
theorem dX12_tableOf_10 : decode cX12_tableOf 10 = .ok (.aload_n 0, 1) := by decide +kernel
theorem dX12_tableOf_11 : decode cX12_tableOf 11 = .ok (.getfield 16, 3) := by decide +kernel
theorem dX12_tableOf_14 : decode cX12_tableOf 14 = .ok (.iload_n 2, 1) := by decide +kernel
theorem dX12_tableOf_15 : decode cX12_tableOf 15 = .ok (.iaload, 1) := by decide +kernel
theorem dX12_tableOf_16 : decode cX12_tableOf 16 = .ok (.iload_n 1, 1) := by decide +kernel
theorem dX12_tableOf_17 : decode cX12_tableOf 17 = .ok (.if_icmp .ne 5, 3) := by decide +kernel
theorem dX12_tableOf_20 : decode cX12_tableOf 20 = .ok (.iload_n 2, 1) := by decide +kernel
theorem dX12_tableOf_21 : decode cX12_tableOf 21 = .ok (.ireturn, 1) := by decide +kernel
theorem dX12_tableOf_22 : decode cX12_tableOf 22 = .ok (.iinc 2 1, 3) := by decide +kernel
theorem dX12_tableOf_25 : decode cX12_tableOf 25 = .ok (.goto (-23), 3) := by decide +kernel
theorem dX12_tableOf_28 : decode cX12_tableOf 28 = .ok (.iconst (-1), 1) := by decide +kernel
theorem dX12_tableOf_29 : decode cX12_tableOf 29 = .ok (.ireturn, 1) := by decide +kernel
def B_X12_tableOf_2 (N : Nat) (k2 : Int32 → Int32 → sv_V → Option (Int32 × sv_V)) (l1 : Int32) (l2 : Int32) (V : sv_V) : Option (Int32 × sv_V) := if (V.1 146 5) ≤ l2 then (some ((-1 : Int32), V)) else (if sx_in l2 16 = true then if (V.1 149 l2.toNatClampNeg) = l1 then (some (l2, V)) else (sx_let (l2 + 1) (fun x4 => k2 l1 x4 V)) else none)
set_option maxRecDepth 20000 in
theorem tB_X12_tableOf_2 {g : sx_G} (hG : sx_Go g) {P : Option Value → sv_V → Prop} {r : Int32} {Vr : sv_V} (hP : P (some (.int r)) Vr) {N : Nat} {k2 : Int32 → Int32 → sv_V → Option (Int32 × sv_V)} (hk2 : ∀ (l1 : Int32) (l2 : Int32) (V : sv_V), k2 l1 l2 V = some (r, Vr) → sv_N g qX12_tableOf 0 2 [(0, .ref 146), (1, .int l1), (2, .int l2)] [] V P) {l1 : Int32} {l2 : Int32} {V : sv_V} (h : B_X12_tableOf_2 N k2 l1 l2 V = some (r, Vr)) : sv_N g qX12_tableOf 0 2 [(0, .ref 146), (1, .int l1), (2, .int l2)] [] V P := by
  unfold B_X12_tableOf_2 at h
  refine sx_iload_n (pc := 2) dX12_tableOf_2 sx_m2 ?_
  refine sx_aload_n (pc := 3) dX12_tableOf_3 sx_m0 ?_
  refine sv_getI (pc := 4) hG dX12_tableOf_4 f_12_216 lay_146 rfl ?_
  refine sx_icmp_ge (pc := 7) (tgt := 28) dX12_tableOf_7 (by decide) (fun c1 => ?_) (fun c1 => ?_)
  · have h := sx_pos c1 h
    refine sx_iconst (pc := 28) (v := (-1)) dX12_tableOf_28 (by decide) ?_
    exact sv_iret (pc := 29) dX12_tableOf_29 rfl h hP
  · have h := sx_neg c1 h
    refine sx_aload_n (pc := 10) dX12_tableOf_10 sx_m0 ?_
    refine sv_getA (pc := 11) hG dX12_tableOf_11 f_12_16 lay_146 rfl cr_146_6 ?_
    refine sx_iload_n (pc := 14) dX12_tableOf_14 sx_m2 ?_
    obtain ⟨g2, h⟩ := sx_grd h
    refine sv_iald (pc := 15) hG dX12_tableOf_15 lay_149 g2 ?_
    refine sx_iload_n (pc := 16) dX12_tableOf_16 sx_m1 ?_
    refine sx_icmp_ne (pc := 17) (tgt := 22) dX12_tableOf_17 (by decide) (fun c3 => ?_) (fun c3 => ?_)
    · have h := sx_neg c3 h
      obtain ⟨x4, hx4⟩ : ∃ z : Int32, z = l2 + 1 := ⟨_, rfl⟩
      have h := sx_letE hx4 h
      refine sx_iinc (pc := 22) (v := x4) (lo' := [(2, .int x4), (0, .ref 146), (1, .int l1)]) dX12_tableOf_22 sx_m2 (by rw [hx4]; rfl) (by decide) rfl ?_
      refine sx_goto (pc := 25) (tgt := 2) dX12_tableOf_25 (by decide) ?_
      refine sx_wk (sx_s1 sx_m1 (sx_s1 sx_m2 (sx_s1 sx_m0 sx_s0))) ?_
      exact hk2 _ _ _ h
    · have h := sx_pos c3 h
      refine sx_iload_n (pc := 20) dX12_tableOf_20 sx_m2 ?_
      exact sv_iret (pc := 21) dX12_tableOf_21 rfl h hP
theorem tL_X12_tableOf_2 {g : sx_G} (hG : sx_Go g) {P : Option Value → sv_V → Prop} {r : Int32} {Vr : sv_V} (hP : P (some (.int r)) Vr) {N : Nat}   : ∀ (n : Nat) (l1 : Int32) (l2 : Int32) (V : sv_V), sx_lp3 (B_X12_tableOf_2 N ) n l1 l2 V = some (r, Vr) → sv_N g qX12_tableOf 0 2 [(0, .ref 146), (1, .int l1), (2, .int l2)] [] V P :=
  sx_lp3_ind (fun k0 ih _ _ V h => tB_X12_tableOf_2 hG hP ih h)
def F_X12_tableOf (N : Nat) (l1 : Int32) (V : sv_V) : Option (Int32 × sv_V) := sx_lp3 (B_X12_tableOf_2 N ) N l1 (0 : Int32) V
set_option maxRecDepth 20000 in
theorem t_X12_tableOf {g : sx_G} (hG : sx_Go g) {P : Option Value → sv_V → Prop} {r : Int32} {Vr : sv_V} (hP : P (some (.int r)) Vr) {N : Nat} {l1 : Int32} {V : sv_V} (h : F_X12_tableOf N l1 V = some (r, Vr)) : sv_N g qX12_tableOf 0 0 [(0, .ref 146), (1, .int l1)] [] V P := by
  unfold F_X12_tableOf at h
  refine sx_iconst (pc := 0) (v := 0) dX12_tableOf_0 (by decide) ?_
  refine sx_istore_n (pc := 1) (lo' := [(2, .int (0 : Int32)), (0, .ref 146), (1, .int l1)]) dX12_tableOf_1 (by decide) rfl ?_
  refine sx_wk (sx_s1 sx_m1 (sx_s1 sx_m2 (sx_s1 sx_m0 sx_s0))) ?_
  exact tL_X12_tableOf_2 hG hP  N _ _ _ h
theorem dX12_beginOf_0 : decode cX12_beginOf 0 = .ok (.aload_n 0, 1) := by decide +kernel
theorem dX12_beginOf_1 : decode cX12_beginOf 1 = .ok (.iload_n 1, 1) := by decide +kernel
theorem dX12_beginOf_2 : decode cX12_beginOf 2 = .ok (.invokevirtual 219, 3) := by decide +kernel
theorem dX12_beginOf_5 : decode cX12_beginOf 5 = .ok (.istore_n 2, 1) := by decide +kernel
theorem dX12_beginOf_6 : decode cX12_beginOf 6 = .ok (.iload_n 2, 1) := by decide +kernel
theorem dX12_beginOf_7 : decode cX12_beginOf 7 = .ok (.iconst (-1), 1) := by decide +kernel
theorem dX12_beginOf_8 : decode cX12_beginOf 8 = .ok (.if_icmp .ne 7, 3) := by decide +kernel
theorem dX12_beginOf_11 : decode cX12_beginOf 11 = .ok (.iconst 0, 1) := by decide +kernel
theorem dX12_beginOf_12 : decode cX12_beginOf 12 = .ok (.goto 10, 3) := by decide +kernel
theorem dX12_beginOf_15 : decode cX12_beginOf 15 = .ok (.aload_n 0, 1) := by decide +kernel
theorem dX12_beginOf_16 : decode cX12_beginOf 16 = .ok (.getfield 24, 3) := by decide +kernel
theorem dX12_beginOf_19 : decode cX12_beginOf 19 = .ok (.iload_n 2, 1) := by decide +kernel
theorem dX12_beginOf_20 : decode cX12_beginOf 20 = .ok (.laload, 1) := by decide +kernel
theorem dX12_beginOf_21 : decode cX12_beginOf 21 = .ok (.l2i, 1) := by decide +kernel
theorem dX12_beginOf_22 : decode cX12_beginOf 22 = .ok (.ireturn, 1) := by decide +kernel
def F_X12_beginOf (N : Nat) (l1 : Int32) (V : sv_V) : Option (Int32 × sv_V) := (F_X12_tableOf N l1 V).bind (fun (x3, V1) => if x3 = (-1 : Int32) then (some ((0 : Int32), V1)) else (if sx_in x3 16 = true then some ((V1.2.1 151 x3.toNatClampNeg).toInt32, V1) else none))
set_option maxRecDepth 20000 in
theorem t_X12_beginOf {g : sx_G} (hG : sx_Go g) {P : Option Value → sv_V → Prop} {r : Int32} {Vr : sv_V} (hP : P (some (.int r)) Vr) {N : Nat} {l1 : Int32} {V : sv_V} (h : F_X12_beginOf N l1 V = some (r, Vr)) : sv_N g qX12_beginOf 1 0 [(0, .ref 146), (1, .int l1)] [] V P := by
  unfold F_X12_beginOf at h
  refine sx_aload_n (pc := 0) dX12_beginOf_0 sx_m0 ?_
  refine sx_iload_n (pc := 1) dX12_beginOf_1 sx_m1 ?_
  obtain ⟨⟨x3, V1⟩, g2, h⟩ := sx_bnd h
  refine sv_cV (pc := 2) (y := qX12_tableOf) (o := (some (.int x3))) (as := [.int l1]) (V1 := V1) hG dX12_beginOf_2 l_X12_219 y0X12_tableOf yvX12_tableOf rfl (Nat.le_of_ble_eq_true rfl) lay_146 kr_12 (by decide) (Nat.le_of_ble_eq_true rfl) rfl rfl rfl (t_X12_tableOf hG ⟨rfl, rfl⟩ g2) ?_
  refine sx_istore_n (pc := 5) (lo' := [(2, .int x3), (0, .ref 146), (1, .int l1)]) dX12_beginOf_5 (by decide) rfl ?_
  refine sx_iload_n (pc := 6) dX12_beginOf_6 sx_m0 ?_
  refine sx_iconst (pc := 7) (v := (-1)) dX12_beginOf_7 (by decide) ?_
  refine sx_icmp_ne (pc := 8) (tgt := 15) dX12_beginOf_8 (by decide) (fun c4 => ?_) (fun c4 => ?_)
  · have h := sx_neg c4 h
    refine sx_aload_n (pc := 15) dX12_beginOf_15 sx_m1 ?_
    refine sv_getA (pc := 16) hG dX12_beginOf_16 f_12_24 lay_146 rfl cr_146_8 ?_
    refine sx_iload_n (pc := 19) dX12_beginOf_19 sx_m0 ?_
    obtain ⟨g5, h⟩ := sx_grd h
    refine sv_lald (pc := 20) hG dX12_beginOf_20 lay_151 g5 ?_
    refine sx_l2i (pc := 21) dX12_beginOf_21 ?_
    exact sv_iret (pc := 22) dX12_beginOf_22 rfl h hP
  · have h := sx_pos c4 h
    refine sx_iconst (pc := 11) (v := 0) dX12_beginOf_11 (by decide) ?_
    refine sx_goto (pc := 12) (tgt := 22) dX12_beginOf_12 (by decide) ?_
    exact sv_iret (pc := 22) dX12_beginOf_22 rfl h hP
theorem dX12_lengthOf_0 : decode cX12_lengthOf 0 = .ok (.aload_n 0, 1) := by decide +kernel
theorem dX12_lengthOf_1 : decode cX12_lengthOf 1 = .ok (.iload_n 1, 1) := by decide +kernel
theorem dX12_lengthOf_2 : decode cX12_lengthOf 2 = .ok (.invokevirtual 219, 3) := by decide +kernel
theorem dX12_lengthOf_5 : decode cX12_lengthOf 5 = .ok (.istore_n 2, 1) := by decide +kernel
theorem dX12_lengthOf_6 : decode cX12_lengthOf 6 = .ok (.iload_n 2, 1) := by decide +kernel
theorem dX12_lengthOf_7 : decode cX12_lengthOf 7 = .ok (.iconst (-1), 1) := by decide +kernel
theorem dX12_lengthOf_8 : decode cX12_lengthOf 8 = .ok (.if_icmp .ne 7, 3) := by decide +kernel
theorem dX12_lengthOf_11 : decode cX12_lengthOf 11 = .ok (.iconst 0, 1) := by decide +kernel
theorem dX12_lengthOf_12 : decode cX12_lengthOf 12 = .ok (.goto 10, 3) := by decide +kernel
theorem dX12_lengthOf_15 : decode cX12_lengthOf 15 = .ok (.aload_n 0, 1) := by decide +kernel
theorem dX12_lengthOf_16 : decode cX12_lengthOf 16 = .ok (.getfield 27, 3) := by decide +kernel
theorem dX12_lengthOf_19 : decode cX12_lengthOf 19 = .ok (.iload_n 2, 1) := by decide +kernel
theorem dX12_lengthOf_20 : decode cX12_lengthOf 20 = .ok (.laload, 1) := by decide +kernel
theorem dX12_lengthOf_21 : decode cX12_lengthOf 21 = .ok (.l2i, 1) := by decide +kernel
theorem dX12_lengthOf_22 : decode cX12_lengthOf 22 = .ok (.ireturn, 1) := by decide +kernel
def F_X12_lengthOf (N : Nat) (l1 : Int32) (V : sv_V) : Option (Int32 × sv_V) := (F_X12_tableOf N l1 V).bind (fun (x3, V1) => if x3 = (-1 : Int32) then (some ((0 : Int32), V1)) else (if sx_in x3 16 = true then some ((V1.2.1 152 x3.toNatClampNeg).toInt32, V1) else none))
set_option maxRecDepth 20000 in
theorem t_X12_lengthOf {g : sx_G} (hG : sx_Go g) {P : Option Value → sv_V → Prop} {r : Int32} {Vr : sv_V} (hP : P (some (.int r)) Vr) {N : Nat} {l1 : Int32} {V : sv_V} (h : F_X12_lengthOf N l1 V = some (r, Vr)) : sv_N g qX12_lengthOf 1 0 [(0, .ref 146), (1, .int l1)] [] V P := by
  unfold F_X12_lengthOf at h
  refine sx_aload_n (pc := 0) dX12_lengthOf_0 sx_m0 ?_
  refine sx_iload_n (pc := 1) dX12_lengthOf_1 sx_m1 ?_
  obtain ⟨⟨x3, V1⟩, g2, h⟩ := sx_bnd h
  refine sv_cV (pc := 2) (y := qX12_tableOf) (o := (some (.int x3))) (as := [.int l1]) (V1 := V1) hG dX12_lengthOf_2 l_X12_219 y0X12_tableOf yvX12_tableOf rfl (Nat.le_of_ble_eq_true rfl) lay_146 kr_12 (by decide) (Nat.le_of_ble_eq_true rfl) rfl rfl rfl (t_X12_tableOf hG ⟨rfl, rfl⟩ g2) ?_
  refine sx_istore_n (pc := 5) (lo' := [(2, .int x3), (0, .ref 146), (1, .int l1)]) dX12_lengthOf_5 (by decide) rfl ?_
  refine sx_iload_n (pc := 6) dX12_lengthOf_6 sx_m0 ?_
  refine sx_iconst (pc := 7) (v := (-1)) dX12_lengthOf_7 (by decide) ?_
  refine sx_icmp_ne (pc := 8) (tgt := 15) dX12_lengthOf_8 (by decide) (fun c4 => ?_) (fun c4 => ?_)
  · have h := sx_neg c4 h
    refine sx_aload_n (pc := 15) dX12_lengthOf_15 sx_m1 ?_
    refine sv_getA (pc := 16) hG dX12_lengthOf_16 f_12_27 lay_146 rfl cr_146_9 ?_
    refine sx_iload_n (pc := 19) dX12_lengthOf_19 sx_m0 ?_
    obtain ⟨g5, h⟩ := sx_grd h
    refine sv_lald (pc := 20) hG dX12_lengthOf_20 lay_152 g5 ?_
    refine sx_l2i (pc := 21) dX12_lengthOf_21 ?_
    exact sv_iret (pc := 22) dX12_lengthOf_22 rfl h hP
  · have h := sx_pos c4 h
    refine sx_iconst (pc := 11) (v := 0) dX12_lengthOf_11 (by decide) ?_
    refine sx_goto (pc := 12) (tgt := 22) dX12_lengthOf_12 (by decide) ?_
    exact sv_iret (pc := 22) dX12_lengthOf_22 rfl h hP
theorem dX12_sumOf_0 : decode cX12_sumOf 0 = .ok (.iconst 0, 1) := by decide +kernel
theorem dX12_sumOf_1 : decode cX12_sumOf 1 = .ok (.istore 4, 2) := by decide +kernel
theorem dX12_sumOf_3 : decode cX12_sumOf 3 = .ok (.iload_n 1, 1) := by decide +kernel
theorem dX12_sumOf_4 : decode cX12_sumOf 4 = .ok (.istore 5, 2) := by decide +kernel
theorem dX12_sumOf_6 : decode cX12_sumOf 6 = .ok (.iload 5, 2) := by decide +kernel
theorem dX12_sumOf_8 : decode cX12_sumOf 8 = .ok (.iload_n 2, 1) := by decide +kernel
theorem dX12_sumOf_9 : decode cX12_sumOf 9 = .ok (.if_icmp .ge 84, 3) := by decide +kernel
theorem dX12_sumOf_12 : decode cX12_sumOf 12 = .ok (.iconst 0, 1) := by decide +kernel
theorem dX12_sumOf_13 : decode cX12_sumOf 13 = .ok (.istore 6, 2) := by decide +kernel
theorem dX12_sumOf_15 : decode cX12_sumOf 15 = .ok (.iload 6, 2) := by decide +kernel
theorem dX12_sumOf_17 : decode cX12_sumOf 17 = .ok (.iconst 4, 1) := by decide +kernel
theorem dX12_sumOf_18 : decode cX12_sumOf 18 = .ok (.if_icmp .ge 69, 3) := by decide +kernel
theorem dX12_sumOf_21 : decode cX12_sumOf 21 = .ok (.iload 5, 2) := by decide +kernel
theorem dX12_sumOf_23 : decode cX12_sumOf 23 = .ok (.iload 6, 2) := by decide +kernel
theorem dX12_sumOf_25 : decode cX12_sumOf 25 = .ok (.iadd, 1) := by decide +kernel
theorem dX12_sumOf_26 : decode cX12_sumOf 26 = .ok (.istore 7, 2) := by decide +kernel
theorem dX12_sumOf_28 : decode cX12_sumOf 28 = .ok (.iload 7, 2) := by decide +kernel
theorem dX12_sumOf_30 : decode cX12_sumOf 30 = .ok (.iload_n 2, 1) := by decide +kernel
theorem dX12_sumOf_31 : decode cX12_sumOf 31 = .ok (.if_icmp .ge 31, 3) := by decide +kernel
theorem dX12_sumOf_34 : decode cX12_sumOf 34 = .ok (.iload_n 3, 1) := by decide +kernel
theorem dX12_sumOf_35 : decode cX12_sumOf 35 = .ok (.iconst (-1), 1) := by decide +kernel
theorem dX12_sumOf_36 : decode cX12_sumOf 36 = .ok (.if_icmp .eq 17, 3) := by decide +kernel
theorem dX12_sumOf_39 : decode cX12_sumOf 39 = .ok (.iload 7, 2) := by decide +kernel
theorem dX12_sumOf_41 : decode cX12_sumOf 41 = .ok (.iload_n 3, 1) := by decide +kernel
theorem dX12_sumOf_42 : decode cX12_sumOf 42 = .ok (.if_icmp .lt 11, 3) := by decide +kernel
theorem dX12_sumOf_45 : decode cX12_sumOf 45 = .ok (.iload 7, 2) := by decide +kernel
theorem dX12_sumOf_47 : decode cX12_sumOf 47 = .ok (.iload_n 3, 1) := by decide +kernel
theorem dX12_sumOf_48 : decode cX12_sumOf 48 = .ok (.iconst 4, 1) := by decide +kernel
theorem dX12_sumOf_49 : decode cX12_sumOf 49 = .ok (.iadd, 1) := by decide +kernel
theorem dX12_sumOf_50 : decode cX12_sumOf 50 = .ok (.if_icmp .lt 12, 3) := by decide +kernel
theorem dX12_sumOf_53 : decode cX12_sumOf 53 = .ok (.aload_n 0, 1) := by decide +kernel
theorem dX12_sumOf_54 : decode cX12_sumOf 54 = .ok (.iload 7, 2) := by decide +kernel
theorem dX12_sumOf_56 : decode cX12_sumOf 56 = .ok (.invokevirtual 209, 3) := by decide +kernel
theorem dX12_sumOf_59 : decode cX12_sumOf 59 = .ok (.goto 4, 3) := by decide +kernel
theorem dX12_sumOf_62 : decode cX12_sumOf 62 = .ok (.iconst 0, 1) := by decide +kernel
theorem dX12_sumOf_63 : decode cX12_sumOf 63 = .ok (.istore 8, 2) := by decide +kernel
theorem dX12_sumOf_65 : decode cX12_sumOf 65 = .ok (.iload 4, 2) := by decide +kernel
theorem dX12_sumOf_67 : decode cX12_sumOf 67 = .ok (.iload 8, 2) := by decide +kernel
theorem dX12_sumOf_69 : decode cX12_sumOf 69 = .ok (.bipush 24, 2) := by decide +kernel
theorem dX12_sumOf_71 : decode cX12_sumOf 71 = .ok (.bipush 8, 2) := by decide +kernel
theorem dX12_sumOf_73 : decode cX12_sumOf 73 = .ok (.iload 6, 2) := by decide +kernel
theorem dX12_sumOf_75 : decode cX12_sumOf 75 = .ok (.imul, 1) := by decide +kernel
theorem dX12_sumOf_76 : decode cX12_sumOf 76 = .ok (.isub, 1) := by decide +kernel
theorem dX12_sumOf_77 : decode cX12_sumOf 77 = .ok (.ishl, 1) := by decide +kernel
theorem dX12_sumOf_78 : decode cX12_sumOf 78 = .ok (.iadd, 1) := by decide +kernel
theorem dX12_sumOf_79 : decode cX12_sumOf 79 = .ok (.istore 4, 2) := by decide +kernel
theorem dX12_sumOf_81 : decode cX12_sumOf 81 = .ok (.iinc 6 1, 3) := by decide +kernel
theorem dX12_sumOf_84 : decode cX12_sumOf 84 = .ok (.goto (-69), 3) := by decide +kernel
theorem dX12_sumOf_87 : decode cX12_sumOf 87 = .ok (.iinc 5 4, 3) := by decide +kernel
theorem dX12_sumOf_90 : decode cX12_sumOf 90 = .ok (.goto (-84), 3) := by decide +kernel
theorem dX12_sumOf_93 : decode cX12_sumOf 93 = .ok (.iload 4, 2) := by decide +kernel
theorem dX12_sumOf_95 : decode cX12_sumOf 95 = .ok (.ireturn, 1) := by decide +kernel
def B_X12_sumOf_63 (N : Nat) (k6 : Int32 → Int32 → Int32 → Int32 → sv_V → Option (Int32 × sv_V)) (k15 : Int32 → Int32 → Int32 → Int32 → Int32 → sv_V → Option (Int32 × sv_V)) (l2 : Int32) (l3 : Int32) (l4 : Int32) (l5 : Int32) (l6 : Int32) (s0 : Int32) (V : sv_V) : Option (Int32 × sv_V) := sx_let (l4 + (s0 <<< ((24 : Int32) - ((8 : Int32) * l6) &&& 31))) (fun x1 => sx_let (l6 + 1) (fun x2 => k15 l2 l3 x1 l5 x2 V))
set_option maxRecDepth 20000 in
theorem tB_X12_sumOf_63 {g : sx_G} (hG : sx_Go g) {P : Option Value → sv_V → Prop} {r : Int32} {Vr : sv_V} (hP : P (some (.int r)) Vr) {N : Nat} {k6 : Int32 → Int32 → Int32 → Int32 → sv_V → Option (Int32 × sv_V)} {k15 : Int32 → Int32 → Int32 → Int32 → Int32 → sv_V → Option (Int32 × sv_V)} (hk6 : ∀ (l2 : Int32) (l3 : Int32) (l4 : Int32) (l5 : Int32) (V : sv_V), k6 l2 l3 l4 l5 V = some (r, Vr) → sv_N g qX12_sumOf 1 6 [(0, .ref 146), (2, .int l2), (3, .int l3), (4, .int l4), (5, .int l5)] [] V P) (hk15 : ∀ (l2 : Int32) (l3 : Int32) (l4 : Int32) (l5 : Int32) (l6 : Int32) (V : sv_V), k15 l2 l3 l4 l5 l6 V = some (r, Vr) → sv_N g qX12_sumOf 1 15 [(0, .ref 146), (2, .int l2), (3, .int l3), (4, .int l4), (5, .int l5), (6, .int l6)] [] V P) {l2 : Int32} {l3 : Int32} {l4 : Int32} {l5 : Int32} {l6 : Int32} {s0 : Int32} {V : sv_V} (h : B_X12_sumOf_63 N k6 k15 l2 l3 l4 l5 l6 s0 V = some (r, Vr)) : sv_N g qX12_sumOf 1 63 [(0, .ref 146), (2, .int l2), (3, .int l3), (4, .int l4), (5, .int l5), (6, .int l6)] [.int s0] V P := by
  unfold B_X12_sumOf_63 at h
  refine sx_istore (pc := 63) (lo' := [(8, .int s0), (0, .ref 146), (2, .int l2), (3, .int l3), (4, .int l4), (5, .int l5), (6, .int l6)]) dX12_sumOf_63 (by decide) rfl ?_
  refine sx_iload (pc := 65) dX12_sumOf_65 sx_m4 ?_
  refine sx_iload (pc := 67) dX12_sumOf_67 sx_m0 ?_
  refine sx_bipush (pc := 69) (v := 24) dX12_sumOf_69 (by decide) ?_
  refine sx_bipush (pc := 71) (v := 8) dX12_sumOf_71 (by decide) ?_
  refine sx_iload (pc := 73) dX12_sumOf_73 sx_m6 ?_
  refine sx_imul (pc := 75) dX12_sumOf_75 ?_
  refine sx_isub (pc := 76) dX12_sumOf_76 ?_
  refine sx_ishl (pc := 77) dX12_sumOf_77 ?_
  refine sx_iadd (pc := 78) dX12_sumOf_78 ?_
  refine sv_tI (fun x1 hx1 => ?_)
  have h := sx_letE hx1 h
  refine sx_istore (pc := 79) (lo' := [(4, .int x1), (8, .int s0), (0, .ref 146), (2, .int l2), (3, .int l3), (5, .int l5), (6, .int l6)]) dX12_sumOf_79 (by decide) rfl ?_
  obtain ⟨x2, hx2⟩ : ∃ z : Int32, z = l6 + 1 := ⟨_, rfl⟩
  have h := sx_letE hx2 h
  refine sx_iinc (pc := 81) (v := x2) (lo' := [(6, .int x2), (4, .int x1), (8, .int s0), (0, .ref 146), (2, .int l2), (3, .int l3), (5, .int l5)]) dX12_sumOf_81 sx_m6 (by rw [hx2]; rfl) (by decide) rfl ?_
  refine sx_goto (pc := 84) (tgt := 15) dX12_sumOf_84 (by decide) ?_
  refine sx_wk (sx_s1 sx_m3 (sx_s1 sx_m4 (sx_s1 sx_m5 (sx_s1 sx_m1 (sx_s1 sx_m6 (sx_s1 sx_m0 sx_s0)))))) ?_
  exact hk15 _ _ _ _ _ _ h
def B_X12_sumOf_53 (N : Nat) (k6 : Int32 → Int32 → Int32 → Int32 → sv_V → Option (Int32 × sv_V)) (k15 : Int32 → Int32 → Int32 → Int32 → Int32 → sv_V → Option (Int32 × sv_V)) (l2 : Int32) (l3 : Int32) (l4 : Int32) (l5 : Int32) (l6 : Int32) (l7 : Int32) (V : sv_V) : Option (Int32 × sv_V) := (F_X12_u1 l7 V).bind (fun (x5, V3) => B_X12_sumOf_63 N k6 k15 l2 l3 l4 l5 l6 x5 V3)
set_option maxRecDepth 20000 in
theorem tB_X12_sumOf_53 {g : sx_G} (hG : sx_Go g) {P : Option Value → sv_V → Prop} {r : Int32} {Vr : sv_V} (hP : P (some (.int r)) Vr) {N : Nat} {k6 : Int32 → Int32 → Int32 → Int32 → sv_V → Option (Int32 × sv_V)} {k15 : Int32 → Int32 → Int32 → Int32 → Int32 → sv_V → Option (Int32 × sv_V)} (hk6 : ∀ (l2 : Int32) (l3 : Int32) (l4 : Int32) (l5 : Int32) (V : sv_V), k6 l2 l3 l4 l5 V = some (r, Vr) → sv_N g qX12_sumOf 1 6 [(0, .ref 146), (2, .int l2), (3, .int l3), (4, .int l4), (5, .int l5)] [] V P) (hk15 : ∀ (l2 : Int32) (l3 : Int32) (l4 : Int32) (l5 : Int32) (l6 : Int32) (V : sv_V), k15 l2 l3 l4 l5 l6 V = some (r, Vr) → sv_N g qX12_sumOf 1 15 [(0, .ref 146), (2, .int l2), (3, .int l3), (4, .int l4), (5, .int l5), (6, .int l6)] [] V P) {l2 : Int32} {l3 : Int32} {l4 : Int32} {l5 : Int32} {l6 : Int32} {l7 : Int32} {V : sv_V} (h : B_X12_sumOf_53 N k6 k15 l2 l3 l4 l5 l6 l7 V = some (r, Vr)) : sv_N g qX12_sumOf 1 53 [(0, .ref 146), (2, .int l2), (3, .int l3), (4, .int l4), (5, .int l5), (6, .int l6), (7, .int l7)] [] V P := by
  unfold B_X12_sumOf_53 at h
  refine sx_aload_n (pc := 53) dX12_sumOf_53 sx_m0 ?_
  refine sx_iload (pc := 54) dX12_sumOf_54 sx_m6 ?_
  obtain ⟨⟨x5, V3⟩, g4, h⟩ := sx_bnd h
  refine sv_cV (pc := 56) (y := qX12_u1) (o := (some (.int x5))) (as := [.int l7]) (V1 := V3) hG dX12_sumOf_56 l_X12_209 y0X12_u1 yvX12_u1 rfl (Nat.le_of_ble_eq_true rfl) lay_146 kr_12 (by decide) (Nat.le_of_ble_eq_true rfl) rfl rfl rfl (t_X12_u1 hG ⟨rfl, rfl⟩ g4) ?_
  refine sx_goto (pc := 59) (tgt := 63) dX12_sumOf_59 (by decide) ?_
  refine sx_wk (sx_s1 sx_m0 (sx_s1 sx_m1 (sx_s1 sx_m2 (sx_s1 sx_m3 (sx_s1 sx_m4 (sx_s1 sx_m5 sx_s0)))))) ?_
  exact tB_X12_sumOf_63 hG hP hk6 hk15 h
def B_X12_sumOf_62 (N : Nat) (k6 : Int32 → Int32 → Int32 → Int32 → sv_V → Option (Int32 × sv_V)) (k15 : Int32 → Int32 → Int32 → Int32 → Int32 → sv_V → Option (Int32 × sv_V)) (l2 : Int32) (l3 : Int32) (l4 : Int32) (l5 : Int32) (l6 : Int32) (V : sv_V) : Option (Int32 × sv_V) := B_X12_sumOf_63 N k6 k15 l2 l3 l4 l5 l6 (0 : Int32) V
set_option maxRecDepth 20000 in
theorem tB_X12_sumOf_62 {g : sx_G} (hG : sx_Go g) {P : Option Value → sv_V → Prop} {r : Int32} {Vr : sv_V} (hP : P (some (.int r)) Vr) {N : Nat} {k6 : Int32 → Int32 → Int32 → Int32 → sv_V → Option (Int32 × sv_V)} {k15 : Int32 → Int32 → Int32 → Int32 → Int32 → sv_V → Option (Int32 × sv_V)} (hk6 : ∀ (l2 : Int32) (l3 : Int32) (l4 : Int32) (l5 : Int32) (V : sv_V), k6 l2 l3 l4 l5 V = some (r, Vr) → sv_N g qX12_sumOf 1 6 [(0, .ref 146), (2, .int l2), (3, .int l3), (4, .int l4), (5, .int l5)] [] V P) (hk15 : ∀ (l2 : Int32) (l3 : Int32) (l4 : Int32) (l5 : Int32) (l6 : Int32) (V : sv_V), k15 l2 l3 l4 l5 l6 V = some (r, Vr) → sv_N g qX12_sumOf 1 15 [(0, .ref 146), (2, .int l2), (3, .int l3), (4, .int l4), (5, .int l5), (6, .int l6)] [] V P) {l2 : Int32} {l3 : Int32} {l4 : Int32} {l5 : Int32} {l6 : Int32} {V : sv_V} (h : B_X12_sumOf_62 N k6 k15 l2 l3 l4 l5 l6 V = some (r, Vr)) : sv_N g qX12_sumOf 1 62 [(0, .ref 146), (2, .int l2), (3, .int l3), (4, .int l4), (5, .int l5), (6, .int l6)] [] V P := by
  unfold B_X12_sumOf_62 at h
  refine sx_iconst (pc := 62) (v := 0) dX12_sumOf_62 (by decide) ?_
  refine sx_wk (sx_s1 sx_m0 (sx_s1 sx_m1 (sx_s1 sx_m2 (sx_s1 sx_m3 (sx_s1 sx_m4 (sx_s1 sx_m5 sx_s0)))))) ?_
  exact tB_X12_sumOf_63 hG hP hk6 hk15 h
def B_X12_sumOf_15 (N : Nat) (k6 : Int32 → Int32 → Int32 → Int32 → sv_V → Option (Int32 × sv_V)) (k15 : Int32 → Int32 → Int32 → Int32 → Int32 → sv_V → Option (Int32 × sv_V)) (l2 : Int32) (l3 : Int32) (l4 : Int32) (l5 : Int32) (l6 : Int32) (V : sv_V) : Option (Int32 × sv_V) := if (4 : Int32) ≤ l6 then (sx_let (l5 + 4) (fun x7 => k6 l2 l3 l4 x7 V)) else (sx_let (l5 + l6) (fun x8 => if l2 ≤ x8 then (B_X12_sumOf_62 N k6 k15 l2 l3 l4 l5 l6 V) else (if l3 = (-1 : Int32) then (B_X12_sumOf_53 N k6 k15 l2 l3 l4 l5 l6 x8 V) else (if x8 < l3 then (B_X12_sumOf_53 N k6 k15 l2 l3 l4 l5 l6 x8 V) else (if x8 < (l3 + (4 : Int32)) then (B_X12_sumOf_62 N k6 k15 l2 l3 l4 l5 l6 V) else (B_X12_sumOf_53 N k6 k15 l2 l3 l4 l5 l6 x8 V))))))
set_option maxRecDepth 20000 in
theorem tB_X12_sumOf_15 {g : sx_G} (hG : sx_Go g) {P : Option Value → sv_V → Prop} {r : Int32} {Vr : sv_V} (hP : P (some (.int r)) Vr) {N : Nat} {k6 : Int32 → Int32 → Int32 → Int32 → sv_V → Option (Int32 × sv_V)} {k15 : Int32 → Int32 → Int32 → Int32 → Int32 → sv_V → Option (Int32 × sv_V)} (hk6 : ∀ (l2 : Int32) (l3 : Int32) (l4 : Int32) (l5 : Int32) (V : sv_V), k6 l2 l3 l4 l5 V = some (r, Vr) → sv_N g qX12_sumOf 1 6 [(0, .ref 146), (2, .int l2), (3, .int l3), (4, .int l4), (5, .int l5)] [] V P) (hk15 : ∀ (l2 : Int32) (l3 : Int32) (l4 : Int32) (l5 : Int32) (l6 : Int32) (V : sv_V), k15 l2 l3 l4 l5 l6 V = some (r, Vr) → sv_N g qX12_sumOf 1 15 [(0, .ref 146), (2, .int l2), (3, .int l3), (4, .int l4), (5, .int l5), (6, .int l6)] [] V P) {l2 : Int32} {l3 : Int32} {l4 : Int32} {l5 : Int32} {l6 : Int32} {V : sv_V} (h : B_X12_sumOf_15 N k6 k15 l2 l3 l4 l5 l6 V = some (r, Vr)) : sv_N g qX12_sumOf 1 15 [(0, .ref 146), (2, .int l2), (3, .int l3), (4, .int l4), (5, .int l5), (6, .int l6)] [] V P := by
  unfold B_X12_sumOf_15 at h
  refine sx_iload (pc := 15) dX12_sumOf_15 sx_m5 ?_
  refine sx_iconst (pc := 17) (v := 4) dX12_sumOf_17 (by decide) ?_
  refine sx_icmp_ge (pc := 18) (tgt := 87) dX12_sumOf_18 (by decide) (fun c6 => ?_) (fun c6 => ?_)
  · have h := sx_pos c6 h
    obtain ⟨x7, hx7⟩ : ∃ z : Int32, z = l5 + 4 := ⟨_, rfl⟩
    have h := sx_letE hx7 h
    refine sx_iinc (pc := 87) (v := x7) (lo' := [(5, .int x7), (0, .ref 146), (2, .int l2), (3, .int l3), (4, .int l4), (6, .int l6)]) dX12_sumOf_87 sx_m4 (by rw [hx7]; rfl) (by decide) rfl ?_
    refine sx_goto (pc := 90) (tgt := 6) dX12_sumOf_90 (by decide) ?_
    refine sx_wk (sx_s1 sx_m1 (sx_s1 sx_m2 (sx_s1 sx_m3 (sx_s1 sx_m4 (sx_s1 sx_m0 sx_s0))))) ?_
    exact hk6 _ _ _ _ _ h
  · have h := sx_neg c6 h
    refine sx_iload (pc := 21) dX12_sumOf_21 sx_m4 ?_
    refine sx_iload (pc := 23) dX12_sumOf_23 sx_m5 ?_
    refine sx_iadd (pc := 25) dX12_sumOf_25 ?_
    refine sv_tI (fun x8 hx8 => ?_)
    have h := sx_letE hx8 h
    refine sx_istore (pc := 26) (lo' := [(7, .int x8), (0, .ref 146), (2, .int l2), (3, .int l3), (4, .int l4), (5, .int l5), (6, .int l6)]) dX12_sumOf_26 (by decide) rfl ?_
    refine sx_iload (pc := 28) dX12_sumOf_28 sx_m0 ?_
    refine sx_iload_n (pc := 30) dX12_sumOf_30 sx_m2 ?_
    refine sx_icmp_ge (pc := 31) (tgt := 62) dX12_sumOf_31 (by decide) (fun c9 => ?_) (fun c9 => ?_)
    · have h := sx_pos c9 h
      refine sx_wk (sx_s1 sx_m1 (sx_s1 sx_m2 (sx_s1 sx_m3 (sx_s1 sx_m4 (sx_s1 sx_m5 (sx_s1 sx_m6 sx_s0)))))) ?_
      exact tB_X12_sumOf_62 hG hP hk6 hk15 h
    · have h := sx_neg c9 h
      refine sx_iload_n (pc := 34) dX12_sumOf_34 sx_m3 ?_
      refine sx_iconst (pc := 35) (v := (-1)) dX12_sumOf_35 (by decide) ?_
      refine sx_icmp_eq (pc := 36) (tgt := 53) dX12_sumOf_36 (by decide) (fun c10 => ?_) (fun c10 => ?_)
      · have h := sx_pos c10 h
        refine sx_wk (sx_s1 sx_m1 (sx_s1 sx_m2 (sx_s1 sx_m3 (sx_s1 sx_m4 (sx_s1 sx_m5 (sx_s1 sx_m6 (sx_s1 sx_m0 sx_s0))))))) ?_
        exact tB_X12_sumOf_53 hG hP hk6 hk15 h
      · have h := sx_neg c10 h
        refine sx_iload (pc := 39) dX12_sumOf_39 sx_m0 ?_
        refine sx_iload_n (pc := 41) dX12_sumOf_41 sx_m3 ?_
        refine sx_icmp_lt (pc := 42) (tgt := 53) dX12_sumOf_42 (by decide) (fun c11 => ?_) (fun c11 => ?_)
        · have h := sx_pos c11 h
          refine sx_wk (sx_s1 sx_m1 (sx_s1 sx_m2 (sx_s1 sx_m3 (sx_s1 sx_m4 (sx_s1 sx_m5 (sx_s1 sx_m6 (sx_s1 sx_m0 sx_s0))))))) ?_
          exact tB_X12_sumOf_53 hG hP hk6 hk15 h
        · have h := sx_neg c11 h
          refine sx_iload (pc := 45) dX12_sumOf_45 sx_m0 ?_
          refine sx_iload_n (pc := 47) dX12_sumOf_47 sx_m3 ?_
          refine sx_iconst (pc := 48) (v := 4) dX12_sumOf_48 (by decide) ?_
          refine sx_iadd (pc := 49) dX12_sumOf_49 ?_
          refine sx_icmp_lt (pc := 50) (tgt := 62) dX12_sumOf_50 (by decide) (fun c12 => ?_) (fun c12 => ?_)
          · have h := sx_pos c12 h
            refine sx_wk (sx_s1 sx_m1 (sx_s1 sx_m2 (sx_s1 sx_m3 (sx_s1 sx_m4 (sx_s1 sx_m5 (sx_s1 sx_m6 sx_s0)))))) ?_
            exact tB_X12_sumOf_62 hG hP hk6 hk15 h
          · have h := sx_neg c12 h
            refine sx_wk (sx_s1 sx_m1 (sx_s1 sx_m2 (sx_s1 sx_m3 (sx_s1 sx_m4 (sx_s1 sx_m5 (sx_s1 sx_m6 (sx_s1 sx_m0 sx_s0))))))) ?_
            exact tB_X12_sumOf_53 hG hP hk6 hk15 h
theorem tL_X12_sumOf_15 {g : sx_G} (hG : sx_Go g) {P : Option Value → sv_V → Prop} {r : Int32} {Vr : sv_V} (hP : P (some (.int r)) Vr) {N : Nat} {k6 : Int32 → Int32 → Int32 → Int32 → sv_V → Option (Int32 × sv_V)} (hk6 : ∀ (l2 : Int32) (l3 : Int32) (l4 : Int32) (l5 : Int32) (V : sv_V), k6 l2 l3 l4 l5 V = some (r, Vr) → sv_N g qX12_sumOf 1 6 [(0, .ref 146), (2, .int l2), (3, .int l3), (4, .int l4), (5, .int l5)] [] V P) : ∀ (n : Nat) (l2 : Int32) (l3 : Int32) (l4 : Int32) (l5 : Int32) (l6 : Int32) (V : sv_V), sx_lp6 (B_X12_sumOf_15 N k6) n l2 l3 l4 l5 l6 V = some (r, Vr) → sv_N g qX12_sumOf 1 15 [(0, .ref 146), (2, .int l2), (3, .int l3), (4, .int l4), (5, .int l5), (6, .int l6)] [] V P :=
  sx_lp6_ind (fun k0 ih _ _ _ _ _ V h => tB_X12_sumOf_15 hG hP hk6 ih h)
def B_X12_sumOf_6 (N : Nat) (k6 : Int32 → Int32 → Int32 → Int32 → sv_V → Option (Int32 × sv_V)) (l2 : Int32) (l3 : Int32) (l4 : Int32) (l5 : Int32) (V : sv_V) : Option (Int32 × sv_V) := if l2 ≤ l5 then (some (l4, V)) else (sx_lp6 (B_X12_sumOf_15 N k6) N l2 l3 l4 l5 (0 : Int32) V)
set_option maxRecDepth 20000 in
theorem tB_X12_sumOf_6 {g : sx_G} (hG : sx_Go g) {P : Option Value → sv_V → Prop} {r : Int32} {Vr : sv_V} (hP : P (some (.int r)) Vr) {N : Nat} {k6 : Int32 → Int32 → Int32 → Int32 → sv_V → Option (Int32 × sv_V)} (hk6 : ∀ (l2 : Int32) (l3 : Int32) (l4 : Int32) (l5 : Int32) (V : sv_V), k6 l2 l3 l4 l5 V = some (r, Vr) → sv_N g qX12_sumOf 1 6 [(0, .ref 146), (2, .int l2), (3, .int l3), (4, .int l4), (5, .int l5)] [] V P) {l2 : Int32} {l3 : Int32} {l4 : Int32} {l5 : Int32} {V : sv_V} (h : B_X12_sumOf_6 N k6 l2 l3 l4 l5 V = some (r, Vr)) : sv_N g qX12_sumOf 1 6 [(0, .ref 146), (2, .int l2), (3, .int l3), (4, .int l4), (5, .int l5)] [] V P := by
  unfold B_X12_sumOf_6 at h
  refine sx_iload (pc := 6) dX12_sumOf_6 sx_m4 ?_
  refine sx_iload_n (pc := 8) dX12_sumOf_8 sx_m1 ?_
  refine sx_icmp_ge (pc := 9) (tgt := 93) dX12_sumOf_9 (by decide) (fun c13 => ?_) (fun c13 => ?_)
  · have h := sx_pos c13 h
    refine sx_iload (pc := 93) dX12_sumOf_93 sx_m3 ?_
    exact sv_iret (pc := 95) dX12_sumOf_95 rfl h hP
  · have h := sx_neg c13 h
    refine sx_iconst (pc := 12) (v := 0) dX12_sumOf_12 (by decide) ?_
    refine sx_istore (pc := 13) (lo' := [(6, .int (0 : Int32)), (0, .ref 146), (2, .int l2), (3, .int l3), (4, .int l4), (5, .int l5)]) dX12_sumOf_13 (by decide) rfl ?_
    refine sx_wk (sx_s1 sx_m1 (sx_s1 sx_m2 (sx_s1 sx_m3 (sx_s1 sx_m4 (sx_s1 sx_m5 (sx_s1 sx_m0 sx_s0)))))) ?_
    exact tL_X12_sumOf_15 hG hP hk6 N _ _ _ _ _ _ h
theorem tL_X12_sumOf_6 {g : sx_G} (hG : sx_Go g) {P : Option Value → sv_V → Prop} {r : Int32} {Vr : sv_V} (hP : P (some (.int r)) Vr) {N : Nat}   : ∀ (n : Nat) (l2 : Int32) (l3 : Int32) (l4 : Int32) (l5 : Int32) (V : sv_V), sx_lp5 (B_X12_sumOf_6 N ) n l2 l3 l4 l5 V = some (r, Vr) → sv_N g qX12_sumOf 1 6 [(0, .ref 146), (2, .int l2), (3, .int l3), (4, .int l4), (5, .int l5)] [] V P :=
  sx_lp5_ind (fun k0 ih _ _ _ _ V h => tB_X12_sumOf_6 hG hP ih h)
def F_X12_sumOf (N : Nat) (l1 : Int32) (l2 : Int32) (l3 : Int32) (V : sv_V) : Option (Int32 × sv_V) := sx_lp5 (B_X12_sumOf_6 N ) N l2 l3 (0 : Int32) l1 V
set_option maxRecDepth 20000 in
theorem t_X12_sumOf {g : sx_G} (hG : sx_Go g) {P : Option Value → sv_V → Prop} {r : Int32} {Vr : sv_V} (hP : P (some (.int r)) Vr) {N : Nat} {l1 : Int32} {l2 : Int32} {l3 : Int32} {V : sv_V} (h : F_X12_sumOf N l1 l2 l3 V = some (r, Vr)) : sv_N g qX12_sumOf 1 0 [(0, .ref 146), (1, .int l1), (2, .int l2), (3, .int l3)] [] V P := by
  unfold F_X12_sumOf at h
  refine sx_iconst (pc := 0) (v := 0) dX12_sumOf_0 (by decide) ?_
  refine sx_istore (pc := 1) (lo' := [(4, .int (0 : Int32)), (0, .ref 146), (1, .int l1), (2, .int l2), (3, .int l3)]) dX12_sumOf_1 (by decide) rfl ?_
  refine sx_iload_n (pc := 3) dX12_sumOf_3 sx_m2 ?_
  refine sx_istore (pc := 4) (lo' := [(5, .int l1), (4, .int (0 : Int32)), (0, .ref 146), (1, .int l1), (2, .int l2), (3, .int l3)]) dX12_sumOf_4 (by decide) rfl ?_
  refine sx_wk (sx_s1 sx_m2 (sx_s1 sx_m4 (sx_s1 sx_m5 (sx_s1 sx_m1 (sx_s1 sx_m0 sx_s0))))) ?_
  exact tL_X12_sumOf_6 hG hP  N _ _ _ _ _ h
theorem dX12_directory_0 : decode cX12_directory 0 = .ok (.aload_n 0, 1) := by decide +kernel
theorem dX12_directory_1 : decode cX12_directory 1 = .ok (.iconst 4, 1) := by decide +kernel
theorem dX12_directory_2 : decode cX12_directory 2 = .ok (.invokevirtual 213, 3) := by decide +kernel
theorem dX12_directory_5 : decode cX12_directory 5 = .ok (.istore_n 1, 1) := by decide +kernel
theorem dX12_directory_6 : decode cX12_directory 6 = .ok (.aload_n 0, 1) := by decide +kernel
theorem dX12_directory_7 : decode cX12_directory 7 = .ok (.getfield 206, 3) := by decide +kernel
theorem dX12_directory_10 : decode cX12_directory 10 = .ok (.bipush 12, 2) := by decide +kernel
theorem dX12_directory_12 : decode cX12_directory 12 = .ok (.if_icmp .lt 41, 3) := by decide +kernel
theorem dX12_directory_15 : decode cX12_directory 15 = .ok (.aload_n 0, 1) := by decide +kernel
theorem dX12_directory_16 : decode cX12_directory 16 = .ok (.iconst 0, 1) := by decide +kernel
theorem dX12_directory_17 : decode cX12_directory 17 = .ok (.invokevirtual 297, 3) := by decide +kernel
theorem dX12_directory_20 : decode cX12_directory 20 = .ok (.ldc2_w 300, 3) := by decide +kernel
theorem dX12_directory_23 : decode cX12_directory 23 = .ok (.lcmp, 1) := by decide +kernel
theorem dX12_directory_24 : decode cX12_directory 24 = .ok (.ifCond .ne 29, 3) := by decide +kernel
theorem dX12_directory_27 : decode cX12_directory 27 = .ok (.iload_n 1, 1) := by decide +kernel
theorem dX12_directory_28 : decode cX12_directory 28 = .ok (.i2l, 1) := by decide +kernel
theorem dX12_directory_29 : decode cX12_directory 29 = .ok (.lconst 1, 1) := by decide +kernel
theorem dX12_directory_30 : decode cX12_directory 30 = .ok (.ldc2_w 232, 3) := by decide +kernel
theorem dX12_directory_33 : decode cX12_directory 33 = .ok (.invokestatic 263, 3) := by decide +kernel
theorem dX12_directory_36 : decode cX12_directory 36 = .ok (.ifCond .eq 17, 3) := by decide +kernel
theorem dX12_directory_39 : decode cX12_directory 39 = .ok (.aload_n 0, 1) := by decide +kernel
theorem dX12_directory_40 : decode cX12_directory 40 = .ok (.getfield 206, 3) := by decide +kernel
theorem dX12_directory_43 : decode cX12_directory 43 = .ok (.bipush 12, 2) := by decide +kernel
theorem dX12_directory_45 : decode cX12_directory 45 = .ok (.bipush 16, 2) := by decide +kernel
theorem dX12_directory_47 : decode cX12_directory 47 = .ok (.iload_n 1, 1) := by decide +kernel
theorem dX12_directory_48 : decode cX12_directory 48 = .ok (.imul, 1) := by decide +kernel
theorem dX12_directory_49 : decode cX12_directory 49 = .ok (.iadd, 1) := by decide +kernel
theorem dX12_directory_50 : decode cX12_directory 50 = .ok (.if_icmp .ge 5, 3) := by decide +kernel
theorem dX12_directory_53 : decode cX12_directory 53 = .ok (.iconst 0, 1) := by decide +kernel
theorem dX12_directory_54 : decode cX12_directory 54 = .ok (.ireturn, 1) := by decide +kernel
theorem dX12_directory_55 : decode cX12_directory 55 = .ok (.iconst 0, 1) := by decide +kernel
theorem dX12_directory_56 : decode cX12_directory 56 = .ok (.istore_n 2, 1) := by decide +kernel
theorem dX12_directory_57 : decode cX12_directory 57 = .ok (.iconst 2, 1) := by decide +kernel
theorem dX12_directory_58 : decode cX12_directory 58 = .ok (.iload_n 2, 1) := by decide +kernel
theorem dX12_directory_59 : decode cX12_directory 59 = .ok (.ishl, 1) := by decide +kernel
theorem dX12_directory_60 : decode cX12_directory 60 = .ok (.iload_n 1, 1) := by decide +kernel
theorem dX12_directory_61 : decode cX12_directory 61 = .ok (.if_icmp .gt 9, 3) := by decide +kernel
theorem dX12_directory_64 : decode cX12_directory 64 = .ok (.iinc 2 1, 3) := by decide +kernel
theorem dX12_directory_67 : decode cX12_directory 67 = .ok (.goto (-10), 3) := by decide +kernel
theorem dX12_directory_70 : decode cX12_directory 70 = .ok (.aload_n 0, 1) := by decide +kernel
theorem dX12_directory_71 : decode cX12_directory 71 = .ok (.bipush 6, 2) := by decide +kernel
theorem dX12_directory_73 : decode cX12_directory 73 = .ok (.invokevirtual 213, 3) := by decide +kernel
theorem dX12_directory_76 : decode cX12_directory 76 = .ok (.bipush 16, 2) := by decide +kernel
theorem dX12_directory_78 : decode cX12_directory 78 = .ok (.iload_n 2, 1) := by decide +kernel
theorem dX12_directory_79 : decode cX12_directory 79 = .ok (.ishl, 1) := by decide +kernel
theorem dX12_directory_80 : decode cX12_directory 80 = .ok (.if_icmp .ne 31, 3) := by decide +kernel
theorem dX12_directory_83 : decode cX12_directory 83 = .ok (.aload_n 0, 1) := by decide +kernel
theorem dX12_directory_84 : decode cX12_directory 84 = .ok (.bipush 8, 2) := by decide +kernel
theorem dX12_directory_86 : decode cX12_directory 86 = .ok (.invokevirtual 213, 3) := by decide +kernel
theorem dX12_directory_89 : decode cX12_directory 89 = .ok (.iload_n 2, 1) := by decide +kernel
theorem dX12_directory_90 : decode cX12_directory 90 = .ok (.if_icmp .ne 21, 3) := by decide +kernel
theorem dX12_directory_93 : decode cX12_directory 93 = .ok (.aload_n 0, 1) := by decide +kernel
theorem dX12_directory_94 : decode cX12_directory 94 = .ok (.bipush 10, 2) := by decide +kernel
theorem dX12_directory_96 : decode cX12_directory 96 = .ok (.invokevirtual 213, 3) := by decide +kernel
theorem dX12_directory_99 : decode cX12_directory 99 = .ok (.bipush 16, 2) := by decide +kernel
theorem dX12_directory_101 : decode cX12_directory 101 = .ok (.iload_n 1, 1) := by decide +kernel
theorem dX12_directory_102 : decode cX12_directory 102 = .ok (.imul, 1) := by decide +kernel
theorem dX12_directory_103 : decode cX12_directory 103 = .ok (.bipush 16, 2) := by decide +kernel
theorem dX12_directory_105 : decode cX12_directory 105 = .ok (.iload_n 2, 1) := by decide +kernel
theorem dX12_directory_106 : decode cX12_directory 106 = .ok (.ishl, 1) := by decide +kernel
theorem dX12_directory_107 : decode cX12_directory 107 = .ok (.isub, 1) := by decide +kernel
theorem dX12_directory_108 : decode cX12_directory 108 = .ok (.if_icmp .eq 5, 3) := by decide +kernel
theorem dX12_directory_111 : decode cX12_directory 111 = .ok (.iconst 0, 1) := by decide +kernel
theorem dX12_directory_112 : decode cX12_directory 112 = .ok (.ireturn, 1) := by decide +kernel
theorem dX12_directory_113 : decode cX12_directory 113 = .ok (.aload_n 0, 1) := by decide +kernel
theorem dX12_directory_114 : decode cX12_directory 114 = .ok (.iload_n 1, 1) := by decide +kernel
theorem dX12_directory_115 : decode cX12_directory 115 = .ok (.putfield 216, 3) := by decide +kernel
theorem dX12_directory_118 : decode cX12_directory 118 = .ok (.iconst 0, 1) := by decide +kernel
theorem dX12_directory_119 : decode cX12_directory 119 = .ok (.istore_n 3, 1) := by decide +kernel
theorem dX12_directory_120 : decode cX12_directory 120 = .ok (.iload_n 3, 1) := by decide +kernel
theorem dX12_directory_121 : decode cX12_directory 121 = .ok (.iload_n 1, 1) := by decide +kernel
theorem dX12_directory_122 : decode cX12_directory 122 = .ok (.if_icmp .ge 75, 3) := by decide +kernel
theorem dX12_directory_125 : decode cX12_directory 125 = .ok (.bipush 12, 2) := by decide +kernel
theorem dX12_directory_127 : decode cX12_directory 127 = .ok (.bipush 16, 2) := by decide +kernel
theorem dX12_directory_129 : decode cX12_directory 129 = .ok (.iload_n 3, 1) := by decide +kernel
theorem dX12_directory_130 : decode cX12_directory 130 = .ok (.imul, 1) := by decide +kernel
theorem dX12_directory_131 : decode cX12_directory 131 = .ok (.iadd, 1) := by decide +kernel
theorem dX12_directory_132 : decode cX12_directory 132 = .ok (.istore 4, 2) := by decide +kernel
theorem dX12_directory_134 : decode cX12_directory 134 = .ok (.aload_n 0, 1) := by decide +kernel
theorem dX12_directory_135 : decode cX12_directory 135 = .ok (.getfield 16, 3) := by decide +kernel
theorem dX12_directory_138 : decode cX12_directory 138 = .ok (.iload_n 3, 1) := by decide +kernel
theorem dX12_directory_139 : decode cX12_directory 139 = .ok (.aload_n 0, 1) := by decide +kernel
theorem dX12_directory_140 : decode cX12_directory 140 = .ok (.iload 4, 2) := by decide +kernel
theorem dX12_directory_142 : decode cX12_directory 142 = .ok (.invokevirtual 297, 3) := by decide +kernel
theorem dX12_directory_145 : decode cX12_directory 145 = .ok (.l2i, 1) := by decide +kernel
theorem dX12_directory_146 : decode cX12_directory 146 = .ok (.iastore, 1) := by decide +kernel
theorem dX12_directory_147 : decode cX12_directory 147 = .ok (.aload_n 0, 1) := by decide +kernel
theorem dX12_directory_148 : decode cX12_directory 148 = .ok (.getfield 20, 3) := by decide +kernel
theorem dX12_directory_151 : decode cX12_directory 151 = .ok (.iload_n 3, 1) := by decide +kernel
theorem dX12_directory_152 : decode cX12_directory 152 = .ok (.aload_n 0, 1) := by decide +kernel
theorem dX12_directory_153 : decode cX12_directory 153 = .ok (.iload 4, 2) := by decide +kernel
theorem dX12_directory_155 : decode cX12_directory 155 = .ok (.iconst 4, 1) := by decide +kernel
theorem dX12_directory_156 : decode cX12_directory 156 = .ok (.iadd, 1) := by decide +kernel
theorem dX12_directory_157 : decode cX12_directory 157 = .ok (.invokevirtual 297, 3) := by decide +kernel
theorem dX12_directory_160 : decode cX12_directory 160 = .ok (.lastore, 1) := by decide +kernel
theorem dX12_directory_161 : decode cX12_directory 161 = .ok (.aload_n 0, 1) := by decide +kernel
theorem dX12_directory_162 : decode cX12_directory 162 = .ok (.getfield 24, 3) := by decide +kernel
theorem dX12_directory_165 : decode cX12_directory 165 = .ok (.iload_n 3, 1) := by decide +kernel
theorem dX12_directory_166 : decode cX12_directory 166 = .ok (.aload_n 0, 1) := by decide +kernel
theorem dX12_directory_167 : decode cX12_directory 167 = .ok (.iload 4, 2) := by decide +kernel
theorem dX12_directory_169 : decode cX12_directory 169 = .ok (.bipush 8, 2) := by decide +kernel
theorem dX12_directory_171 : decode cX12_directory 171 = .ok (.iadd, 1) := by decide +kernel
theorem dX12_directory_172 : decode cX12_directory 172 = .ok (.invokevirtual 297, 3) := by decide +kernel
theorem dX12_directory_175 : decode cX12_directory 175 = .ok (.lastore, 1) := by decide +kernel
theorem dX12_directory_176 : decode cX12_directory 176 = .ok (.aload_n 0, 1) := by decide +kernel
theorem dX12_directory_177 : decode cX12_directory 177 = .ok (.getfield 27, 3) := by decide +kernel
theorem dX12_directory_180 : decode cX12_directory 180 = .ok (.iload_n 3, 1) := by decide +kernel
theorem dX12_directory_181 : decode cX12_directory 181 = .ok (.aload_n 0, 1) := by decide +kernel
theorem dX12_directory_182 : decode cX12_directory 182 = .ok (.iload 4, 2) := by decide +kernel
theorem dX12_directory_184 : decode cX12_directory 184 = .ok (.bipush 12, 2) := by decide +kernel
theorem dX12_directory_186 : decode cX12_directory 186 = .ok (.iadd, 1) := by decide +kernel
theorem dX12_directory_187 : decode cX12_directory 187 = .ok (.invokevirtual 297, 3) := by decide +kernel
theorem dX12_directory_190 : decode cX12_directory 190 = .ok (.lastore, 1) := by decide +kernel
theorem dX12_directory_191 : decode cX12_directory 191 = .ok (.iinc 3 1, 3) := by decide +kernel
theorem dX12_directory_194 : decode cX12_directory 194 = .ok (.goto (-74), 3) := by decide +kernel
theorem dX12_directory_197 : decode cX12_directory 197 = .ok (.iconst 1, 1) := by decide +kernel
theorem dX12_directory_198 : decode cX12_directory 198 = .ok (.ireturn, 1) := by decide +kernel
def B_X12_directory_120 (N : Nat) (k120 : Int32 → Int32 → sv_V → Option (Int32 × sv_V)) (l1 : Int32) (l3 : Int32) (V : sv_V) : Option (Int32 × sv_V) := if l1 ≤ l3 then (some ((1 : Int32), V)) else (sx_let ((12 : Int32) + ((16 : Int32) * l3)) (fun x2 => (F_X12_u4 x2 V).bind (fun (x5, V3) => if sx_in l3 16 = true then sx_let (sv_I V3 149 l3.toNatClampNeg x5.toInt32) (fun V7 => (F_X12_u4 (x2 + (4 : Int32)) V7).bind (fun (x10, V8) => if sx_in l3 16 = true then sx_let (sv_L V8 150 l3.toNatClampNeg x10) (fun V12 => (F_X12_u4 (x2 + (8 : Int32)) V12).bind (fun (x15, V13) => if sx_in l3 16 = true then sx_let (sv_L V13 151 l3.toNatClampNeg x15) (fun V17 => (F_X12_u4 (x2 + (12 : Int32)) V17).bind (fun (x20, V18) => if sx_in l3 16 = true then sx_let (sv_L V18 152 l3.toNatClampNeg x20) (fun V22 => sx_let (l3 + 1) (fun x23 => k120 l1 x23 V22)) else none)) else none)) else none)) else none)))
set_option maxRecDepth 20000 in
theorem tB_X12_directory_120 {g : sx_G} (hG : sx_Go g) {P : Option Value → sv_V → Prop} {r : Int32} {Vr : sv_V} (hP : P (some (.int r)) Vr) {N : Nat} {k120 : Int32 → Int32 → sv_V → Option (Int32 × sv_V)} (hk120 : ∀ (l1 : Int32) (l3 : Int32) (V : sv_V), k120 l1 l3 V = some (r, Vr) → sv_N g qX12_directory 3 120 [(0, .ref 146), (1, .int l1), (3, .int l3)] [] V P) {l1 : Int32} {l3 : Int32} {V : sv_V} (h : B_X12_directory_120 N k120 l1 l3 V = some (r, Vr)) : sv_N g qX12_directory 3 120 [(0, .ref 146), (1, .int l1), (3, .int l3)] [] V P := by
  unfold B_X12_directory_120 at h
  refine sx_iload_n (pc := 120) dX12_directory_120 sx_m2 ?_
  refine sx_iload_n (pc := 121) dX12_directory_121 sx_m1 ?_
  refine sx_icmp_ge (pc := 122) (tgt := 197) dX12_directory_122 (by decide) (fun c1 => ?_) (fun c1 => ?_)
  · have h := sx_pos c1 h
    refine sx_iconst (pc := 197) (v := 1) dX12_directory_197 (by decide) ?_
    exact sv_zret (pc := 198) dX12_directory_198 rfl rfl h hP
  · have h := sx_neg c1 h
    refine sx_bipush (pc := 125) (v := 12) dX12_directory_125 (by decide) ?_
    refine sx_bipush (pc := 127) (v := 16) dX12_directory_127 (by decide) ?_
    refine sx_iload_n (pc := 129) dX12_directory_129 sx_m2 ?_
    refine sx_imul (pc := 130) dX12_directory_130 ?_
    refine sx_iadd (pc := 131) dX12_directory_131 ?_
    refine sv_tI (fun x2 hx2 => ?_)
    have h := sx_letE hx2 h
    refine sx_istore (pc := 132) (lo' := [(4, .int x2), (0, .ref 146), (1, .int l1), (3, .int l3)]) dX12_directory_132 (by decide) rfl ?_
    refine sx_aload_n (pc := 134) dX12_directory_134 sx_m1 ?_
    refine sv_getA (pc := 135) hG dX12_directory_135 f_12_16 lay_146 rfl cr_146_6 ?_
    refine sx_iload_n (pc := 138) dX12_directory_138 sx_m3 ?_
    refine sx_aload_n (pc := 139) dX12_directory_139 sx_m1 ?_
    refine sx_iload (pc := 140) dX12_directory_140 sx_m0 ?_
    obtain ⟨⟨x5, V3⟩, g4, h⟩ := sx_bnd h
    refine sv_cV (pc := 142) (y := qX12_u4) (o := (some (.long x5))) (as := [.int x2]) (V1 := V3) hG dX12_directory_142 l_X12_297 y0X12_u4 yvX12_u4 rfl (Nat.le_of_ble_eq_true rfl) lay_146 kr_12 (by decide) (Nat.le_of_ble_eq_true rfl) rfl rfl rfl (t_X12_u4 hG ⟨rfl, rfl⟩ g4) ?_
    refine sx_l2i (pc := 145) dX12_directory_145 ?_
    obtain ⟨g6, h⟩ := sx_grd h
    obtain ⟨V7, hV7⟩ : ∃ z : sv_V, z = sv_I V3 149 l3.toNatClampNeg x5.toInt32 := ⟨_, rfl⟩
    have h := sx_letE hV7 h
    refine sv_iast (pc := 146) hG dX12_directory_146 lay_149 g6 hV7 ?_
    refine sx_aload_n (pc := 147) dX12_directory_147 sx_m1 ?_
    refine sv_getA (pc := 148) hG dX12_directory_148 f_12_20 lay_146 rfl cr_146_7 ?_
    refine sx_iload_n (pc := 151) dX12_directory_151 sx_m3 ?_
    refine sx_aload_n (pc := 152) dX12_directory_152 sx_m1 ?_
    refine sx_iload (pc := 153) dX12_directory_153 sx_m0 ?_
    refine sx_iconst (pc := 155) (v := 4) dX12_directory_155 (by decide) ?_
    refine sx_iadd (pc := 156) dX12_directory_156 ?_
    obtain ⟨⟨x10, V8⟩, g9, h⟩ := sx_bnd h
    refine sv_cV (pc := 157) (y := qX12_u4) (o := (some (.long x10))) (as := [.int (x2 + (4 : Int32))]) (V1 := V8) hG dX12_directory_157 l_X12_297 y0X12_u4 yvX12_u4 rfl (Nat.le_of_ble_eq_true rfl) lay_146 kr_12 (by decide) (Nat.le_of_ble_eq_true rfl) rfl rfl rfl (t_X12_u4 hG ⟨rfl, rfl⟩ g9) ?_
    obtain ⟨g11, h⟩ := sx_grd h
    obtain ⟨V12, hV12⟩ : ∃ z : sv_V, z = sv_L V8 150 l3.toNatClampNeg x10 := ⟨_, rfl⟩
    have h := sx_letE hV12 h
    refine sv_last (pc := 160) hG dX12_directory_160 lay_150 g11 hV12 ?_
    refine sx_aload_n (pc := 161) dX12_directory_161 sx_m1 ?_
    refine sv_getA (pc := 162) hG dX12_directory_162 f_12_24 lay_146 rfl cr_146_8 ?_
    refine sx_iload_n (pc := 165) dX12_directory_165 sx_m3 ?_
    refine sx_aload_n (pc := 166) dX12_directory_166 sx_m1 ?_
    refine sx_iload (pc := 167) dX12_directory_167 sx_m0 ?_
    refine sx_bipush (pc := 169) (v := 8) dX12_directory_169 (by decide) ?_
    refine sx_iadd (pc := 171) dX12_directory_171 ?_
    obtain ⟨⟨x15, V13⟩, g14, h⟩ := sx_bnd h
    refine sv_cV (pc := 172) (y := qX12_u4) (o := (some (.long x15))) (as := [.int (x2 + (8 : Int32))]) (V1 := V13) hG dX12_directory_172 l_X12_297 y0X12_u4 yvX12_u4 rfl (Nat.le_of_ble_eq_true rfl) lay_146 kr_12 (by decide) (Nat.le_of_ble_eq_true rfl) rfl rfl rfl (t_X12_u4 hG ⟨rfl, rfl⟩ g14) ?_
    obtain ⟨g16, h⟩ := sx_grd h
    obtain ⟨V17, hV17⟩ : ∃ z : sv_V, z = sv_L V13 151 l3.toNatClampNeg x15 := ⟨_, rfl⟩
    have h := sx_letE hV17 h
    refine sv_last (pc := 175) hG dX12_directory_175 lay_151 g16 hV17 ?_
    refine sx_aload_n (pc := 176) dX12_directory_176 sx_m1 ?_
    refine sv_getA (pc := 177) hG dX12_directory_177 f_12_27 lay_146 rfl cr_146_9 ?_
    refine sx_iload_n (pc := 180) dX12_directory_180 sx_m3 ?_
    refine sx_aload_n (pc := 181) dX12_directory_181 sx_m1 ?_
    refine sx_iload (pc := 182) dX12_directory_182 sx_m0 ?_
    refine sx_bipush (pc := 184) (v := 12) dX12_directory_184 (by decide) ?_
    refine sx_iadd (pc := 186) dX12_directory_186 ?_
    obtain ⟨⟨x20, V18⟩, g19, h⟩ := sx_bnd h
    refine sv_cV (pc := 187) (y := qX12_u4) (o := (some (.long x20))) (as := [.int (x2 + (12 : Int32))]) (V1 := V18) hG dX12_directory_187 l_X12_297 y0X12_u4 yvX12_u4 rfl (Nat.le_of_ble_eq_true rfl) lay_146 kr_12 (by decide) (Nat.le_of_ble_eq_true rfl) rfl rfl rfl (t_X12_u4 hG ⟨rfl, rfl⟩ g19) ?_
    obtain ⟨g21, h⟩ := sx_grd h
    obtain ⟨V22, hV22⟩ : ∃ z : sv_V, z = sv_L V18 152 l3.toNatClampNeg x20 := ⟨_, rfl⟩
    have h := sx_letE hV22 h
    refine sv_last (pc := 190) hG dX12_directory_190 lay_152 g21 hV22 ?_
    obtain ⟨x23, hx23⟩ : ∃ z : Int32, z = l3 + 1 := ⟨_, rfl⟩
    have h := sx_letE hx23 h
    refine sx_iinc (pc := 191) (v := x23) (lo' := [(3, .int x23), (4, .int x2), (0, .ref 146), (1, .int l1)]) dX12_directory_191 sx_m3 (by rw [hx23]; rfl) (by decide) rfl ?_
    refine sx_goto (pc := 194) (tgt := 120) dX12_directory_194 (by decide) ?_
    refine sx_wk (sx_s1 sx_m2 (sx_s1 sx_m3 (sx_s1 sx_m0 sx_s0))) ?_
    exact hk120 _ _ _ h
theorem tL_X12_directory_120 {g : sx_G} (hG : sx_Go g) {P : Option Value → sv_V → Prop} {r : Int32} {Vr : sv_V} (hP : P (some (.int r)) Vr) {N : Nat}   : ∀ (n : Nat) (l1 : Int32) (l3 : Int32) (V : sv_V), sx_lp3 (B_X12_directory_120 N ) n l1 l3 V = some (r, Vr) → sv_N g qX12_directory 3 120 [(0, .ref 146), (1, .int l1), (3, .int l3)] [] V P :=
  sx_lp3_ind (fun k0 ih _ _ V h => tB_X12_directory_120 hG hP ih h)
def B_X12_directory_57 (N : Nat) (k57 : Int32 → Int32 → sv_V → Option (Int32 × sv_V)) (l1 : Int32) (l2 : Int32) (V : sv_V) : Option (Int32 × sv_V) := if l1 < ((2 : Int32) <<< (l2 &&& 31)) then ((F_X12_u2 (6 : Int32) V).bind (fun (x27, V25) => if x27 = ((16 : Int32) <<< (l2 &&& 31)) then ((F_X12_u2 (8 : Int32) V25).bind (fun (x31, V29) => if x31 = l2 then ((F_X12_u2 (10 : Int32) V29).bind (fun (x35, V33) => if x35 = (((16 : Int32) * l1) - ((16 : Int32) <<< (l2 &&& 31))) then (sx_let (sv_I V33 146 5 l1) (fun V37 => sx_lp3 (B_X12_directory_120 N ) N l1 (0 : Int32) V37)) else (some ((0 : Int32), V33)))) else (some ((0 : Int32), V29)))) else (some ((0 : Int32), V25)))) else (sx_let (l2 + 1) (fun x38 => k57 l1 x38 V))
set_option maxRecDepth 20000 in
theorem tB_X12_directory_57 {g : sx_G} (hG : sx_Go g) {P : Option Value → sv_V → Prop} {r : Int32} {Vr : sv_V} (hP : P (some (.int r)) Vr) {N : Nat} {k57 : Int32 → Int32 → sv_V → Option (Int32 × sv_V)} (hk57 : ∀ (l1 : Int32) (l2 : Int32) (V : sv_V), k57 l1 l2 V = some (r, Vr) → sv_N g qX12_directory 3 57 [(0, .ref 146), (1, .int l1), (2, .int l2)] [] V P) {l1 : Int32} {l2 : Int32} {V : sv_V} (h : B_X12_directory_57 N k57 l1 l2 V = some (r, Vr)) : sv_N g qX12_directory 3 57 [(0, .ref 146), (1, .int l1), (2, .int l2)] [] V P := by
  unfold B_X12_directory_57 at h
  refine sx_iconst (pc := 57) (v := 2) dX12_directory_57 (by decide) ?_
  refine sx_iload_n (pc := 58) dX12_directory_58 sx_m2 ?_
  refine sx_ishl (pc := 59) dX12_directory_59 ?_
  refine sx_iload_n (pc := 60) dX12_directory_60 sx_m1 ?_
  refine sx_icmp_gt (pc := 61) (tgt := 70) dX12_directory_61 (by decide) (fun c24 => ?_) (fun c24 => ?_)
  · have h := sx_pos c24 h
    refine sx_aload_n (pc := 70) dX12_directory_70 sx_m0 ?_
    refine sx_bipush (pc := 71) (v := 6) dX12_directory_71 (by decide) ?_
    obtain ⟨⟨x27, V25⟩, g26, h⟩ := sx_bnd h
    refine sv_cV (pc := 73) (y := qX12_u2) (o := (some (.int x27))) (as := [.int (6 : Int32)]) (V1 := V25) hG dX12_directory_73 l_X12_213 y0X12_u2 yvX12_u2 rfl (Nat.le_of_ble_eq_true rfl) lay_146 kr_12 (by decide) (Nat.le_of_ble_eq_true rfl) rfl rfl rfl (t_X12_u2 hG ⟨rfl, rfl⟩ g26) ?_
    refine sx_bipush (pc := 76) (v := 16) dX12_directory_76 (by decide) ?_
    refine sx_iload_n (pc := 78) dX12_directory_78 sx_m2 ?_
    refine sx_ishl (pc := 79) dX12_directory_79 ?_
    refine sx_icmp_ne (pc := 80) (tgt := 111) dX12_directory_80 (by decide) (fun c28 => ?_) (fun c28 => ?_)
    · have h := sx_neg c28 h
      refine sx_iconst (pc := 111) (v := 0) dX12_directory_111 (by decide) ?_
      exact sv_zret (pc := 112) dX12_directory_112 rfl rfl h hP
    · have h := sx_pos c28 h
      refine sx_aload_n (pc := 83) dX12_directory_83 sx_m0 ?_
      refine sx_bipush (pc := 84) (v := 8) dX12_directory_84 (by decide) ?_
      obtain ⟨⟨x31, V29⟩, g30, h⟩ := sx_bnd h
      refine sv_cV (pc := 86) (y := qX12_u2) (o := (some (.int x31))) (as := [.int (8 : Int32)]) (V1 := V29) hG dX12_directory_86 l_X12_213 y0X12_u2 yvX12_u2 rfl (Nat.le_of_ble_eq_true rfl) lay_146 kr_12 (by decide) (Nat.le_of_ble_eq_true rfl) rfl rfl rfl (t_X12_u2 hG ⟨rfl, rfl⟩ g30) ?_
      refine sx_iload_n (pc := 89) dX12_directory_89 sx_m2 ?_
      refine sx_icmp_ne (pc := 90) (tgt := 111) dX12_directory_90 (by decide) (fun c32 => ?_) (fun c32 => ?_)
      · have h := sx_neg c32 h
        refine sx_iconst (pc := 111) (v := 0) dX12_directory_111 (by decide) ?_
        exact sv_zret (pc := 112) dX12_directory_112 rfl rfl h hP
      · have h := sx_pos c32 h
        refine sx_aload_n (pc := 93) dX12_directory_93 sx_m0 ?_
        refine sx_bipush (pc := 94) (v := 10) dX12_directory_94 (by decide) ?_
        obtain ⟨⟨x35, V33⟩, g34, h⟩ := sx_bnd h
        refine sv_cV (pc := 96) (y := qX12_u2) (o := (some (.int x35))) (as := [.int (10 : Int32)]) (V1 := V33) hG dX12_directory_96 l_X12_213 y0X12_u2 yvX12_u2 rfl (Nat.le_of_ble_eq_true rfl) lay_146 kr_12 (by decide) (Nat.le_of_ble_eq_true rfl) rfl rfl rfl (t_X12_u2 hG ⟨rfl, rfl⟩ g34) ?_
        refine sx_bipush (pc := 99) (v := 16) dX12_directory_99 (by decide) ?_
        refine sx_iload_n (pc := 101) dX12_directory_101 sx_m1 ?_
        refine sx_imul (pc := 102) dX12_directory_102 ?_
        refine sx_bipush (pc := 103) (v := 16) dX12_directory_103 (by decide) ?_
        refine sx_iload_n (pc := 105) dX12_directory_105 sx_m2 ?_
        refine sx_ishl (pc := 106) dX12_directory_106 ?_
        refine sx_isub (pc := 107) dX12_directory_107 ?_
        refine sx_icmp_eq (pc := 108) (tgt := 113) dX12_directory_108 (by decide) (fun c36 => ?_) (fun c36 => ?_)
        · have h := sx_pos c36 h
          refine sx_aload_n (pc := 113) dX12_directory_113 sx_m0 ?_
          refine sx_iload_n (pc := 114) dX12_directory_114 sx_m1 ?_
          obtain ⟨V37, hV37⟩ : ∃ z : sv_V, z = sv_I V33 146 5 l1 := ⟨_, rfl⟩
          have h := sx_letE hV37 h
          refine sv_putI (pc := 115) hG dX12_directory_115 f_12_216 lay_146 rfl hV37 ?_
          refine sx_iconst (pc := 118) (v := 0) dX12_directory_118 (by decide) ?_
          refine sx_istore_n (pc := 119) (lo' := [(3, .int (0 : Int32)), (0, .ref 146), (1, .int l1), (2, .int l2)]) dX12_directory_119 (by decide) rfl ?_
          refine sx_wk (sx_s1 sx_m1 (sx_s1 sx_m2 (sx_s1 sx_m0 sx_s0))) ?_
          exact tL_X12_directory_120 hG hP  N _ _ _ h
        · have h := sx_neg c36 h
          refine sx_iconst (pc := 111) (v := 0) dX12_directory_111 (by decide) ?_
          exact sv_zret (pc := 112) dX12_directory_112 rfl rfl h hP
  · have h := sx_neg c24 h
    obtain ⟨x38, hx38⟩ : ∃ z : Int32, z = l2 + 1 := ⟨_, rfl⟩
    have h := sx_letE hx38 h
    refine sx_iinc (pc := 64) (v := x38) (lo' := [(2, .int x38), (0, .ref 146), (1, .int l1)]) dX12_directory_64 sx_m2 (by rw [hx38]; rfl) (by decide) rfl ?_
    refine sx_goto (pc := 67) (tgt := 57) dX12_directory_67 (by decide) ?_
    refine sx_wk (sx_s1 sx_m1 (sx_s1 sx_m2 (sx_s1 sx_m0 sx_s0))) ?_
    exact hk57 _ _ _ h
theorem tL_X12_directory_57 {g : sx_G} (hG : sx_Go g) {P : Option Value → sv_V → Prop} {r : Int32} {Vr : sv_V} (hP : P (some (.int r)) Vr) {N : Nat}   : ∀ (n : Nat) (l1 : Int32) (l2 : Int32) (V : sv_V), sx_lp3 (B_X12_directory_57 N ) n l1 l2 V = some (r, Vr) → sv_N g qX12_directory 3 57 [(0, .ref 146), (1, .int l1), (2, .int l2)] [] V P :=
  sx_lp3_ind (fun k0 ih _ _ V h => tB_X12_directory_57 hG hP ih h)
def F_X12_directory (N : Nat)  (V : sv_V) : Option (Int32 × sv_V) := (F_X12_u2 (4 : Int32) V).bind (fun (x41, V39) => if (V39.1 146 3) < (12 : Int32) then (some ((0 : Int32), V39)) else ((F_X12_u4 (0 : Int32) V39).bind (fun (x45, V43) => if (lg_cmp x45 (65536 : Int64)) = 0 then ((F_X12_in x41.toInt64 (1 : Int64) (16 : Int64) V43).bind (fun (x49, V47) => if x49 = 0 then (some ((0 : Int32), V47)) else (if ((12 : Int32) + ((16 : Int32) * x41)) ≤ (V47.1 146 3) then (sx_lp3 (B_X12_directory_57 N ) N x41 (0 : Int32) V47) else (some ((0 : Int32), V47))))) else (some ((0 : Int32), V43)))))
set_option maxRecDepth 20000 in
theorem t_X12_directory {g : sx_G} (hG : sx_Go g) {P : Option Value → sv_V → Prop} {r : Int32} {Vr : sv_V} (hP : P (some (.int r)) Vr) {N : Nat}  {V : sv_V} (h : F_X12_directory N  V = some (r, Vr)) : sv_N g qX12_directory 3 0 [(0, .ref 146)] [] V P := by
  unfold F_X12_directory at h
  refine sx_aload_n (pc := 0) dX12_directory_0 sx_m0 ?_
  refine sx_iconst (pc := 1) (v := 4) dX12_directory_1 (by decide) ?_
  obtain ⟨⟨x41, V39⟩, g40, h⟩ := sx_bnd h
  refine sv_cV (pc := 2) (y := qX12_u2) (o := (some (.int x41))) (as := [.int (4 : Int32)]) (V1 := V39) hG dX12_directory_2 l_X12_213 y0X12_u2 yvX12_u2 rfl (Nat.le_of_ble_eq_true rfl) lay_146 kr_12 (by decide) (Nat.le_of_ble_eq_true rfl) rfl rfl rfl (t_X12_u2 hG ⟨rfl, rfl⟩ g40) ?_
  refine sx_istore_n (pc := 5) (lo' := [(1, .int x41), (0, .ref 146)]) dX12_directory_5 (by decide) rfl ?_
  refine sx_aload_n (pc := 6) dX12_directory_6 sx_m1 ?_
  refine sv_getI (pc := 7) hG dX12_directory_7 f_12_206 lay_146 rfl ?_
  refine sx_bipush (pc := 10) (v := 12) dX12_directory_10 (by decide) ?_
  refine sx_icmp_lt (pc := 12) (tgt := 53) dX12_directory_12 (by decide) (fun c42 => ?_) (fun c42 => ?_)
  · have h := sx_pos c42 h
    refine sx_iconst (pc := 53) (v := 0) dX12_directory_53 (by decide) ?_
    exact sv_zret (pc := 54) dX12_directory_54 rfl rfl h hP
  · have h := sx_neg c42 h
    refine sx_aload_n (pc := 15) dX12_directory_15 sx_m1 ?_
    refine sx_iconst (pc := 16) (v := 0) dX12_directory_16 (by decide) ?_
    obtain ⟨⟨x45, V43⟩, g44, h⟩ := sx_bnd h
    refine sv_cV (pc := 17) (y := qX12_u4) (o := (some (.long x45))) (as := [.int (0 : Int32)]) (V1 := V43) hG dX12_directory_17 l_X12_297 y0X12_u4 yvX12_u4 rfl (Nat.le_of_ble_eq_true rfl) lay_146 kr_12 (by decide) (Nat.le_of_ble_eq_true rfl) rfl rfl rfl (t_X12_u4 hG ⟨rfl, rfl⟩ g44) ?_
    refine sx_ldc2 (pc := 20) dX12_directory_20 k_X12_300 ?_
    refine sx_lcmp (pc := 23) dX12_directory_23 ?_
    refine sx_if_ne (pc := 24) (tgt := 53) dX12_directory_24 (by decide) (fun c46 => ?_) (fun c46 => ?_)
    · have h := sx_neg c46 h
      refine sx_iconst (pc := 53) (v := 0) dX12_directory_53 (by decide) ?_
      exact sv_zret (pc := 54) dX12_directory_54 rfl rfl h hP
    · have h := sx_pos c46 h
      refine sx_iload_n (pc := 27) dX12_directory_27 sx_m0 ?_
      refine sx_i2l (pc := 28) dX12_directory_28 ?_
      refine sx_lconst (pc := 29) (v := 1) dX12_directory_29 rfl ?_
      refine sx_ldc2 (pc := 30) dX12_directory_30 k_X12_232 ?_
      obtain ⟨⟨x49, V47⟩, g48, h⟩ := sx_bnd h
      refine sv_cS (pc := 33) (y := qX12_in) (o := (some (.int x49))) (as := [.long x41.toInt64, .long (1 : Int64), .long (16 : Int64)]) (V1 := V47) dX12_directory_33 l_X12_263 y0X12_in ysX12_in rfl (Nat.le_of_ble_eq_true rfl) (by decide) (Nat.le_of_ble_eq_true rfl) rfl rfl rfl (t_X12_in hG ⟨rfl, rfl⟩ g48) ?_
      refine sx_if_eq (pc := 36) (tgt := 53) dX12_directory_36 (by decide) (fun c50 => ?_) (fun c50 => ?_)
      · have h := sx_pos c50 h
        refine sx_iconst (pc := 53) (v := 0) dX12_directory_53 (by decide) ?_
        exact sv_zret (pc := 54) dX12_directory_54 rfl rfl h hP
      · have h := sx_neg c50 h
        refine sx_aload_n (pc := 39) dX12_directory_39 sx_m1 ?_
        refine sv_getI (pc := 40) hG dX12_directory_40 f_12_206 lay_146 rfl ?_
        refine sx_bipush (pc := 43) (v := 12) dX12_directory_43 (by decide) ?_
        refine sx_bipush (pc := 45) (v := 16) dX12_directory_45 (by decide) ?_
        refine sx_iload_n (pc := 47) dX12_directory_47 sx_m0 ?_
        refine sx_imul (pc := 48) dX12_directory_48 ?_
        refine sx_iadd (pc := 49) dX12_directory_49 ?_
        refine sx_icmp_ge (pc := 50) (tgt := 55) dX12_directory_50 (by decide) (fun c51 => ?_) (fun c51 => ?_)
        · have h := sx_pos c51 h
          refine sx_iconst (pc := 55) (v := 0) dX12_directory_55 (by decide) ?_
          refine sx_istore_n (pc := 56) (lo' := [(2, .int (0 : Int32)), (1, .int x41), (0, .ref 146)]) dX12_directory_56 (by decide) rfl ?_
          refine sx_wk (sx_s1 sx_m2 (sx_s1 sx_m1 (sx_s1 sx_m0 sx_s0))) ?_
          exact tL_X12_directory_57 hG hP  N _ _ _ h
        · have h := sx_neg c51 h
          refine sx_iconst (pc := 53) (v := 0) dX12_directory_53 (by decide) ?_
          exact sv_zret (pc := 54) dX12_directory_54 rfl rfl h hP
theorem dX12_head_0 : decode cX12_head 0 = .ok (.aload_n 0, 1) := by decide +kernel
theorem dX12_head_1 : decode cX12_head 1 = .ok (.ldc 234, 2) := by decide +kernel
theorem dX12_head_3 : decode cX12_head 3 = .ok (.invokevirtual 251, 3) := by decide +kernel
theorem dX12_head_6 : decode cX12_head 6 = .ok (.istore_n 1, 1) := by decide +kernel
theorem dX12_head_7 : decode cX12_head 7 = .ok (.aload_n 0, 1) := by decide +kernel
theorem dX12_head_8 : decode cX12_head 8 = .ok (.aload_n 0, 1) := by decide +kernel
theorem dX12_head_9 : decode cX12_head 9 = .ok (.iload_n 1, 1) := by decide +kernel
theorem dX12_head_10 : decode cX12_head 10 = .ok (.bipush 18, 2) := by decide +kernel
theorem dX12_head_12 : decode cX12_head 12 = .ok (.iadd, 1) := by decide +kernel
theorem dX12_head_13 : decode cX12_head 13 = .ok (.invokevirtual 213, 3) := by decide +kernel
theorem dX12_head_16 : decode cX12_head 16 = .ok (.putfield 302, 3) := by decide +kernel
theorem dX12_head_19 : decode cX12_head 19 = .ok (.aload_n 0, 1) := by decide +kernel
theorem dX12_head_20 : decode cX12_head 20 = .ok (.aload_n 0, 1) := by decide +kernel
theorem dX12_head_21 : decode cX12_head 21 = .ok (.iload_n 1, 1) := by decide +kernel
theorem dX12_head_22 : decode cX12_head 22 = .ok (.bipush 50, 2) := by decide +kernel
theorem dX12_head_24 : decode cX12_head 24 = .ok (.iadd, 1) := by decide +kernel
theorem dX12_head_25 : decode cX12_head 25 = .ok (.invokevirtual 305, 3) := by decide +kernel
theorem dX12_head_28 : decode cX12_head 28 = .ok (.putfield 271, 3) := by decide +kernel
theorem dX12_head_31 : decode cX12_head 31 = .ok (.aload_n 0, 1) := by decide +kernel
theorem dX12_head_32 : decode cX12_head 32 = .ok (.ldc 234, 2) := by decide +kernel
theorem dX12_head_34 : decode cX12_head 34 = .ok (.invokevirtual 257, 3) := by decide +kernel
theorem dX12_head_37 : decode cX12_head 37 = .ok (.bipush 54, 2) := by decide +kernel
theorem dX12_head_39 : decode cX12_head 39 = .ok (.if_icmp .ne 75, 3) := by decide +kernel
theorem dX12_head_42 : decode cX12_head 42 = .ok (.aload_n 0, 1) := by decide +kernel
theorem dX12_head_43 : decode cX12_head 43 = .ok (.iload_n 1, 1) := by decide +kernel
theorem dX12_head_44 : decode cX12_head 44 = .ok (.invokevirtual 297, 3) := by decide +kernel
theorem dX12_head_47 : decode cX12_head 47 = .ok (.ldc2_w 300, 3) := by decide +kernel
theorem dX12_head_50 : decode cX12_head 50 = .ok (.lcmp, 1) := by decide +kernel
theorem dX12_head_51 : decode cX12_head 51 = .ok (.ifCond .ne 63, 3) := by decide +kernel
theorem dX12_head_54 : decode cX12_head 54 = .ok (.aload_n 0, 1) := by decide +kernel
theorem dX12_head_55 : decode cX12_head 55 = .ok (.iload_n 1, 1) := by decide +kernel
theorem dX12_head_56 : decode cX12_head 56 = .ok (.bipush 12, 2) := by decide +kernel
theorem dX12_head_58 : decode cX12_head 58 = .ok (.iadd, 1) := by decide +kernel
theorem dX12_head_59 : decode cX12_head 59 = .ok (.invokevirtual 297, 3) := by decide +kernel
theorem dX12_head_62 : decode cX12_head 62 = .ok (.ldc2_w 308, 3) := by decide +kernel
theorem dX12_head_65 : decode cX12_head 65 = .ok (.lcmp, 1) := by decide +kernel
theorem dX12_head_66 : decode cX12_head 66 = .ok (.ifCond .ne 48, 3) := by decide +kernel
theorem dX12_head_69 : decode cX12_head 69 = .ok (.aload_n 0, 1) := by decide +kernel
theorem dX12_head_70 : decode cX12_head 70 = .ok (.getfield 302, 3) := by decide +kernel
theorem dX12_head_73 : decode cX12_head 73 = .ok (.i2l, 1) := by decide +kernel
theorem dX12_head_74 : decode cX12_head 74 = .ok (.ldc2_w 232, 3) := by decide +kernel
theorem dX12_head_77 : decode cX12_head 77 = .ok (.ldc2_w 310, 3) := by decide +kernel
theorem dX12_head_80 : decode cX12_head 80 = .ok (.invokestatic 263, 3) := by decide +kernel
theorem dX12_head_83 : decode cX12_head 83 = .ok (.ifCond .eq 31, 3) := by decide +kernel
theorem dX12_head_86 : decode cX12_head 86 = .ok (.aload_n 0, 1) := by decide +kernel
theorem dX12_head_87 : decode cX12_head 87 = .ok (.getfield 271, 3) := by decide +kernel
theorem dX12_head_90 : decode cX12_head 90 = .ok (.i2l, 1) := by decide +kernel
theorem dX12_head_91 : decode cX12_head 91 = .ok (.lconst 0, 1) := by decide +kernel
theorem dX12_head_92 : decode cX12_head 92 = .ok (.lconst 1, 1) := by decide +kernel
theorem dX12_head_93 : decode cX12_head 93 = .ok (.invokestatic 263, 3) := by decide +kernel
theorem dX12_head_96 : decode cX12_head 96 = .ok (.ifCond .eq 18, 3) := by decide +kernel
theorem dX12_head_99 : decode cX12_head 99 = .ok (.aload_n 0, 1) := by decide +kernel
theorem dX12_head_100 : decode cX12_head 100 = .ok (.iload_n 1, 1) := by decide +kernel
theorem dX12_head_101 : decode cX12_head 101 = .ok (.bipush 52, 2) := by decide +kernel
theorem dX12_head_103 : decode cX12_head 103 = .ok (.iadd, 1) := by decide +kernel
theorem dX12_head_104 : decode cX12_head 104 = .ok (.invokevirtual 305, 3) := by decide +kernel
theorem dX12_head_107 : decode cX12_head 107 = .ok (.ifCond .ne 7, 3) := by decide +kernel
theorem dX12_head_110 : decode cX12_head 110 = .ok (.iconst 1, 1) := by decide +kernel
theorem dX12_head_111 : decode cX12_head 111 = .ok (.goto 4, 3) := by decide +kernel
theorem dX12_head_114 : decode cX12_head 114 = .ok (.iconst 0, 1) := by decide +kernel
theorem dX12_head_115 : decode cX12_head 115 = .ok (.istore_n 2, 1) := by decide +kernel
theorem dX12_head_116 : decode cX12_head 116 = .ok (.iload_n 2, 1) := by decide +kernel
theorem dX12_head_117 : decode cX12_head 117 = .ok (.ifCond .eq 36, 3) := by decide +kernel
theorem dX12_head_120 : decode cX12_head 120 = .ok (.aload_n 0, 1) := by decide +kernel
theorem dX12_head_121 : decode cX12_head 121 = .ok (.iconst 0, 1) := by decide +kernel
theorem dX12_head_122 : decode cX12_head 122 = .ok (.aload_n 0, 1) := by decide +kernel
theorem dX12_head_123 : decode cX12_head 123 = .ok (.getfield 206, 3) := by decide +kernel
theorem dX12_head_126 : decode cX12_head 126 = .ok (.iload_n 1, 1) := by decide +kernel
theorem dX12_head_127 : decode cX12_head 127 = .ok (.bipush 8, 2) := by decide +kernel
theorem dX12_head_129 : decode cX12_head 129 = .ok (.iadd, 1) := by decide +kernel
theorem dX12_head_130 : decode cX12_head 130 = .ok (.invokevirtual 235, 3) := by decide +kernel
theorem dX12_head_133 : decode cX12_head 133 = .ok (.aload_n 0, 1) := by decide +kernel
theorem dX12_head_134 : decode cX12_head 134 = .ok (.iload_n 1, 1) := by decide +kernel
theorem dX12_head_135 : decode cX12_head 135 = .ok (.bipush 8, 2) := by decide +kernel
theorem dX12_head_137 : decode cX12_head 137 = .ok (.iadd, 1) := by decide +kernel
theorem dX12_head_138 : decode cX12_head 138 = .ok (.invokevirtual 297, 3) := by decide +kernel
theorem dX12_head_141 : decode cX12_head 141 = .ok (.l2i, 1) := by decide +kernel
theorem dX12_head_142 : decode cX12_head 142 = .ok (.iadd, 1) := by decide +kernel
theorem dX12_head_143 : decode cX12_head 143 = .ok (.ldc_w 312, 3) := by decide +kernel
theorem dX12_head_146 : decode cX12_head 146 = .ok (.if_icmp .ne 7, 3) := by decide +kernel
theorem dX12_head_149 : decode cX12_head 149 = .ok (.iconst 1, 1) := by decide +kernel
theorem dX12_head_150 : decode cX12_head 150 = .ok (.goto 4, 3) := by decide +kernel
theorem dX12_head_153 : decode cX12_head 153 = .ok (.iconst 0, 1) := by decide +kernel
theorem dX12_head_154 : decode cX12_head 154 = .ok (.ireturn, 1) := by decide +kernel
def B_X12_head_115 (N : Nat)  (l1 : Int32) (s0 : Int32) (V : sv_V) : Option (Int32 × sv_V) := if s0 = 0 then (some ((0 : Int32), V)) else ((F_X12_sumOf N (0 : Int32) (V.1 146 3) (l1 + (8 : Int32)) V).bind (fun (x4, V2) => (F_X12_u4 (l1 + (8 : Int32)) V2).bind (fun (x7, V5) => if (x4 + x7.toInt32) = (-1313820742 : Int32) then (some ((1 : Int32), V5)) else (some ((0 : Int32), V5)))))
set_option maxRecDepth 20000 in
theorem tB_X12_head_115 {g : sx_G} (hG : sx_Go g) {P : Option Value → sv_V → Prop} {r : Int32} {Vr : sv_V} (hP : P (some (.int r)) Vr) {N : Nat}   {l1 : Int32} {s0 : Int32} {V : sv_V} (h : B_X12_head_115 N  l1 s0 V = some (r, Vr)) : sv_N g qX12_head 3 115 [(0, .ref 146), (1, .int l1)] [.int s0] V P := by
  unfold B_X12_head_115 at h
  refine sx_istore_n (pc := 115) (lo' := [(2, .int s0), (0, .ref 146), (1, .int l1)]) dX12_head_115 (by decide) rfl ?_
  refine sx_iload_n (pc := 116) dX12_head_116 sx_m0 ?_
  refine sx_if_eq (pc := 117) (tgt := 153) dX12_head_117 (by decide) (fun c1 => ?_) (fun c1 => ?_)
  · have h := sx_pos c1 h
    refine sx_iconst (pc := 153) (v := 0) dX12_head_153 (by decide) ?_
    exact sv_zret (pc := 154) dX12_head_154 rfl rfl h hP
  · have h := sx_neg c1 h
    refine sx_aload_n (pc := 120) dX12_head_120 sx_m1 ?_
    refine sx_iconst (pc := 121) (v := 0) dX12_head_121 (by decide) ?_
    refine sx_aload_n (pc := 122) dX12_head_122 sx_m1 ?_
    refine sv_getI (pc := 123) hG dX12_head_123 f_12_206 lay_146 rfl ?_
    refine sx_iload_n (pc := 126) dX12_head_126 sx_m2 ?_
    refine sx_bipush (pc := 127) (v := 8) dX12_head_127 (by decide) ?_
    refine sx_iadd (pc := 129) dX12_head_129 ?_
    obtain ⟨⟨x4, V2⟩, g3, h⟩ := sx_bnd h
    refine sv_cV (pc := 130) (y := qX12_sumOf) (o := (some (.int x4))) (as := [.int (0 : Int32), .int (V.1 146 3), .int (l1 + (8 : Int32))]) (V1 := V2) hG dX12_head_130 l_X12_235 y0X12_sumOf yvX12_sumOf rfl (Nat.le_of_ble_eq_true rfl) lay_146 kr_12 (by decide) (Nat.le_of_ble_eq_true rfl) rfl rfl rfl (t_X12_sumOf hG ⟨rfl, rfl⟩ g3) ?_
    refine sx_aload_n (pc := 133) dX12_head_133 sx_m1 ?_
    refine sx_iload_n (pc := 134) dX12_head_134 sx_m2 ?_
    refine sx_bipush (pc := 135) (v := 8) dX12_head_135 (by decide) ?_
    refine sx_iadd (pc := 137) dX12_head_137 ?_
    obtain ⟨⟨x7, V5⟩, g6, h⟩ := sx_bnd h
    refine sv_cV (pc := 138) (y := qX12_u4) (o := (some (.long x7))) (as := [.int (l1 + (8 : Int32))]) (V1 := V5) hG dX12_head_138 l_X12_297 y0X12_u4 yvX12_u4 rfl (Nat.le_of_ble_eq_true rfl) lay_146 kr_12 (by decide) (Nat.le_of_ble_eq_true rfl) rfl rfl rfl (t_X12_u4 hG ⟨rfl, rfl⟩ g6) ?_
    refine sx_l2i (pc := 141) dX12_head_141 ?_
    refine sx_iadd (pc := 142) dX12_head_142 ?_
    refine sx_ldcw (pc := 143) dX12_head_143 k_X12_312 ?_
    refine sx_icmp_ne (pc := 146) (tgt := 153) dX12_head_146 (by decide) (fun c8 => ?_) (fun c8 => ?_)
    · have h := sx_neg c8 h
      refine sx_iconst (pc := 153) (v := 0) dX12_head_153 (by decide) ?_
      exact sv_zret (pc := 154) dX12_head_154 rfl rfl h hP
    · have h := sx_pos c8 h
      refine sx_iconst (pc := 149) (v := 1) dX12_head_149 (by decide) ?_
      refine sx_goto (pc := 150) (tgt := 154) dX12_head_150 (by decide) ?_
      exact sv_zret (pc := 154) dX12_head_154 rfl rfl h hP
def B_X12_head_114 (N : Nat)  (l1 : Int32) (V : sv_V) : Option (Int32 × sv_V) := B_X12_head_115 N  l1 (0 : Int32) V
set_option maxRecDepth 20000 in
theorem tB_X12_head_114 {g : sx_G} (hG : sx_Go g) {P : Option Value → sv_V → Prop} {r : Int32} {Vr : sv_V} (hP : P (some (.int r)) Vr) {N : Nat}   {l1 : Int32} {V : sv_V} (h : B_X12_head_114 N  l1 V = some (r, Vr)) : sv_N g qX12_head 3 114 [(0, .ref 146), (1, .int l1)] [] V P := by
  unfold B_X12_head_114 at h
  refine sx_iconst (pc := 114) (v := 0) dX12_head_114 (by decide) ?_
  refine sx_wk (sx_s1 sx_m0 (sx_s1 sx_m1 sx_s0)) ?_
  exact tB_X12_head_115 hG hP  h
def F_X12_head (N : Nat)  (V : sv_V) : Option (Int32 × sv_V) := (F_X12_beginOf N (1751474532 : Int32) V).bind (fun (x11, V9) => (F_X12_u2 (x11 + (18 : Int32)) V9).bind (fun (x14, V12) => sx_let (sv_I V12 146 10 x14) (fun V15 => (F_X12_s2 (x11 + (50 : Int32)) V15).bind (fun (x18, V16) => sx_let (sv_I V16 146 11 x18) (fun V19 => (F_X12_lengthOf N (1751474532 : Int32) V19).bind (fun (x22, V20) => if x22 = (54 : Int32) then ((F_X12_u4 x11 V20).bind (fun (x26, V24) => if (lg_cmp x26 (65536 : Int64)) = 0 then ((F_X12_u4 (x11 + (12 : Int32)) V24).bind (fun (x30, V28) => if (lg_cmp x30 (1594834165 : Int64)) = 0 then ((F_X12_in ((V28.1 146 10).toInt64) (16 : Int64) (16384 : Int64) V28).bind (fun (x34, V32) => if x34 = 0 then (B_X12_head_114 N  x11 V32) else ((F_X12_in ((V32.1 146 11).toInt64) (0 : Int64) (1 : Int64) V32).bind (fun (x38, V36) => if x38 = 0 then (B_X12_head_114 N  x11 V36) else ((F_X12_s2 (x11 + (52 : Int32)) V36).bind (fun (x42, V40) => if x42 = 0 then (B_X12_head_115 N  x11 (1 : Int32) V40) else (B_X12_head_114 N  x11 V40))))))) else (B_X12_head_114 N  x11 V28))) else (B_X12_head_114 N  x11 V24))) else (B_X12_head_114 N  x11 V20)))))))
set_option maxRecDepth 20000 in
theorem t_X12_head {g : sx_G} (hG : sx_Go g) {P : Option Value → sv_V → Prop} {r : Int32} {Vr : sv_V} (hP : P (some (.int r)) Vr) {N : Nat}  {V : sv_V} (h : F_X12_head N  V = some (r, Vr)) : sv_N g qX12_head 3 0 [(0, .ref 146)] [] V P := by
  unfold F_X12_head at h
  refine sx_aload_n (pc := 0) dX12_head_0 sx_m0 ?_
  refine sx_ldc (pc := 1) dX12_head_1 k_X12_234 ?_
  obtain ⟨⟨x11, V9⟩, g10, h⟩ := sx_bnd h
  refine sv_cV (pc := 3) (y := qX12_beginOf) (o := (some (.int x11))) (as := [.int (1751474532 : Int32)]) (V1 := V9) hG dX12_head_3 l_X12_251 y0X12_beginOf yvX12_beginOf rfl (Nat.le_of_ble_eq_true rfl) lay_146 kr_12 (by decide) (Nat.le_of_ble_eq_true rfl) rfl rfl rfl (t_X12_beginOf hG ⟨rfl, rfl⟩ g10) ?_
  refine sx_istore_n (pc := 6) (lo' := [(1, .int x11), (0, .ref 146)]) dX12_head_6 (by decide) rfl ?_
  refine sx_aload_n (pc := 7) dX12_head_7 sx_m1 ?_
  refine sx_aload_n (pc := 8) dX12_head_8 sx_m1 ?_
  refine sx_iload_n (pc := 9) dX12_head_9 sx_m0 ?_
  refine sx_bipush (pc := 10) (v := 18) dX12_head_10 (by decide) ?_
  refine sx_iadd (pc := 12) dX12_head_12 ?_
  obtain ⟨⟨x14, V12⟩, g13, h⟩ := sx_bnd h
  refine sv_cV (pc := 13) (y := qX12_u2) (o := (some (.int x14))) (as := [.int (x11 + (18 : Int32))]) (V1 := V12) hG dX12_head_13 l_X12_213 y0X12_u2 yvX12_u2 rfl (Nat.le_of_ble_eq_true rfl) lay_146 kr_12 (by decide) (Nat.le_of_ble_eq_true rfl) rfl rfl rfl (t_X12_u2 hG ⟨rfl, rfl⟩ g13) ?_
  obtain ⟨V15, hV15⟩ : ∃ z : sv_V, z = sv_I V12 146 10 x14 := ⟨_, rfl⟩
  have h := sx_letE hV15 h
  refine sv_putI (pc := 16) hG dX12_head_16 f_12_302 lay_146 rfl hV15 ?_
  refine sx_aload_n (pc := 19) dX12_head_19 sx_m1 ?_
  refine sx_aload_n (pc := 20) dX12_head_20 sx_m1 ?_
  refine sx_iload_n (pc := 21) dX12_head_21 sx_m0 ?_
  refine sx_bipush (pc := 22) (v := 50) dX12_head_22 (by decide) ?_
  refine sx_iadd (pc := 24) dX12_head_24 ?_
  obtain ⟨⟨x18, V16⟩, g17, h⟩ := sx_bnd h
  refine sv_cV (pc := 25) (y := qX12_s2) (o := (some (.int x18))) (as := [.int (x11 + (50 : Int32))]) (V1 := V16) hG dX12_head_25 l_X12_305 y0X12_s2 yvX12_s2 rfl (Nat.le_of_ble_eq_true rfl) lay_146 kr_12 (by decide) (Nat.le_of_ble_eq_true rfl) rfl rfl rfl (t_X12_s2 hG ⟨rfl, rfl⟩ g17) ?_
  obtain ⟨V19, hV19⟩ : ∃ z : sv_V, z = sv_I V16 146 11 x18 := ⟨_, rfl⟩
  have h := sx_letE hV19 h
  refine sv_putI (pc := 28) hG dX12_head_28 f_12_271 lay_146 rfl hV19 ?_
  refine sx_aload_n (pc := 31) dX12_head_31 sx_m1 ?_
  refine sx_ldc (pc := 32) dX12_head_32 k_X12_234 ?_
  obtain ⟨⟨x22, V20⟩, g21, h⟩ := sx_bnd h
  refine sv_cV (pc := 34) (y := qX12_lengthOf) (o := (some (.int x22))) (as := [.int (1751474532 : Int32)]) (V1 := V20) hG dX12_head_34 l_X12_257 y0X12_lengthOf yvX12_lengthOf rfl (Nat.le_of_ble_eq_true rfl) lay_146 kr_12 (by decide) (Nat.le_of_ble_eq_true rfl) rfl rfl rfl (t_X12_lengthOf hG ⟨rfl, rfl⟩ g21) ?_
  refine sx_bipush (pc := 37) (v := 54) dX12_head_37 (by decide) ?_
  refine sx_icmp_ne (pc := 39) (tgt := 114) dX12_head_39 (by decide) (fun c23 => ?_) (fun c23 => ?_)
  · have h := sx_neg c23 h
    refine sx_wk (sx_s1 sx_m1 (sx_s1 sx_m0 sx_s0)) ?_
    exact tB_X12_head_114 hG hP  h
  · have h := sx_pos c23 h
    refine sx_aload_n (pc := 42) dX12_head_42 sx_m1 ?_
    refine sx_iload_n (pc := 43) dX12_head_43 sx_m0 ?_
    obtain ⟨⟨x26, V24⟩, g25, h⟩ := sx_bnd h
    refine sv_cV (pc := 44) (y := qX12_u4) (o := (some (.long x26))) (as := [.int x11]) (V1 := V24) hG dX12_head_44 l_X12_297 y0X12_u4 yvX12_u4 rfl (Nat.le_of_ble_eq_true rfl) lay_146 kr_12 (by decide) (Nat.le_of_ble_eq_true rfl) rfl rfl rfl (t_X12_u4 hG ⟨rfl, rfl⟩ g25) ?_
    refine sx_ldc2 (pc := 47) dX12_head_47 k_X12_300 ?_
    refine sx_lcmp (pc := 50) dX12_head_50 ?_
    refine sx_if_ne (pc := 51) (tgt := 114) dX12_head_51 (by decide) (fun c27 => ?_) (fun c27 => ?_)
    · have h := sx_neg c27 h
      refine sx_wk (sx_s1 sx_m1 (sx_s1 sx_m0 sx_s0)) ?_
      exact tB_X12_head_114 hG hP  h
    · have h := sx_pos c27 h
      refine sx_aload_n (pc := 54) dX12_head_54 sx_m1 ?_
      refine sx_iload_n (pc := 55) dX12_head_55 sx_m0 ?_
      refine sx_bipush (pc := 56) (v := 12) dX12_head_56 (by decide) ?_
      refine sx_iadd (pc := 58) dX12_head_58 ?_
      obtain ⟨⟨x30, V28⟩, g29, h⟩ := sx_bnd h
      refine sv_cV (pc := 59) (y := qX12_u4) (o := (some (.long x30))) (as := [.int (x11 + (12 : Int32))]) (V1 := V28) hG dX12_head_59 l_X12_297 y0X12_u4 yvX12_u4 rfl (Nat.le_of_ble_eq_true rfl) lay_146 kr_12 (by decide) (Nat.le_of_ble_eq_true rfl) rfl rfl rfl (t_X12_u4 hG ⟨rfl, rfl⟩ g29) ?_
      refine sx_ldc2 (pc := 62) dX12_head_62 k_X12_308 ?_
      refine sx_lcmp (pc := 65) dX12_head_65 ?_
      refine sx_if_ne (pc := 66) (tgt := 114) dX12_head_66 (by decide) (fun c31 => ?_) (fun c31 => ?_)
      · have h := sx_neg c31 h
        refine sx_wk (sx_s1 sx_m1 (sx_s1 sx_m0 sx_s0)) ?_
        exact tB_X12_head_114 hG hP  h
      · have h := sx_pos c31 h
        refine sx_aload_n (pc := 69) dX12_head_69 sx_m1 ?_
        refine sv_getI (pc := 70) hG dX12_head_70 f_12_302 lay_146 rfl ?_
        refine sx_i2l (pc := 73) dX12_head_73 ?_
        refine sx_ldc2 (pc := 74) dX12_head_74 k_X12_232 ?_
        refine sx_ldc2 (pc := 77) dX12_head_77 k_X12_310 ?_
        obtain ⟨⟨x34, V32⟩, g33, h⟩ := sx_bnd h
        refine sv_cS (pc := 80) (y := qX12_in) (o := (some (.int x34))) (as := [.long ((V28.1 146 10).toInt64), .long (16 : Int64), .long (16384 : Int64)]) (V1 := V32) dX12_head_80 l_X12_263 y0X12_in ysX12_in rfl (Nat.le_of_ble_eq_true rfl) (by decide) (Nat.le_of_ble_eq_true rfl) rfl rfl rfl (t_X12_in hG ⟨rfl, rfl⟩ g33) ?_
        refine sx_if_eq (pc := 83) (tgt := 114) dX12_head_83 (by decide) (fun c35 => ?_) (fun c35 => ?_)
        · have h := sx_pos c35 h
          refine sx_wk (sx_s1 sx_m1 (sx_s1 sx_m0 sx_s0)) ?_
          exact tB_X12_head_114 hG hP  h
        · have h := sx_neg c35 h
          refine sx_aload_n (pc := 86) dX12_head_86 sx_m1 ?_
          refine sv_getI (pc := 87) hG dX12_head_87 f_12_271 lay_146 rfl ?_
          refine sx_i2l (pc := 90) dX12_head_90 ?_
          refine sx_lconst (pc := 91) (v := 0) dX12_head_91 rfl ?_
          refine sx_lconst (pc := 92) (v := 1) dX12_head_92 rfl ?_
          obtain ⟨⟨x38, V36⟩, g37, h⟩ := sx_bnd h
          refine sv_cS (pc := 93) (y := qX12_in) (o := (some (.int x38))) (as := [.long ((V32.1 146 11).toInt64), .long (0 : Int64), .long (1 : Int64)]) (V1 := V36) dX12_head_93 l_X12_263 y0X12_in ysX12_in rfl (Nat.le_of_ble_eq_true rfl) (by decide) (Nat.le_of_ble_eq_true rfl) rfl rfl rfl (t_X12_in hG ⟨rfl, rfl⟩ g37) ?_
          refine sx_if_eq (pc := 96) (tgt := 114) dX12_head_96 (by decide) (fun c39 => ?_) (fun c39 => ?_)
          · have h := sx_pos c39 h
            refine sx_wk (sx_s1 sx_m1 (sx_s1 sx_m0 sx_s0)) ?_
            exact tB_X12_head_114 hG hP  h
          · have h := sx_neg c39 h
            refine sx_aload_n (pc := 99) dX12_head_99 sx_m1 ?_
            refine sx_iload_n (pc := 100) dX12_head_100 sx_m0 ?_
            refine sx_bipush (pc := 101) (v := 52) dX12_head_101 (by decide) ?_
            refine sx_iadd (pc := 103) dX12_head_103 ?_
            obtain ⟨⟨x42, V40⟩, g41, h⟩ := sx_bnd h
            refine sv_cV (pc := 104) (y := qX12_s2) (o := (some (.int x42))) (as := [.int (x11 + (52 : Int32))]) (V1 := V40) hG dX12_head_104 l_X12_305 y0X12_s2 yvX12_s2 rfl (Nat.le_of_ble_eq_true rfl) lay_146 kr_12 (by decide) (Nat.le_of_ble_eq_true rfl) rfl rfl rfl (t_X12_s2 hG ⟨rfl, rfl⟩ g41) ?_
            refine sx_if_ne (pc := 107) (tgt := 114) dX12_head_107 (by decide) (fun c43 => ?_) (fun c43 => ?_)
            · have h := sx_neg c43 h
              refine sx_wk (sx_s1 sx_m1 (sx_s1 sx_m0 sx_s0)) ?_
              exact tB_X12_head_114 hG hP  h
            · have h := sx_pos c43 h
              refine sx_iconst (pc := 110) (v := 1) dX12_head_110 (by decide) ?_
              refine sx_goto (pc := 111) (tgt := 115) dX12_head_111 (by decide) ?_
              refine sx_wk (sx_s1 sx_m1 (sx_s1 sx_m0 sx_s0)) ?_
              exact tB_X12_head_115 hG hP  h
theorem dX12_maxp_0 : decode cX12_maxp 0 = .ok (.aload_n 0, 1) := by decide +kernel
theorem dX12_maxp_1 : decode cX12_maxp 1 = .ok (.ldc 244, 2) := by decide +kernel
theorem dX12_maxp_3 : decode cX12_maxp 3 = .ok (.invokevirtual 251, 3) := by decide +kernel
theorem dX12_maxp_6 : decode cX12_maxp 6 = .ok (.istore_n 1, 1) := by decide +kernel
theorem dX12_maxp_7 : decode cX12_maxp 7 = .ok (.aload_n 0, 1) := by decide +kernel
theorem dX12_maxp_8 : decode cX12_maxp 8 = .ok (.aload_n 0, 1) := by decide +kernel
theorem dX12_maxp_9 : decode cX12_maxp 9 = .ok (.iload_n 1, 1) := by decide +kernel
theorem dX12_maxp_10 : decode cX12_maxp 10 = .ok (.iconst 4, 1) := by decide +kernel
theorem dX12_maxp_11 : decode cX12_maxp 11 = .ok (.iadd, 1) := by decide +kernel
theorem dX12_maxp_12 : decode cX12_maxp 12 = .ok (.invokevirtual 213, 3) := by decide +kernel
theorem dX12_maxp_15 : decode cX12_maxp 15 = .ok (.putfield 260, 3) := by decide +kernel
theorem dX12_maxp_18 : decode cX12_maxp 18 = .ok (.aload_n 0, 1) := by decide +kernel
theorem dX12_maxp_19 : decode cX12_maxp 19 = .ok (.aload_n 0, 1) := by decide +kernel
theorem dX12_maxp_20 : decode cX12_maxp 20 = .ok (.iload_n 1, 1) := by decide +kernel
theorem dX12_maxp_21 : decode cX12_maxp 21 = .ok (.bipush 14, 2) := by decide +kernel
theorem dX12_maxp_23 : decode cX12_maxp 23 = .ok (.iadd, 1) := by decide +kernel
theorem dX12_maxp_24 : decode cX12_maxp 24 = .ok (.invokevirtual 213, 3) := by decide +kernel
theorem dX12_maxp_27 : decode cX12_maxp 27 = .ok (.putfield 313, 3) := by decide +kernel
theorem dX12_maxp_30 : decode cX12_maxp 30 = .ok (.aload_n 0, 1) := by decide +kernel
theorem dX12_maxp_31 : decode cX12_maxp 31 = .ok (.aload_n 0, 1) := by decide +kernel
theorem dX12_maxp_32 : decode cX12_maxp 32 = .ok (.iload_n 1, 1) := by decide +kernel
theorem dX12_maxp_33 : decode cX12_maxp 33 = .ok (.bipush 16, 2) := by decide +kernel
theorem dX12_maxp_35 : decode cX12_maxp 35 = .ok (.iadd, 1) := by decide +kernel
theorem dX12_maxp_36 : decode cX12_maxp 36 = .ok (.invokevirtual 213, 3) := by decide +kernel
theorem dX12_maxp_39 : decode cX12_maxp 39 = .ok (.putfield 316, 3) := by decide +kernel
theorem dX12_maxp_42 : decode cX12_maxp 42 = .ok (.aload_n 0, 1) := by decide +kernel
theorem dX12_maxp_43 : decode cX12_maxp 43 = .ok (.aload_n 0, 1) := by decide +kernel
theorem dX12_maxp_44 : decode cX12_maxp 44 = .ok (.iload_n 1, 1) := by decide +kernel
theorem dX12_maxp_45 : decode cX12_maxp 45 = .ok (.bipush 18, 2) := by decide +kernel
theorem dX12_maxp_47 : decode cX12_maxp 47 = .ok (.iadd, 1) := by decide +kernel
theorem dX12_maxp_48 : decode cX12_maxp 48 = .ok (.invokevirtual 213, 3) := by decide +kernel
theorem dX12_maxp_51 : decode cX12_maxp 51 = .ok (.putfield 319, 3) := by decide +kernel
theorem dX12_maxp_54 : decode cX12_maxp 54 = .ok (.aload_n 0, 1) := by decide +kernel
theorem dX12_maxp_55 : decode cX12_maxp 55 = .ok (.aload_n 0, 1) := by decide +kernel
theorem dX12_maxp_56 : decode cX12_maxp 56 = .ok (.iload_n 1, 1) := by decide +kernel
theorem dX12_maxp_57 : decode cX12_maxp 57 = .ok (.bipush 20, 2) := by decide +kernel
theorem dX12_maxp_59 : decode cX12_maxp 59 = .ok (.iadd, 1) := by decide +kernel
theorem dX12_maxp_60 : decode cX12_maxp 60 = .ok (.invokevirtual 213, 3) := by decide +kernel
theorem dX12_maxp_63 : decode cX12_maxp 63 = .ok (.putfield 322, 3) := by decide +kernel
theorem dX12_maxp_66 : decode cX12_maxp 66 = .ok (.aload_n 0, 1) := by decide +kernel
theorem dX12_maxp_67 : decode cX12_maxp 67 = .ok (.aload_n 0, 1) := by decide +kernel
theorem dX12_maxp_68 : decode cX12_maxp 68 = .ok (.iload_n 1, 1) := by decide +kernel
theorem dX12_maxp_69 : decode cX12_maxp 69 = .ok (.bipush 22, 2) := by decide +kernel
theorem dX12_maxp_71 : decode cX12_maxp 71 = .ok (.iadd, 1) := by decide +kernel
theorem dX12_maxp_72 : decode cX12_maxp 72 = .ok (.invokevirtual 213, 3) := by decide +kernel
theorem dX12_maxp_75 : decode cX12_maxp 75 = .ok (.putfield 325, 3) := by decide +kernel
theorem dX12_maxp_78 : decode cX12_maxp 78 = .ok (.aload_n 0, 1) := by decide +kernel
theorem dX12_maxp_79 : decode cX12_maxp 79 = .ok (.aload_n 0, 1) := by decide +kernel
theorem dX12_maxp_80 : decode cX12_maxp 80 = .ok (.iload_n 1, 1) := by decide +kernel
theorem dX12_maxp_81 : decode cX12_maxp 81 = .ok (.bipush 24, 2) := by decide +kernel
theorem dX12_maxp_83 : decode cX12_maxp 83 = .ok (.iadd, 1) := by decide +kernel
theorem dX12_maxp_84 : decode cX12_maxp 84 = .ok (.invokevirtual 213, 3) := by decide +kernel
theorem dX12_maxp_87 : decode cX12_maxp 87 = .ok (.putfield 328, 3) := by decide +kernel
theorem dX12_maxp_90 : decode cX12_maxp 90 = .ok (.aload_n 0, 1) := by decide +kernel
theorem dX12_maxp_91 : decode cX12_maxp 91 = .ok (.aload_n 0, 1) := by decide +kernel
theorem dX12_maxp_92 : decode cX12_maxp 92 = .ok (.iload_n 1, 1) := by decide +kernel
theorem dX12_maxp_93 : decode cX12_maxp 93 = .ok (.bipush 30, 2) := by decide +kernel
theorem dX12_maxp_95 : decode cX12_maxp 95 = .ok (.iadd, 1) := by decide +kernel
theorem dX12_maxp_96 : decode cX12_maxp 96 = .ok (.invokevirtual 213, 3) := by decide +kernel
theorem dX12_maxp_99 : decode cX12_maxp 99 = .ok (.putfield 331, 3) := by decide +kernel
theorem dX12_maxp_102 : decode cX12_maxp 102 = .ok (.aload_n 0, 1) := by decide +kernel
theorem dX12_maxp_103 : decode cX12_maxp 103 = .ok (.ldc 244, 2) := by decide +kernel
theorem dX12_maxp_105 : decode cX12_maxp 105 = .ok (.invokevirtual 257, 3) := by decide +kernel
theorem dX12_maxp_108 : decode cX12_maxp 108 = .ok (.bipush 32, 2) := by decide +kernel
theorem dX12_maxp_110 : decode cX12_maxp 110 = .ok (.if_icmp .ne 139, 3) := by decide +kernel
theorem dX12_maxp_113 : decode cX12_maxp 113 = .ok (.aload_n 0, 1) := by decide +kernel
theorem dX12_maxp_114 : decode cX12_maxp 114 = .ok (.iload_n 1, 1) := by decide +kernel
theorem dX12_maxp_115 : decode cX12_maxp 115 = .ok (.invokevirtual 297, 3) := by decide +kernel
theorem dX12_maxp_118 : decode cX12_maxp 118 = .ok (.ldc2_w 300, 3) := by decide +kernel
theorem dX12_maxp_121 : decode cX12_maxp 121 = .ok (.lcmp, 1) := by decide +kernel
theorem dX12_maxp_122 : decode cX12_maxp 122 = .ok (.ifCond .ne 127, 3) := by decide +kernel
theorem dX12_maxp_125 : decode cX12_maxp 125 = .ok (.aload_n 0, 1) := by decide +kernel
theorem dX12_maxp_126 : decode cX12_maxp 126 = .ok (.getfield 260, 3) := by decide +kernel
theorem dX12_maxp_129 : decode cX12_maxp 129 = .ok (.i2l, 1) := by decide +kernel
theorem dX12_maxp_130 : decode cX12_maxp 130 = .ok (.lconst 1, 1) := by decide +kernel
theorem dX12_maxp_131 : decode cX12_maxp 131 = .ok (.ldc2_w 334, 3) := by decide +kernel
theorem dX12_maxp_134 : decode cX12_maxp 134 = .ok (.invokestatic 263, 3) := by decide +kernel
theorem dX12_maxp_137 : decode cX12_maxp 137 = .ok (.ifCond .eq 112, 3) := by decide +kernel
theorem dX12_maxp_140 : decode cX12_maxp 140 = .ok (.aload_n 0, 1) := by decide +kernel
theorem dX12_maxp_141 : decode cX12_maxp 141 = .ok (.getfield 313, 3) := by decide +kernel
theorem dX12_maxp_144 : decode cX12_maxp 144 = .ok (.i2l, 1) := by decide +kernel
theorem dX12_maxp_145 : decode cX12_maxp 145 = .ok (.lconst 1, 1) := by decide +kernel
theorem dX12_maxp_146 : decode cX12_maxp 146 = .ok (.ldc2_w 336, 3) := by decide +kernel
theorem dX12_maxp_149 : decode cX12_maxp 149 = .ok (.invokestatic 263, 3) := by decide +kernel
theorem dX12_maxp_152 : decode cX12_maxp 152 = .ok (.ifCond .eq 97, 3) := by decide +kernel
theorem dX12_maxp_155 : decode cX12_maxp 155 = .ok (.aload_n 0, 1) := by decide +kernel
theorem dX12_maxp_156 : decode cX12_maxp 156 = .ok (.getfield 316, 3) := by decide +kernel
theorem dX12_maxp_159 : decode cX12_maxp 159 = .ok (.i2l, 1) := by decide +kernel
theorem dX12_maxp_160 : decode cX12_maxp 160 = .ok (.lconst 0, 1) := by decide +kernel
theorem dX12_maxp_161 : decode cX12_maxp 161 = .ok (.ldc2_w 338, 3) := by decide +kernel
theorem dX12_maxp_164 : decode cX12_maxp 164 = .ok (.invokestatic 263, 3) := by decide +kernel
theorem dX12_maxp_167 : decode cX12_maxp 167 = .ok (.ifCond .eq 82, 3) := by decide +kernel
theorem dX12_maxp_170 : decode cX12_maxp 170 = .ok (.aload_n 0, 1) := by decide +kernel
theorem dX12_maxp_171 : decode cX12_maxp 171 = .ok (.getfield 319, 3) := by decide +kernel
theorem dX12_maxp_174 : decode cX12_maxp 174 = .ok (.i2l, 1) := by decide +kernel
theorem dX12_maxp_175 : decode cX12_maxp 175 = .ok (.lconst 0, 1) := by decide +kernel
theorem dX12_maxp_176 : decode cX12_maxp 176 = .ok (.ldc2_w 338, 3) := by decide +kernel
theorem dX12_maxp_179 : decode cX12_maxp 179 = .ok (.invokestatic 263, 3) := by decide +kernel
theorem dX12_maxp_182 : decode cX12_maxp 182 = .ok (.ifCond .eq 67, 3) := by decide +kernel
theorem dX12_maxp_185 : decode cX12_maxp 185 = .ok (.aload_n 0, 1) := by decide +kernel
theorem dX12_maxp_186 : decode cX12_maxp 186 = .ok (.getfield 322, 3) := by decide +kernel
theorem dX12_maxp_189 : decode cX12_maxp 189 = .ok (.i2l, 1) := by decide +kernel
theorem dX12_maxp_190 : decode cX12_maxp 190 = .ok (.lconst 0, 1) := by decide +kernel
theorem dX12_maxp_191 : decode cX12_maxp 191 = .ok (.ldc2_w 338, 3) := by decide +kernel
theorem dX12_maxp_194 : decode cX12_maxp 194 = .ok (.invokestatic 263, 3) := by decide +kernel
theorem dX12_maxp_197 : decode cX12_maxp 197 = .ok (.ifCond .eq 52, 3) := by decide +kernel
theorem dX12_maxp_200 : decode cX12_maxp 200 = .ok (.aload_n 0, 1) := by decide +kernel
theorem dX12_maxp_201 : decode cX12_maxp 201 = .ok (.getfield 325, 3) := by decide +kernel
theorem dX12_maxp_204 : decode cX12_maxp 204 = .ok (.i2l, 1) := by decide +kernel
theorem dX12_maxp_205 : decode cX12_maxp 205 = .ok (.lconst 0, 1) := by decide +kernel
theorem dX12_maxp_206 : decode cX12_maxp 206 = .ok (.ldc2_w 232, 3) := by decide +kernel
theorem dX12_maxp_209 : decode cX12_maxp 209 = .ok (.invokestatic 263, 3) := by decide +kernel
theorem dX12_maxp_212 : decode cX12_maxp 212 = .ok (.ifCond .eq 37, 3) := by decide +kernel
theorem dX12_maxp_215 : decode cX12_maxp 215 = .ok (.aload_n 0, 1) := by decide +kernel
theorem dX12_maxp_216 : decode cX12_maxp 216 = .ok (.getfield 328, 3) := by decide +kernel
theorem dX12_maxp_219 : decode cX12_maxp 219 = .ok (.i2l, 1) := by decide +kernel
theorem dX12_maxp_220 : decode cX12_maxp 220 = .ok (.lconst 0, 1) := by decide +kernel
theorem dX12_maxp_221 : decode cX12_maxp 221 = .ok (.ldc2_w 340, 3) := by decide +kernel
theorem dX12_maxp_224 : decode cX12_maxp 224 = .ok (.invokestatic 263, 3) := by decide +kernel
theorem dX12_maxp_227 : decode cX12_maxp 227 = .ok (.ifCond .eq 22, 3) := by decide +kernel
theorem dX12_maxp_230 : decode cX12_maxp 230 = .ok (.aload_n 0, 1) := by decide +kernel
theorem dX12_maxp_231 : decode cX12_maxp 231 = .ok (.getfield 331, 3) := by decide +kernel
theorem dX12_maxp_234 : decode cX12_maxp 234 = .ok (.i2l, 1) := by decide +kernel
theorem dX12_maxp_235 : decode cX12_maxp 235 = .ok (.lconst 0, 1) := by decide +kernel
theorem dX12_maxp_236 : decode cX12_maxp 236 = .ok (.ldc2_w 228, 3) := by decide +kernel
theorem dX12_maxp_239 : decode cX12_maxp 239 = .ok (.invokestatic 263, 3) := by decide +kernel
theorem dX12_maxp_242 : decode cX12_maxp 242 = .ok (.ifCond .eq 7, 3) := by decide +kernel
theorem dX12_maxp_245 : decode cX12_maxp 245 = .ok (.iconst 1, 1) := by decide +kernel
theorem dX12_maxp_246 : decode cX12_maxp 246 = .ok (.goto 4, 3) := by decide +kernel
theorem dX12_maxp_249 : decode cX12_maxp 249 = .ok (.iconst 0, 1) := by decide +kernel
theorem dX12_maxp_250 : decode cX12_maxp 250 = .ok (.istore_n 2, 1) := by decide +kernel
theorem dX12_maxp_251 : decode cX12_maxp 251 = .ok (.iload_n 2, 1) := by decide +kernel
theorem dX12_maxp_252 : decode cX12_maxp 252 = .ok (.ifCond .eq 22, 3) := by decide +kernel
theorem dX12_maxp_255 : decode cX12_maxp 255 = .ok (.aload_n 0, 1) := by decide +kernel
theorem dX12_maxp_256 : decode cX12_maxp 256 = .ok (.getfield 313, 3) := by decide +kernel
theorem dX12_maxp_259 : decode cX12_maxp 259 = .ok (.iconst 2, 1) := by decide +kernel
theorem dX12_maxp_260 : decode cX12_maxp 260 = .ok (.if_icmp .eq 10, 3) := by decide +kernel
theorem dX12_maxp_263 : decode cX12_maxp 263 = .ok (.aload_n 0, 1) := by decide +kernel
theorem dX12_maxp_264 : decode cX12_maxp 264 = .ok (.getfield 316, 3) := by decide +kernel
theorem dX12_maxp_267 : decode cX12_maxp 267 = .ok (.ifCond .ne 7, 3) := by decide +kernel
theorem dX12_maxp_270 : decode cX12_maxp 270 = .ok (.iconst 1, 1) := by decide +kernel
theorem dX12_maxp_271 : decode cX12_maxp 271 = .ok (.goto 4, 3) := by decide +kernel
theorem dX12_maxp_274 : decode cX12_maxp 274 = .ok (.iconst 0, 1) := by decide +kernel
theorem dX12_maxp_275 : decode cX12_maxp 275 = .ok (.ireturn, 1) := by decide +kernel
def B_X12_maxp_270 (N : Nat)   (V : sv_V) : Option (Int32 × sv_V) := some ((1 : Int32), V)
set_option maxRecDepth 20000 in
theorem tB_X12_maxp_270 {g : sx_G} (hG : sx_Go g) {P : Option Value → sv_V → Prop} {r : Int32} {Vr : sv_V} (hP : P (some (.int r)) Vr) {N : Nat}    {V : sv_V} (h : B_X12_maxp_270 N   V = some (r, Vr)) : sv_N g qX12_maxp 3 270 [] [] V P := by
  unfold B_X12_maxp_270 at h
  refine sx_iconst (pc := 270) (v := 1) dX12_maxp_270 (by decide) ?_
  refine sx_goto (pc := 271) (tgt := 275) dX12_maxp_271 (by decide) ?_
  exact sv_zret (pc := 275) dX12_maxp_275 rfl rfl h hP
def B_X12_maxp_250 (N : Nat)  (s0 : Int32) (V : sv_V) : Option (Int32 × sv_V) := if s0 = 0 then (some ((0 : Int32), V)) else (if (V.1 146 13) = (2 : Int32) then (B_X12_maxp_270 N   V) else (if (V.1 146 14) = 0 then (B_X12_maxp_270 N   V) else (some ((0 : Int32), V))))
set_option maxRecDepth 20000 in
theorem tB_X12_maxp_250 {g : sx_G} (hG : sx_Go g) {P : Option Value → sv_V → Prop} {r : Int32} {Vr : sv_V} (hP : P (some (.int r)) Vr) {N : Nat}   {s0 : Int32} {V : sv_V} (h : B_X12_maxp_250 N  s0 V = some (r, Vr)) : sv_N g qX12_maxp 3 250 [(0, .ref 146)] [.int s0] V P := by
  unfold B_X12_maxp_250 at h
  refine sx_istore_n (pc := 250) (lo' := [(2, .int s0), (0, .ref 146)]) dX12_maxp_250 (by decide) rfl ?_
  refine sx_iload_n (pc := 251) dX12_maxp_251 sx_m0 ?_
  refine sx_if_eq (pc := 252) (tgt := 274) dX12_maxp_252 (by decide) (fun c1 => ?_) (fun c1 => ?_)
  · have h := sx_pos c1 h
    refine sx_iconst (pc := 274) (v := 0) dX12_maxp_274 (by decide) ?_
    exact sv_zret (pc := 275) dX12_maxp_275 rfl rfl h hP
  · have h := sx_neg c1 h
    refine sx_aload_n (pc := 255) dX12_maxp_255 sx_m1 ?_
    refine sv_getI (pc := 256) hG dX12_maxp_256 f_12_313 lay_146 rfl ?_
    refine sx_iconst (pc := 259) (v := 2) dX12_maxp_259 (by decide) ?_
    refine sx_icmp_eq (pc := 260) (tgt := 270) dX12_maxp_260 (by decide) (fun c2 => ?_) (fun c2 => ?_)
    · have h := sx_pos c2 h
      refine sx_wk sx_s0 ?_
      exact tB_X12_maxp_270 hG hP  h
    · have h := sx_neg c2 h
      refine sx_aload_n (pc := 263) dX12_maxp_263 sx_m1 ?_
      refine sv_getI (pc := 264) hG dX12_maxp_264 f_12_316 lay_146 rfl ?_
      refine sx_if_ne (pc := 267) (tgt := 274) dX12_maxp_267 (by decide) (fun c3 => ?_) (fun c3 => ?_)
      · have h := sx_neg c3 h
        refine sx_iconst (pc := 274) (v := 0) dX12_maxp_274 (by decide) ?_
        exact sv_zret (pc := 275) dX12_maxp_275 rfl rfl h hP
      · have h := sx_pos c3 h
        refine sx_wk sx_s0 ?_
        exact tB_X12_maxp_270 hG hP  h
def B_X12_maxp_249 (N : Nat)   (V : sv_V) : Option (Int32 × sv_V) := B_X12_maxp_250 N  (0 : Int32) V
set_option maxRecDepth 20000 in
theorem tB_X12_maxp_249 {g : sx_G} (hG : sx_Go g) {P : Option Value → sv_V → Prop} {r : Int32} {Vr : sv_V} (hP : P (some (.int r)) Vr) {N : Nat}    {V : sv_V} (h : B_X12_maxp_249 N   V = some (r, Vr)) : sv_N g qX12_maxp 3 249 [(0, .ref 146)] [] V P := by
  unfold B_X12_maxp_249 at h
  refine sx_iconst (pc := 249) (v := 0) dX12_maxp_249 (by decide) ?_
  refine sx_wk (sx_s1 sx_m0 sx_s0) ?_
  exact tB_X12_maxp_250 hG hP  h
def F_X12_maxp (N : Nat)  (V : sv_V) : Option (Int32 × sv_V) := (F_X12_beginOf N (1835104368 : Int32) V).bind (fun (x6, V4) => (F_X12_u2 (x6 + (4 : Int32)) V4).bind (fun (x9, V7) => sx_let (sv_I V7 146 12 x9) (fun V10 => (F_X12_u2 (x6 + (14 : Int32)) V10).bind (fun (x13, V11) => sx_let (sv_I V11 146 13 x13) (fun V14 => (F_X12_u2 (x6 + (16 : Int32)) V14).bind (fun (x17, V15) => sx_let (sv_I V15 146 14 x17) (fun V18 => (F_X12_u2 (x6 + (18 : Int32)) V18).bind (fun (x21, V19) => sx_let (sv_I V19 146 15 x21) (fun V22 => (F_X12_u2 (x6 + (20 : Int32)) V22).bind (fun (x25, V23) => sx_let (sv_I V23 146 16 x25) (fun V26 => (F_X12_u2 (x6 + (22 : Int32)) V26).bind (fun (x29, V27) => sx_let (sv_I V27 146 17 x29) (fun V30 => (F_X12_u2 (x6 + (24 : Int32)) V30).bind (fun (x33, V31) => sx_let (sv_I V31 146 18 x33) (fun V34 => (F_X12_u2 (x6 + (30 : Int32)) V34).bind (fun (x37, V35) => sx_let (sv_I V35 146 19 x37) (fun V38 => (F_X12_lengthOf N (1835104368 : Int32) V38).bind (fun (x41, V39) => if x41 = (32 : Int32) then ((F_X12_u4 x6 V39).bind (fun (x45, V43) => if (lg_cmp x45 (65536 : Int64)) = 0 then ((F_X12_in ((V43.1 146 12).toInt64) (1 : Int64) (200 : Int64) V43).bind (fun (x49, V47) => if x49 = 0 then (B_X12_maxp_249 N   V47) else ((F_X12_in ((V47.1 146 13).toInt64) (1 : Int64) (2 : Int64) V47).bind (fun (x53, V51) => if x53 = 0 then (B_X12_maxp_249 N   V51) else ((F_X12_in ((V51.1 146 14).toInt64) (0 : Int64) (64 : Int64) V51).bind (fun (x57, V55) => if x57 = 0 then (B_X12_maxp_249 N   V55) else ((F_X12_in ((V55.1 146 15).toInt64) (0 : Int64) (64 : Int64) V55).bind (fun (x61, V59) => if x61 = 0 then (B_X12_maxp_249 N   V59) else ((F_X12_in ((V59.1 146 16).toInt64) (0 : Int64) (64 : Int64) V59).bind (fun (x65, V63) => if x65 = 0 then (B_X12_maxp_249 N   V63) else ((F_X12_in ((V63.1 146 17).toInt64) (0 : Int64) (16 : Int64) V63).bind (fun (x69, V67) => if x69 = 0 then (B_X12_maxp_249 N   V67) else ((F_X12_in ((V67.1 146 18).toInt64) (0 : Int64) (256 : Int64) V67).bind (fun (x73, V71) => if x73 = 0 then (B_X12_maxp_249 N   V71) else ((F_X12_in ((V71.1 146 19).toInt64) (0 : Int64) (4 : Int64) V71).bind (fun (x77, V75) => if x77 = 0 then (B_X12_maxp_249 N   V75) else (B_X12_maxp_250 N  (1 : Int32) V75))))))))))))))))) else (B_X12_maxp_249 N   V43))) else (B_X12_maxp_249 N   V39)))))))))))))))))))
set_option maxRecDepth 20000 in
theorem t_X12_maxp {g : sx_G} (hG : sx_Go g) {P : Option Value → sv_V → Prop} {r : Int32} {Vr : sv_V} (hP : P (some (.int r)) Vr) {N : Nat}  {V : sv_V} (h : F_X12_maxp N  V = some (r, Vr)) : sv_N g qX12_maxp 3 0 [(0, .ref 146)] [] V P := by
  unfold F_X12_maxp at h
  refine sx_aload_n (pc := 0) dX12_maxp_0 sx_m0 ?_
  refine sx_ldc (pc := 1) dX12_maxp_1 k_X12_244 ?_
  obtain ⟨⟨x6, V4⟩, g5, h⟩ := sx_bnd h
  refine sv_cV (pc := 3) (y := qX12_beginOf) (o := (some (.int x6))) (as := [.int (1835104368 : Int32)]) (V1 := V4) hG dX12_maxp_3 l_X12_251 y0X12_beginOf yvX12_beginOf rfl (Nat.le_of_ble_eq_true rfl) lay_146 kr_12 (by decide) (Nat.le_of_ble_eq_true rfl) rfl rfl rfl (t_X12_beginOf hG ⟨rfl, rfl⟩ g5) ?_
  refine sx_istore_n (pc := 6) (lo' := [(1, .int x6), (0, .ref 146)]) dX12_maxp_6 (by decide) rfl ?_
  refine sx_aload_n (pc := 7) dX12_maxp_7 sx_m1 ?_
  refine sx_aload_n (pc := 8) dX12_maxp_8 sx_m1 ?_
  refine sx_iload_n (pc := 9) dX12_maxp_9 sx_m0 ?_
  refine sx_iconst (pc := 10) (v := 4) dX12_maxp_10 (by decide) ?_
  refine sx_iadd (pc := 11) dX12_maxp_11 ?_
  obtain ⟨⟨x9, V7⟩, g8, h⟩ := sx_bnd h
  refine sv_cV (pc := 12) (y := qX12_u2) (o := (some (.int x9))) (as := [.int (x6 + (4 : Int32))]) (V1 := V7) hG dX12_maxp_12 l_X12_213 y0X12_u2 yvX12_u2 rfl (Nat.le_of_ble_eq_true rfl) lay_146 kr_12 (by decide) (Nat.le_of_ble_eq_true rfl) rfl rfl rfl (t_X12_u2 hG ⟨rfl, rfl⟩ g8) ?_
  obtain ⟨V10, hV10⟩ : ∃ z : sv_V, z = sv_I V7 146 12 x9 := ⟨_, rfl⟩
  have h := sx_letE hV10 h
  refine sv_putI (pc := 15) hG dX12_maxp_15 f_12_260 lay_146 rfl hV10 ?_
  refine sx_aload_n (pc := 18) dX12_maxp_18 sx_m1 ?_
  refine sx_aload_n (pc := 19) dX12_maxp_19 sx_m1 ?_
  refine sx_iload_n (pc := 20) dX12_maxp_20 sx_m0 ?_
  refine sx_bipush (pc := 21) (v := 14) dX12_maxp_21 (by decide) ?_
  refine sx_iadd (pc := 23) dX12_maxp_23 ?_
  obtain ⟨⟨x13, V11⟩, g12, h⟩ := sx_bnd h
  refine sv_cV (pc := 24) (y := qX12_u2) (o := (some (.int x13))) (as := [.int (x6 + (14 : Int32))]) (V1 := V11) hG dX12_maxp_24 l_X12_213 y0X12_u2 yvX12_u2 rfl (Nat.le_of_ble_eq_true rfl) lay_146 kr_12 (by decide) (Nat.le_of_ble_eq_true rfl) rfl rfl rfl (t_X12_u2 hG ⟨rfl, rfl⟩ g12) ?_
  obtain ⟨V14, hV14⟩ : ∃ z : sv_V, z = sv_I V11 146 13 x13 := ⟨_, rfl⟩
  have h := sx_letE hV14 h
  refine sv_putI (pc := 27) hG dX12_maxp_27 f_12_313 lay_146 rfl hV14 ?_
  refine sx_aload_n (pc := 30) dX12_maxp_30 sx_m1 ?_
  refine sx_aload_n (pc := 31) dX12_maxp_31 sx_m1 ?_
  refine sx_iload_n (pc := 32) dX12_maxp_32 sx_m0 ?_
  refine sx_bipush (pc := 33) (v := 16) dX12_maxp_33 (by decide) ?_
  refine sx_iadd (pc := 35) dX12_maxp_35 ?_
  obtain ⟨⟨x17, V15⟩, g16, h⟩ := sx_bnd h
  refine sv_cV (pc := 36) (y := qX12_u2) (o := (some (.int x17))) (as := [.int (x6 + (16 : Int32))]) (V1 := V15) hG dX12_maxp_36 l_X12_213 y0X12_u2 yvX12_u2 rfl (Nat.le_of_ble_eq_true rfl) lay_146 kr_12 (by decide) (Nat.le_of_ble_eq_true rfl) rfl rfl rfl (t_X12_u2 hG ⟨rfl, rfl⟩ g16) ?_
  obtain ⟨V18, hV18⟩ : ∃ z : sv_V, z = sv_I V15 146 14 x17 := ⟨_, rfl⟩
  have h := sx_letE hV18 h
  refine sv_putI (pc := 39) hG dX12_maxp_39 f_12_316 lay_146 rfl hV18 ?_
  refine sx_aload_n (pc := 42) dX12_maxp_42 sx_m1 ?_
  refine sx_aload_n (pc := 43) dX12_maxp_43 sx_m1 ?_
  refine sx_iload_n (pc := 44) dX12_maxp_44 sx_m0 ?_
  refine sx_bipush (pc := 45) (v := 18) dX12_maxp_45 (by decide) ?_
  refine sx_iadd (pc := 47) dX12_maxp_47 ?_
  obtain ⟨⟨x21, V19⟩, g20, h⟩ := sx_bnd h
  refine sv_cV (pc := 48) (y := qX12_u2) (o := (some (.int x21))) (as := [.int (x6 + (18 : Int32))]) (V1 := V19) hG dX12_maxp_48 l_X12_213 y0X12_u2 yvX12_u2 rfl (Nat.le_of_ble_eq_true rfl) lay_146 kr_12 (by decide) (Nat.le_of_ble_eq_true rfl) rfl rfl rfl (t_X12_u2 hG ⟨rfl, rfl⟩ g20) ?_
  obtain ⟨V22, hV22⟩ : ∃ z : sv_V, z = sv_I V19 146 15 x21 := ⟨_, rfl⟩
  have h := sx_letE hV22 h
  refine sv_putI (pc := 51) hG dX12_maxp_51 f_12_319 lay_146 rfl hV22 ?_
  refine sx_aload_n (pc := 54) dX12_maxp_54 sx_m1 ?_
  refine sx_aload_n (pc := 55) dX12_maxp_55 sx_m1 ?_
  refine sx_iload_n (pc := 56) dX12_maxp_56 sx_m0 ?_
  refine sx_bipush (pc := 57) (v := 20) dX12_maxp_57 (by decide) ?_
  refine sx_iadd (pc := 59) dX12_maxp_59 ?_
  obtain ⟨⟨x25, V23⟩, g24, h⟩ := sx_bnd h
  refine sv_cV (pc := 60) (y := qX12_u2) (o := (some (.int x25))) (as := [.int (x6 + (20 : Int32))]) (V1 := V23) hG dX12_maxp_60 l_X12_213 y0X12_u2 yvX12_u2 rfl (Nat.le_of_ble_eq_true rfl) lay_146 kr_12 (by decide) (Nat.le_of_ble_eq_true rfl) rfl rfl rfl (t_X12_u2 hG ⟨rfl, rfl⟩ g24) ?_
  obtain ⟨V26, hV26⟩ : ∃ z : sv_V, z = sv_I V23 146 16 x25 := ⟨_, rfl⟩
  have h := sx_letE hV26 h
  refine sv_putI (pc := 63) hG dX12_maxp_63 f_12_322 lay_146 rfl hV26 ?_
  refine sx_aload_n (pc := 66) dX12_maxp_66 sx_m1 ?_
  refine sx_aload_n (pc := 67) dX12_maxp_67 sx_m1 ?_
  refine sx_iload_n (pc := 68) dX12_maxp_68 sx_m0 ?_
  refine sx_bipush (pc := 69) (v := 22) dX12_maxp_69 (by decide) ?_
  refine sx_iadd (pc := 71) dX12_maxp_71 ?_
  obtain ⟨⟨x29, V27⟩, g28, h⟩ := sx_bnd h
  refine sv_cV (pc := 72) (y := qX12_u2) (o := (some (.int x29))) (as := [.int (x6 + (22 : Int32))]) (V1 := V27) hG dX12_maxp_72 l_X12_213 y0X12_u2 yvX12_u2 rfl (Nat.le_of_ble_eq_true rfl) lay_146 kr_12 (by decide) (Nat.le_of_ble_eq_true rfl) rfl rfl rfl (t_X12_u2 hG ⟨rfl, rfl⟩ g28) ?_
  obtain ⟨V30, hV30⟩ : ∃ z : sv_V, z = sv_I V27 146 17 x29 := ⟨_, rfl⟩
  have h := sx_letE hV30 h
  refine sv_putI (pc := 75) hG dX12_maxp_75 f_12_325 lay_146 rfl hV30 ?_
  refine sx_aload_n (pc := 78) dX12_maxp_78 sx_m1 ?_
  refine sx_aload_n (pc := 79) dX12_maxp_79 sx_m1 ?_
  refine sx_iload_n (pc := 80) dX12_maxp_80 sx_m0 ?_
  refine sx_bipush (pc := 81) (v := 24) dX12_maxp_81 (by decide) ?_
  refine sx_iadd (pc := 83) dX12_maxp_83 ?_
  obtain ⟨⟨x33, V31⟩, g32, h⟩ := sx_bnd h
  refine sv_cV (pc := 84) (y := qX12_u2) (o := (some (.int x33))) (as := [.int (x6 + (24 : Int32))]) (V1 := V31) hG dX12_maxp_84 l_X12_213 y0X12_u2 yvX12_u2 rfl (Nat.le_of_ble_eq_true rfl) lay_146 kr_12 (by decide) (Nat.le_of_ble_eq_true rfl) rfl rfl rfl (t_X12_u2 hG ⟨rfl, rfl⟩ g32) ?_
  obtain ⟨V34, hV34⟩ : ∃ z : sv_V, z = sv_I V31 146 18 x33 := ⟨_, rfl⟩
  have h := sx_letE hV34 h
  refine sv_putI (pc := 87) hG dX12_maxp_87 f_12_328 lay_146 rfl hV34 ?_
  refine sx_aload_n (pc := 90) dX12_maxp_90 sx_m1 ?_
  refine sx_aload_n (pc := 91) dX12_maxp_91 sx_m1 ?_
  refine sx_iload_n (pc := 92) dX12_maxp_92 sx_m0 ?_
  refine sx_bipush (pc := 93) (v := 30) dX12_maxp_93 (by decide) ?_
  refine sx_iadd (pc := 95) dX12_maxp_95 ?_
  obtain ⟨⟨x37, V35⟩, g36, h⟩ := sx_bnd h
  refine sv_cV (pc := 96) (y := qX12_u2) (o := (some (.int x37))) (as := [.int (x6 + (30 : Int32))]) (V1 := V35) hG dX12_maxp_96 l_X12_213 y0X12_u2 yvX12_u2 rfl (Nat.le_of_ble_eq_true rfl) lay_146 kr_12 (by decide) (Nat.le_of_ble_eq_true rfl) rfl rfl rfl (t_X12_u2 hG ⟨rfl, rfl⟩ g36) ?_
  obtain ⟨V38, hV38⟩ : ∃ z : sv_V, z = sv_I V35 146 19 x37 := ⟨_, rfl⟩
  have h := sx_letE hV38 h
  refine sv_putI (pc := 99) hG dX12_maxp_99 f_12_331 lay_146 rfl hV38 ?_
  refine sx_aload_n (pc := 102) dX12_maxp_102 sx_m1 ?_
  refine sx_ldc (pc := 103) dX12_maxp_103 k_X12_244 ?_
  obtain ⟨⟨x41, V39⟩, g40, h⟩ := sx_bnd h
  refine sv_cV (pc := 105) (y := qX12_lengthOf) (o := (some (.int x41))) (as := [.int (1835104368 : Int32)]) (V1 := V39) hG dX12_maxp_105 l_X12_257 y0X12_lengthOf yvX12_lengthOf rfl (Nat.le_of_ble_eq_true rfl) lay_146 kr_12 (by decide) (Nat.le_of_ble_eq_true rfl) rfl rfl rfl (t_X12_lengthOf hG ⟨rfl, rfl⟩ g40) ?_
  refine sx_bipush (pc := 108) (v := 32) dX12_maxp_108 (by decide) ?_
  refine sx_icmp_ne (pc := 110) (tgt := 249) dX12_maxp_110 (by decide) (fun c42 => ?_) (fun c42 => ?_)
  · have h := sx_neg c42 h
    refine sx_wk (sx_s1 sx_m1 sx_s0) ?_
    exact tB_X12_maxp_249 hG hP  h
  · have h := sx_pos c42 h
    refine sx_aload_n (pc := 113) dX12_maxp_113 sx_m1 ?_
    refine sx_iload_n (pc := 114) dX12_maxp_114 sx_m0 ?_
    obtain ⟨⟨x45, V43⟩, g44, h⟩ := sx_bnd h
    refine sv_cV (pc := 115) (y := qX12_u4) (o := (some (.long x45))) (as := [.int x6]) (V1 := V43) hG dX12_maxp_115 l_X12_297 y0X12_u4 yvX12_u4 rfl (Nat.le_of_ble_eq_true rfl) lay_146 kr_12 (by decide) (Nat.le_of_ble_eq_true rfl) rfl rfl rfl (t_X12_u4 hG ⟨rfl, rfl⟩ g44) ?_
    refine sx_ldc2 (pc := 118) dX12_maxp_118 k_X12_300 ?_
    refine sx_lcmp (pc := 121) dX12_maxp_121 ?_
    refine sx_if_ne (pc := 122) (tgt := 249) dX12_maxp_122 (by decide) (fun c46 => ?_) (fun c46 => ?_)
    · have h := sx_neg c46 h
      refine sx_wk (sx_s1 sx_m1 sx_s0) ?_
      exact tB_X12_maxp_249 hG hP  h
    · have h := sx_pos c46 h
      refine sx_aload_n (pc := 125) dX12_maxp_125 sx_m1 ?_
      refine sv_getI (pc := 126) hG dX12_maxp_126 f_12_260 lay_146 rfl ?_
      refine sx_i2l (pc := 129) dX12_maxp_129 ?_
      refine sx_lconst (pc := 130) (v := 1) dX12_maxp_130 rfl ?_
      refine sx_ldc2 (pc := 131) dX12_maxp_131 k_X12_334 ?_
      obtain ⟨⟨x49, V47⟩, g48, h⟩ := sx_bnd h
      refine sv_cS (pc := 134) (y := qX12_in) (o := (some (.int x49))) (as := [.long ((V43.1 146 12).toInt64), .long (1 : Int64), .long (200 : Int64)]) (V1 := V47) dX12_maxp_134 l_X12_263 y0X12_in ysX12_in rfl (Nat.le_of_ble_eq_true rfl) (by decide) (Nat.le_of_ble_eq_true rfl) rfl rfl rfl (t_X12_in hG ⟨rfl, rfl⟩ g48) ?_
      refine sx_if_eq (pc := 137) (tgt := 249) dX12_maxp_137 (by decide) (fun c50 => ?_) (fun c50 => ?_)
      · have h := sx_pos c50 h
        refine sx_wk (sx_s1 sx_m1 sx_s0) ?_
        exact tB_X12_maxp_249 hG hP  h
      · have h := sx_neg c50 h
        refine sx_aload_n (pc := 140) dX12_maxp_140 sx_m1 ?_
        refine sv_getI (pc := 141) hG dX12_maxp_141 f_12_313 lay_146 rfl ?_
        refine sx_i2l (pc := 144) dX12_maxp_144 ?_
        refine sx_lconst (pc := 145) (v := 1) dX12_maxp_145 rfl ?_
        refine sx_ldc2 (pc := 146) dX12_maxp_146 k_X12_336 ?_
        obtain ⟨⟨x53, V51⟩, g52, h⟩ := sx_bnd h
        refine sv_cS (pc := 149) (y := qX12_in) (o := (some (.int x53))) (as := [.long ((V47.1 146 13).toInt64), .long (1 : Int64), .long (2 : Int64)]) (V1 := V51) dX12_maxp_149 l_X12_263 y0X12_in ysX12_in rfl (Nat.le_of_ble_eq_true rfl) (by decide) (Nat.le_of_ble_eq_true rfl) rfl rfl rfl (t_X12_in hG ⟨rfl, rfl⟩ g52) ?_
        refine sx_if_eq (pc := 152) (tgt := 249) dX12_maxp_152 (by decide) (fun c54 => ?_) (fun c54 => ?_)
        · have h := sx_pos c54 h
          refine sx_wk (sx_s1 sx_m1 sx_s0) ?_
          exact tB_X12_maxp_249 hG hP  h
        · have h := sx_neg c54 h
          refine sx_aload_n (pc := 155) dX12_maxp_155 sx_m1 ?_
          refine sv_getI (pc := 156) hG dX12_maxp_156 f_12_316 lay_146 rfl ?_
          refine sx_i2l (pc := 159) dX12_maxp_159 ?_
          refine sx_lconst (pc := 160) (v := 0) dX12_maxp_160 rfl ?_
          refine sx_ldc2 (pc := 161) dX12_maxp_161 k_X12_338 ?_
          obtain ⟨⟨x57, V55⟩, g56, h⟩ := sx_bnd h
          refine sv_cS (pc := 164) (y := qX12_in) (o := (some (.int x57))) (as := [.long ((V51.1 146 14).toInt64), .long (0 : Int64), .long (64 : Int64)]) (V1 := V55) dX12_maxp_164 l_X12_263 y0X12_in ysX12_in rfl (Nat.le_of_ble_eq_true rfl) (by decide) (Nat.le_of_ble_eq_true rfl) rfl rfl rfl (t_X12_in hG ⟨rfl, rfl⟩ g56) ?_
          refine sx_if_eq (pc := 167) (tgt := 249) dX12_maxp_167 (by decide) (fun c58 => ?_) (fun c58 => ?_)
          · have h := sx_pos c58 h
            refine sx_wk (sx_s1 sx_m1 sx_s0) ?_
            exact tB_X12_maxp_249 hG hP  h
          · have h := sx_neg c58 h
            refine sx_aload_n (pc := 170) dX12_maxp_170 sx_m1 ?_
            refine sv_getI (pc := 171) hG dX12_maxp_171 f_12_319 lay_146 rfl ?_
            refine sx_i2l (pc := 174) dX12_maxp_174 ?_
            refine sx_lconst (pc := 175) (v := 0) dX12_maxp_175 rfl ?_
            refine sx_ldc2 (pc := 176) dX12_maxp_176 k_X12_338 ?_
            obtain ⟨⟨x61, V59⟩, g60, h⟩ := sx_bnd h
            refine sv_cS (pc := 179) (y := qX12_in) (o := (some (.int x61))) (as := [.long ((V55.1 146 15).toInt64), .long (0 : Int64), .long (64 : Int64)]) (V1 := V59) dX12_maxp_179 l_X12_263 y0X12_in ysX12_in rfl (Nat.le_of_ble_eq_true rfl) (by decide) (Nat.le_of_ble_eq_true rfl) rfl rfl rfl (t_X12_in hG ⟨rfl, rfl⟩ g60) ?_
            refine sx_if_eq (pc := 182) (tgt := 249) dX12_maxp_182 (by decide) (fun c62 => ?_) (fun c62 => ?_)
            · have h := sx_pos c62 h
              refine sx_wk (sx_s1 sx_m1 sx_s0) ?_
              exact tB_X12_maxp_249 hG hP  h
            · have h := sx_neg c62 h
              refine sx_aload_n (pc := 185) dX12_maxp_185 sx_m1 ?_
              refine sv_getI (pc := 186) hG dX12_maxp_186 f_12_322 lay_146 rfl ?_
              refine sx_i2l (pc := 189) dX12_maxp_189 ?_
              refine sx_lconst (pc := 190) (v := 0) dX12_maxp_190 rfl ?_
              refine sx_ldc2 (pc := 191) dX12_maxp_191 k_X12_338 ?_
              obtain ⟨⟨x65, V63⟩, g64, h⟩ := sx_bnd h
              refine sv_cS (pc := 194) (y := qX12_in) (o := (some (.int x65))) (as := [.long ((V59.1 146 16).toInt64), .long (0 : Int64), .long (64 : Int64)]) (V1 := V63) dX12_maxp_194 l_X12_263 y0X12_in ysX12_in rfl (Nat.le_of_ble_eq_true rfl) (by decide) (Nat.le_of_ble_eq_true rfl) rfl rfl rfl (t_X12_in hG ⟨rfl, rfl⟩ g64) ?_
              refine sx_if_eq (pc := 197) (tgt := 249) dX12_maxp_197 (by decide) (fun c66 => ?_) (fun c66 => ?_)
              · have h := sx_pos c66 h
                refine sx_wk (sx_s1 sx_m1 sx_s0) ?_
                exact tB_X12_maxp_249 hG hP  h
              · have h := sx_neg c66 h
                refine sx_aload_n (pc := 200) dX12_maxp_200 sx_m1 ?_
                refine sv_getI (pc := 201) hG dX12_maxp_201 f_12_325 lay_146 rfl ?_
                refine sx_i2l (pc := 204) dX12_maxp_204 ?_
                refine sx_lconst (pc := 205) (v := 0) dX12_maxp_205 rfl ?_
                refine sx_ldc2 (pc := 206) dX12_maxp_206 k_X12_232 ?_
                obtain ⟨⟨x69, V67⟩, g68, h⟩ := sx_bnd h
                refine sv_cS (pc := 209) (y := qX12_in) (o := (some (.int x69))) (as := [.long ((V63.1 146 17).toInt64), .long (0 : Int64), .long (16 : Int64)]) (V1 := V67) dX12_maxp_209 l_X12_263 y0X12_in ysX12_in rfl (Nat.le_of_ble_eq_true rfl) (by decide) (Nat.le_of_ble_eq_true rfl) rfl rfl rfl (t_X12_in hG ⟨rfl, rfl⟩ g68) ?_
                refine sx_if_eq (pc := 212) (tgt := 249) dX12_maxp_212 (by decide) (fun c70 => ?_) (fun c70 => ?_)
                · have h := sx_pos c70 h
                  refine sx_wk (sx_s1 sx_m1 sx_s0) ?_
                  exact tB_X12_maxp_249 hG hP  h
                · have h := sx_neg c70 h
                  refine sx_aload_n (pc := 215) dX12_maxp_215 sx_m1 ?_
                  refine sv_getI (pc := 216) hG dX12_maxp_216 f_12_328 lay_146 rfl ?_
                  refine sx_i2l (pc := 219) dX12_maxp_219 ?_
                  refine sx_lconst (pc := 220) (v := 0) dX12_maxp_220 rfl ?_
                  refine sx_ldc2 (pc := 221) dX12_maxp_221 k_X12_340 ?_
                  obtain ⟨⟨x73, V71⟩, g72, h⟩ := sx_bnd h
                  refine sv_cS (pc := 224) (y := qX12_in) (o := (some (.int x73))) (as := [.long ((V67.1 146 18).toInt64), .long (0 : Int64), .long (256 : Int64)]) (V1 := V71) dX12_maxp_224 l_X12_263 y0X12_in ysX12_in rfl (Nat.le_of_ble_eq_true rfl) (by decide) (Nat.le_of_ble_eq_true rfl) rfl rfl rfl (t_X12_in hG ⟨rfl, rfl⟩ g72) ?_
                  refine sx_if_eq (pc := 227) (tgt := 249) dX12_maxp_227 (by decide) (fun c74 => ?_) (fun c74 => ?_)
                  · have h := sx_pos c74 h
                    refine sx_wk (sx_s1 sx_m1 sx_s0) ?_
                    exact tB_X12_maxp_249 hG hP  h
                  · have h := sx_neg c74 h
                    refine sx_aload_n (pc := 230) dX12_maxp_230 sx_m1 ?_
                    refine sv_getI (pc := 231) hG dX12_maxp_231 f_12_331 lay_146 rfl ?_
                    refine sx_i2l (pc := 234) dX12_maxp_234 ?_
                    refine sx_lconst (pc := 235) (v := 0) dX12_maxp_235 rfl ?_
                    refine sx_ldc2 (pc := 236) dX12_maxp_236 k_X12_228 ?_
                    obtain ⟨⟨x77, V75⟩, g76, h⟩ := sx_bnd h
                    refine sv_cS (pc := 239) (y := qX12_in) (o := (some (.int x77))) (as := [.long ((V71.1 146 19).toInt64), .long (0 : Int64), .long (4 : Int64)]) (V1 := V75) dX12_maxp_239 l_X12_263 y0X12_in ysX12_in rfl (Nat.le_of_ble_eq_true rfl) (by decide) (Nat.le_of_ble_eq_true rfl) rfl rfl rfl (t_X12_in hG ⟨rfl, rfl⟩ g76) ?_
                    refine sx_if_eq (pc := 242) (tgt := 249) dX12_maxp_242 (by decide) (fun c78 => ?_) (fun c78 => ?_)
                    · have h := sx_pos c78 h
                      refine sx_wk (sx_s1 sx_m1 sx_s0) ?_
                      exact tB_X12_maxp_249 hG hP  h
                    · have h := sx_neg c78 h
                      refine sx_iconst (pc := 245) (v := 1) dX12_maxp_245 (by decide) ?_
                      refine sx_goto (pc := 246) (tgt := 250) dX12_maxp_246 (by decide) ?_
                      refine sx_wk (sx_s1 sx_m1 sx_s0) ?_
                      exact tB_X12_maxp_250 hG hP  h
theorem dX12_loca_0 : decode cX12_loca 0 = .ok (.aload_n 0, 1) := by decide +kernel
theorem dX12_loca_1 : decode cX12_loca 1 = .ok (.ldc 243, 2) := by decide +kernel
theorem dX12_loca_3 : decode cX12_loca 3 = .ok (.invokevirtual 251, 3) := by decide +kernel
theorem dX12_loca_6 : decode cX12_loca 6 = .ok (.istore_n 2, 1) := by decide +kernel
theorem dX12_loca_7 : decode cX12_loca 7 = .ok (.aload_n 0, 1) := by decide +kernel
theorem dX12_loca_8 : decode cX12_loca 8 = .ok (.getfield 271, 3) := by decide +kernel
theorem dX12_loca_11 : decode cX12_loca 11 = .ok (.ifCond .ne 20, 3) := by decide +kernel
theorem dX12_loca_14 : decode cX12_loca 14 = .ok (.ldc2_w 336, 3) := by decide +kernel
theorem dX12_loca_17 : decode cX12_loca 17 = .ok (.aload_n 0, 1) := by decide +kernel
theorem dX12_loca_18 : decode cX12_loca 18 = .ok (.iload_n 2, 1) := by decide +kernel
theorem dX12_loca_19 : decode cX12_loca 19 = .ok (.iconst 2, 1) := by decide +kernel
theorem dX12_loca_20 : decode cX12_loca 20 = .ok (.iload_n 1, 1) := by decide +kernel
theorem dX12_loca_21 : decode cX12_loca 21 = .ok (.imul, 1) := by decide +kernel
theorem dX12_loca_22 : decode cX12_loca 22 = .ok (.iadd, 1) := by decide +kernel
theorem dX12_loca_23 : decode cX12_loca 23 = .ok (.invokevirtual 213, 3) := by decide +kernel
theorem dX12_loca_26 : decode cX12_loca 26 = .ok (.i2l, 1) := by decide +kernel
theorem dX12_loca_27 : decode cX12_loca 27 = .ok (.lmul, 1) := by decide +kernel
theorem dX12_loca_28 : decode cX12_loca 28 = .ok (.goto 12, 3) := by decide +kernel
theorem dX12_loca_31 : decode cX12_loca 31 = .ok (.aload_n 0, 1) := by decide +kernel
theorem dX12_loca_32 : decode cX12_loca 32 = .ok (.iload_n 2, 1) := by decide +kernel
theorem dX12_loca_33 : decode cX12_loca 33 = .ok (.iconst 4, 1) := by decide +kernel
theorem dX12_loca_34 : decode cX12_loca 34 = .ok (.iload_n 1, 1) := by decide +kernel
theorem dX12_loca_35 : decode cX12_loca 35 = .ok (.imul, 1) := by decide +kernel
theorem dX12_loca_36 : decode cX12_loca 36 = .ok (.iadd, 1) := by decide +kernel
theorem dX12_loca_37 : decode cX12_loca 37 = .ok (.invokevirtual 297, 3) := by decide +kernel
theorem dX12_loca_40 : decode cX12_loca 40 = .ok (.lreturn, 1) := by decide +kernel
def F_X12_loca (N : Nat) (l1 : Int32) (V : sv_V) : Option (Int64 × sv_V) := (F_X12_beginOf N (1819239265 : Int32) V).bind (fun (x3, V1) => if (V1.1 146 11) = 0 then ((F_X12_u2 (x3 + ((2 : Int32) * l1)) V1).bind (fun (x10, V8) => some ((2 : Int64) * x10.toInt64, V8))) else ((F_X12_u4 (x3 + ((4 : Int32) * l1)) V1).bind (fun (x7, V5) => some (x7, V5))))
set_option maxRecDepth 20000 in
theorem t_X12_loca {g : sx_G} (hG : sx_Go g) {P : Option Value → sv_V → Prop} {r : Int64} {Vr : sv_V} (hP : P (some (.long r)) Vr) {N : Nat} {l1 : Int32} {V : sv_V} (h : F_X12_loca N l1 V = some (r, Vr)) : sv_N g qX12_loca 3 0 [(0, .ref 146), (1, .int l1)] [] V P := by
  unfold F_X12_loca at h
  refine sx_aload_n (pc := 0) dX12_loca_0 sx_m0 ?_
  refine sx_ldc (pc := 1) dX12_loca_1 k_X12_243 ?_
  obtain ⟨⟨x3, V1⟩, g2, h⟩ := sx_bnd h
  refine sv_cV (pc := 3) (y := qX12_beginOf) (o := (some (.int x3))) (as := [.int (1819239265 : Int32)]) (V1 := V1) hG dX12_loca_3 l_X12_251 y0X12_beginOf yvX12_beginOf rfl (Nat.le_of_ble_eq_true rfl) lay_146 kr_12 (by decide) (Nat.le_of_ble_eq_true rfl) rfl rfl rfl (t_X12_beginOf hG ⟨rfl, rfl⟩ g2) ?_
  refine sx_istore_n (pc := 6) (lo' := [(2, .int x3), (0, .ref 146), (1, .int l1)]) dX12_loca_6 (by decide) rfl ?_
  refine sx_aload_n (pc := 7) dX12_loca_7 sx_m1 ?_
  refine sv_getI (pc := 8) hG dX12_loca_8 f_12_271 lay_146 rfl ?_
  refine sx_if_ne (pc := 11) (tgt := 31) dX12_loca_11 (by decide) (fun c4 => ?_) (fun c4 => ?_)
  · have h := sx_neg c4 h
    refine sx_aload_n (pc := 31) dX12_loca_31 sx_m1 ?_
    refine sx_iload_n (pc := 32) dX12_loca_32 sx_m0 ?_
    refine sx_iconst (pc := 33) (v := 4) dX12_loca_33 (by decide) ?_
    refine sx_iload_n (pc := 34) dX12_loca_34 sx_m2 ?_
    refine sx_imul (pc := 35) dX12_loca_35 ?_
    refine sx_iadd (pc := 36) dX12_loca_36 ?_
    obtain ⟨⟨x7, V5⟩, g6, h⟩ := sx_bnd h
    refine sv_cV (pc := 37) (y := qX12_u4) (o := (some (.long x7))) (as := [.int (x3 + ((4 : Int32) * l1))]) (V1 := V5) hG dX12_loca_37 l_X12_297 y0X12_u4 yvX12_u4 rfl (Nat.le_of_ble_eq_true rfl) lay_146 kr_12 (by decide) (Nat.le_of_ble_eq_true rfl) rfl rfl rfl (t_X12_u4 hG ⟨rfl, rfl⟩ g6) ?_
    exact sv_lret (pc := 40) dX12_loca_40 rfl h hP
  · have h := sx_pos c4 h
    refine sx_ldc2 (pc := 14) dX12_loca_14 k_X12_336 ?_
    refine sx_aload_n (pc := 17) dX12_loca_17 sx_m1 ?_
    refine sx_iload_n (pc := 18) dX12_loca_18 sx_m0 ?_
    refine sx_iconst (pc := 19) (v := 2) dX12_loca_19 (by decide) ?_
    refine sx_iload_n (pc := 20) dX12_loca_20 sx_m2 ?_
    refine sx_imul (pc := 21) dX12_loca_21 ?_
    refine sx_iadd (pc := 22) dX12_loca_22 ?_
    obtain ⟨⟨x10, V8⟩, g9, h⟩ := sx_bnd h
    refine sv_cV (pc := 23) (y := qX12_u2) (o := (some (.int x10))) (as := [.int (x3 + ((2 : Int32) * l1))]) (V1 := V8) hG dX12_loca_23 l_X12_213 y0X12_u2 yvX12_u2 rfl (Nat.le_of_ble_eq_true rfl) lay_146 kr_12 (by decide) (Nat.le_of_ble_eq_true rfl) rfl rfl rfl (t_X12_u2 hG ⟨rfl, rfl⟩ g9) ?_
    refine sx_i2l (pc := 26) dX12_loca_26 ?_
    refine sx_lmul (pc := 27) dX12_loca_27 ?_
    refine sx_goto (pc := 28) (tgt := 40) dX12_loca_28 (by decide) ?_
    exact sv_lret (pc := 40) dX12_loca_40 rfl h hP
theorem dX12_bytesOf_0 : decode cX12_bytesOf 0 = .ok (.aload_n 0, 1) := by decide +kernel
theorem dX12_bytesOf_1 : decode cX12_bytesOf 1 = .ok (.aload_n 0, 1) := by decide +kernel
theorem dX12_bytesOf_2 : decode cX12_bytesOf 2 = .ok (.ldc 240, 2) := by decide +kernel
theorem dX12_bytesOf_4 : decode cX12_bytesOf 4 = .ok (.invokevirtual 251, 3) := by decide +kernel
theorem dX12_bytesOf_7 : decode cX12_bytesOf 7 = .ok (.aload_n 0, 1) := by decide +kernel
theorem dX12_bytesOf_8 : decode cX12_bytesOf 8 = .ok (.iload_n 1, 1) := by decide +kernel
theorem dX12_bytesOf_9 : decode cX12_bytesOf 9 = .ok (.invokevirtual 274, 3) := by decide +kernel
theorem dX12_bytesOf_12 : decode cX12_bytesOf 12 = .ok (.l2i, 1) := by decide +kernel
theorem dX12_bytesOf_13 : decode cX12_bytesOf 13 = .ok (.iadd, 1) := by decide +kernel
theorem dX12_bytesOf_14 : decode cX12_bytesOf 14 = .ok (.putfield 342, 3) := by decide +kernel
theorem dX12_bytesOf_17 : decode cX12_bytesOf 17 = .ok (.aload_n 0, 1) := by decide +kernel
theorem dX12_bytesOf_18 : decode cX12_bytesOf 18 = .ok (.aload_n 0, 1) := by decide +kernel
theorem dX12_bytesOf_19 : decode cX12_bytesOf 19 = .ok (.ldc 240, 2) := by decide +kernel
theorem dX12_bytesOf_21 : decode cX12_bytesOf 21 = .ok (.invokevirtual 251, 3) := by decide +kernel
theorem dX12_bytesOf_24 : decode cX12_bytesOf 24 = .ok (.aload_n 0, 1) := by decide +kernel
theorem dX12_bytesOf_25 : decode cX12_bytesOf 25 = .ok (.iload_n 1, 1) := by decide +kernel
theorem dX12_bytesOf_26 : decode cX12_bytesOf 26 = .ok (.iconst 1, 1) := by decide +kernel
theorem dX12_bytesOf_27 : decode cX12_bytesOf 27 = .ok (.iadd, 1) := by decide +kernel
theorem dX12_bytesOf_28 : decode cX12_bytesOf 28 = .ok (.invokevirtual 274, 3) := by decide +kernel
theorem dX12_bytesOf_31 : decode cX12_bytesOf 31 = .ok (.l2i, 1) := by decide +kernel
theorem dX12_bytesOf_32 : decode cX12_bytesOf 32 = .ok (.iadd, 1) := by decide +kernel
theorem dX12_bytesOf_33 : decode cX12_bytesOf 33 = .ok (.putfield 345, 3) := by decide +kernel
theorem dX12_bytesOf_36 : decode cX12_bytesOf 36 = .ok (.aload_n 0, 1) := by decide +kernel
theorem dX12_bytesOf_37 : decode cX12_bytesOf 37 = .ok (.aload_n 0, 1) := by decide +kernel
theorem dX12_bytesOf_38 : decode cX12_bytesOf 38 = .ok (.getfield 342, 3) := by decide +kernel
theorem dX12_bytesOf_41 : decode cX12_bytesOf 41 = .ok (.aload_n 0, 1) := by decide +kernel
theorem dX12_bytesOf_42 : decode cX12_bytesOf 42 = .ok (.getfield 345, 3) := by decide +kernel
theorem dX12_bytesOf_45 : decode cX12_bytesOf 45 = .ok (.if_icmp .ne 7, 3) := by decide +kernel
theorem dX12_bytesOf_48 : decode cX12_bytesOf 48 = .ok (.iconst 0, 1) := by decide +kernel
theorem dX12_bytesOf_49 : decode cX12_bytesOf 49 = .ok (.goto 11, 3) := by decide +kernel
theorem dX12_bytesOf_52 : decode cX12_bytesOf 52 = .ok (.aload_n 0, 1) := by decide +kernel
theorem dX12_bytesOf_53 : decode cX12_bytesOf 53 = .ok (.aload_n 0, 1) := by decide +kernel
theorem dX12_bytesOf_54 : decode cX12_bytesOf 54 = .ok (.getfield 342, 3) := by decide +kernel
theorem dX12_bytesOf_57 : decode cX12_bytesOf 57 = .ok (.invokevirtual 305, 3) := by decide +kernel
theorem dX12_bytesOf_60 : decode cX12_bytesOf 60 = .ok (.putfield 348, 3) := by decide +kernel
theorem dX12_bytesOf_63 : decode cX12_bytesOf 63 = .ok (.aload_n 0, 1) := by decide +kernel
theorem dX12_bytesOf_64 : decode cX12_bytesOf 64 = .ok (.iconst 0, 1) := by decide +kernel
theorem dX12_bytesOf_65 : decode cX12_bytesOf 65 = .ok (.putfield 351, 3) := by decide +kernel
theorem dX12_bytesOf_68 : decode cX12_bytesOf 68 = .ok (.aload_n 0, 1) := by decide +kernel
theorem dX12_bytesOf_69 : decode cX12_bytesOf 69 = .ok (.iconst 0, 1) := by decide +kernel
theorem dX12_bytesOf_70 : decode cX12_bytesOf 70 = .ok (.putfield 354, 3) := by decide +kernel
theorem dX12_bytesOf_73 : decode cX12_bytesOf 73 = .ok (.aload_n 0, 1) := by decide +kernel
theorem dX12_bytesOf_74 : decode cX12_bytesOf 74 = .ok (.aload_n 0, 1) := by decide +kernel
theorem dX12_bytesOf_75 : decode cX12_bytesOf 75 = .ok (.getfield 345, 3) := by decide +kernel
theorem dX12_bytesOf_78 : decode cX12_bytesOf 78 = .ok (.putfield 357, 3) := by decide +kernel
theorem dX12_bytesOf_81 : decode cX12_bytesOf 81 = .ok (.aload_n 0, 1) := by decide +kernel
theorem dX12_bytesOf_82 : decode cX12_bytesOf 82 = .ok (.iconst 0, 1) := by decide +kernel
theorem dX12_bytesOf_83 : decode cX12_bytesOf 83 = .ok (.putfield 360, 3) := by decide +kernel
theorem dX12_bytesOf_86 : decode cX12_bytesOf 86 = .ok (.return_, 1) := by decide +kernel
def B_X12_bytesOf_60 (N : Nat)  (s1 : Int32) (V : sv_V) : Option sv_V := sx_let (sv_I V 146 28 s1) (fun V1 => sx_let (sv_I V1 146 29 (0 : Int32)) (fun V2 => sx_let (sv_I V2 146 30 (0 : Int32)) (fun V3 => sx_let (sv_I V3 146 31 (V3.1 146 27)) (fun V4 => sx_let (sv_I V4 146 32 (0 : Int32)) (fun V5 => some V5)))))
set_option maxRecDepth 20000 in
theorem tB_X12_bytesOf_60 {g : sx_G} (hG : sx_Go g) {P : Option Value → sv_V → Prop} {Vr : sv_V} (hP : P none Vr) {N : Nat}   {s1 : Int32} {V : sv_V} (h : B_X12_bytesOf_60 N  s1 V = some Vr) : sv_N g qX12_bytesOf 4 60 [(0, .ref 146)] [.int s1, .ref 146] V P := by
  unfold B_X12_bytesOf_60 at h
  obtain ⟨V1, hV1⟩ : ∃ z : sv_V, z = sv_I V 146 28 s1 := ⟨_, rfl⟩
  have h := sx_letE hV1 h
  refine sv_putI (pc := 60) hG dX12_bytesOf_60 f_12_348 lay_146 rfl hV1 ?_
  refine sx_aload_n (pc := 63) dX12_bytesOf_63 sx_m0 ?_
  refine sx_iconst (pc := 64) (v := 0) dX12_bytesOf_64 (by decide) ?_
  obtain ⟨V2, hV2⟩ : ∃ z : sv_V, z = sv_I V1 146 29 (0 : Int32) := ⟨_, rfl⟩
  have h := sx_letE hV2 h
  refine sv_putI (pc := 65) hG dX12_bytesOf_65 f_12_351 lay_146 rfl hV2 ?_
  refine sx_aload_n (pc := 68) dX12_bytesOf_68 sx_m0 ?_
  refine sx_iconst (pc := 69) (v := 0) dX12_bytesOf_69 (by decide) ?_
  obtain ⟨V3, hV3⟩ : ∃ z : sv_V, z = sv_I V2 146 30 (0 : Int32) := ⟨_, rfl⟩
  have h := sx_letE hV3 h
  refine sv_putI (pc := 70) hG dX12_bytesOf_70 f_12_354 lay_146 rfl hV3 ?_
  refine sx_aload_n (pc := 73) dX12_bytesOf_73 sx_m0 ?_
  refine sx_aload_n (pc := 74) dX12_bytesOf_74 sx_m0 ?_
  refine sv_getI (pc := 75) hG dX12_bytesOf_75 f_12_345 lay_146 rfl ?_
  obtain ⟨V4, hV4⟩ : ∃ z : sv_V, z = sv_I V3 146 31 (V3.1 146 27) := ⟨_, rfl⟩
  have h := sx_letE hV4 h
  refine sv_putI (pc := 78) hG dX12_bytesOf_78 f_12_357 lay_146 rfl hV4 ?_
  refine sx_aload_n (pc := 81) dX12_bytesOf_81 sx_m0 ?_
  refine sx_iconst (pc := 82) (v := 0) dX12_bytesOf_82 (by decide) ?_
  obtain ⟨V5, hV5⟩ : ∃ z : sv_V, z = sv_I V4 146 32 (0 : Int32) := ⟨_, rfl⟩
  have h := sx_letE hV5 h
  refine sv_putI (pc := 83) hG dX12_bytesOf_83 f_12_360 lay_146 rfl hV5 ?_
  exact sv_vret (pc := 86) dX12_bytesOf_86 rfl h hP
def F_X12_bytesOf (N : Nat) (l1 : Int32) (V : sv_V) : Option sv_V := (F_X12_beginOf N (1735162214 : Int32) V).bind (fun (x8, V6) => (F_X12_loca N l1 V6).bind (fun (x11, V9) => sx_let (sv_I V9 146 26 (x8 + x11.toInt32)) (fun V12 => (F_X12_beginOf N (1735162214 : Int32) V12).bind (fun (x15, V13) => (F_X12_loca N (l1 + (1 : Int32)) V13).bind (fun (x18, V16) => sx_let (sv_I V16 146 27 (x15 + x18.toInt32)) (fun V19 => if (V19.1 146 26) = (V19.1 146 27) then (B_X12_bytesOf_60 N  (0 : Int32) V19) else ((F_X12_s2 (V19.1 146 26) V19).bind (fun (x23, V21) => B_X12_bytesOf_60 N  x23 V21))))))))
set_option maxRecDepth 20000 in
theorem t_X12_bytesOf {g : sx_G} (hG : sx_Go g) {P : Option Value → sv_V → Prop} {Vr : sv_V} (hP : P none Vr) {N : Nat} {l1 : Int32} {V : sv_V} (h : F_X12_bytesOf N l1 V = some Vr) : sv_N g qX12_bytesOf 4 0 [(0, .ref 146), (1, .int l1)] [] V P := by
  unfold F_X12_bytesOf at h
  refine sx_aload_n (pc := 0) dX12_bytesOf_0 sx_m0 ?_
  refine sx_aload_n (pc := 1) dX12_bytesOf_1 sx_m0 ?_
  refine sx_ldc (pc := 2) dX12_bytesOf_2 k_X12_240 ?_
  obtain ⟨⟨x8, V6⟩, g7, h⟩ := sx_bnd h
  refine sv_cV (pc := 4) (y := qX12_beginOf) (o := (some (.int x8))) (as := [.int (1735162214 : Int32)]) (V1 := V6) hG dX12_bytesOf_4 l_X12_251 y0X12_beginOf yvX12_beginOf rfl (Nat.le_of_ble_eq_true rfl) lay_146 kr_12 (by decide) (Nat.le_of_ble_eq_true rfl) rfl rfl rfl (t_X12_beginOf hG ⟨rfl, rfl⟩ g7) ?_
  refine sx_aload_n (pc := 7) dX12_bytesOf_7 sx_m0 ?_
  refine sx_iload_n (pc := 8) dX12_bytesOf_8 sx_m1 ?_
  obtain ⟨⟨x11, V9⟩, g10, h⟩ := sx_bnd h
  refine sv_cV (pc := 9) (y := qX12_loca) (o := (some (.long x11))) (as := [.int l1]) (V1 := V9) hG dX12_bytesOf_9 l_X12_274 y0X12_loca yvX12_loca rfl (Nat.le_of_ble_eq_true rfl) lay_146 kr_12 (by decide) (Nat.le_of_ble_eq_true rfl) rfl rfl rfl (t_X12_loca hG ⟨rfl, rfl⟩ g10) ?_
  refine sx_l2i (pc := 12) dX12_bytesOf_12 ?_
  refine sx_iadd (pc := 13) dX12_bytesOf_13 ?_
  obtain ⟨V12, hV12⟩ : ∃ z : sv_V, z = sv_I V9 146 26 (x8 + x11.toInt32) := ⟨_, rfl⟩
  have h := sx_letE hV12 h
  refine sv_putI (pc := 14) hG dX12_bytesOf_14 f_12_342 lay_146 rfl hV12 ?_
  refine sx_aload_n (pc := 17) dX12_bytesOf_17 sx_m0 ?_
  refine sx_aload_n (pc := 18) dX12_bytesOf_18 sx_m0 ?_
  refine sx_ldc (pc := 19) dX12_bytesOf_19 k_X12_240 ?_
  obtain ⟨⟨x15, V13⟩, g14, h⟩ := sx_bnd h
  refine sv_cV (pc := 21) (y := qX12_beginOf) (o := (some (.int x15))) (as := [.int (1735162214 : Int32)]) (V1 := V13) hG dX12_bytesOf_21 l_X12_251 y0X12_beginOf yvX12_beginOf rfl (Nat.le_of_ble_eq_true rfl) lay_146 kr_12 (by decide) (Nat.le_of_ble_eq_true rfl) rfl rfl rfl (t_X12_beginOf hG ⟨rfl, rfl⟩ g14) ?_
  refine sx_aload_n (pc := 24) dX12_bytesOf_24 sx_m0 ?_
  refine sx_iload_n (pc := 25) dX12_bytesOf_25 sx_m1 ?_
  refine sx_iconst (pc := 26) (v := 1) dX12_bytesOf_26 (by decide) ?_
  refine sx_iadd (pc := 27) dX12_bytesOf_27 ?_
  obtain ⟨⟨x18, V16⟩, g17, h⟩ := sx_bnd h
  refine sv_cV (pc := 28) (y := qX12_loca) (o := (some (.long x18))) (as := [.int (l1 + (1 : Int32))]) (V1 := V16) hG dX12_bytesOf_28 l_X12_274 y0X12_loca yvX12_loca rfl (Nat.le_of_ble_eq_true rfl) lay_146 kr_12 (by decide) (Nat.le_of_ble_eq_true rfl) rfl rfl rfl (t_X12_loca hG ⟨rfl, rfl⟩ g17) ?_
  refine sx_l2i (pc := 31) dX12_bytesOf_31 ?_
  refine sx_iadd (pc := 32) dX12_bytesOf_32 ?_
  obtain ⟨V19, hV19⟩ : ∃ z : sv_V, z = sv_I V16 146 27 (x15 + x18.toInt32) := ⟨_, rfl⟩
  have h := sx_letE hV19 h
  refine sv_putI (pc := 33) hG dX12_bytesOf_33 f_12_345 lay_146 rfl hV19 ?_
  refine sx_aload_n (pc := 36) dX12_bytesOf_36 sx_m0 ?_
  refine sx_aload_n (pc := 37) dX12_bytesOf_37 sx_m0 ?_
  refine sv_getI (pc := 38) hG dX12_bytesOf_38 f_12_342 lay_146 rfl ?_
  refine sx_aload_n (pc := 41) dX12_bytesOf_41 sx_m0 ?_
  refine sv_getI (pc := 42) hG dX12_bytesOf_42 f_12_345 lay_146 rfl ?_
  refine sx_icmp_ne (pc := 45) (tgt := 52) dX12_bytesOf_45 (by decide) (fun c20 => ?_) (fun c20 => ?_)
  · have h := sx_neg c20 h
    refine sx_aload_n (pc := 52) dX12_bytesOf_52 sx_m0 ?_
    refine sx_aload_n (pc := 53) dX12_bytesOf_53 sx_m0 ?_
    refine sv_getI (pc := 54) hG dX12_bytesOf_54 f_12_342 lay_146 rfl ?_
    obtain ⟨⟨x23, V21⟩, g22, h⟩ := sx_bnd h
    refine sv_cV (pc := 57) (y := qX12_s2) (o := (some (.int x23))) (as := [.int (V19.1 146 26)]) (V1 := V21) hG dX12_bytesOf_57 l_X12_305 y0X12_s2 yvX12_s2 rfl (Nat.le_of_ble_eq_true rfl) lay_146 kr_12 (by decide) (Nat.le_of_ble_eq_true rfl) rfl rfl rfl (t_X12_s2 hG ⟨rfl, rfl⟩ g22) ?_
    refine sx_wk (sx_s1 sx_m0 sx_s0) ?_
    exact tB_X12_bytesOf_60 hG hP  h
  · have h := sx_pos c20 h
    refine sx_iconst (pc := 48) (v := 0) dX12_bytesOf_48 (by decide) ?_
    refine sx_goto (pc := 49) (tgt := 60) dX12_bytesOf_49 (by decide) ?_
    refine sx_wk (sx_s1 sx_m0 sx_s0) ?_
    exact tB_X12_bytesOf_60 hG hP  h
