/-! methods: X6_beginOutline, X6_takeOutline, X6_append, X6_match, X7_copyFrom, X8_clearTo, X8_liesWithin, X9_goAlong, X9_findWay, X9_rounded, X10_traceContour, X10_chooseRow, X10_meets, X11_glyph -/
theorem dX6_beginOutline_0 : decode cX6_beginOutline 0 = .ok (.aload_n 2, 1) := by decide +kernel
theorem dX6_beginOutline_1 : decode cX6_beginOutline 1 = .ok (.iconst 0, 1) := by decide +kernel
theorem dX6_beginOutline_2 : decode cX6_beginOutline 2 = .ok (.putfield 136, 3) := by decide +kernel
theorem dX6_beginOutline_5 : decode cX6_beginOutline 5 = .ok (.aload_n 2, 1) := by decide +kernel
theorem dX6_beginOutline_6 : decode cX6_beginOutline 6 = .ok (.iconst 0, 1) := by decide +kernel
theorem dX6_beginOutline_7 : decode cX6_beginOutline 7 = .ok (.putfield 167, 3) := by decide +kernel
theorem dX6_beginOutline_10 : decode cX6_beginOutline 10 = .ok (.aload_n 0, 1) := by decide +kernel
theorem dX6_beginOutline_11 : decode cX6_beginOutline 11 = .ok (.getfield 34, 3) := by decide +kernel
theorem dX6_beginOutline_14 : decode cX6_beginOutline 14 = .ok (.getfield 111, 3) := by decide +kernel
theorem dX6_beginOutline_17 : decode cX6_beginOutline 17 = .ok (.iconst 3, 1) := by decide +kernel
theorem dX6_beginOutline_18 : decode cX6_beginOutline 18 = .ok (.aaload, 1) := by decide +kernel
theorem dX6_beginOutline_19 : decode cX6_beginOutline 19 = .ok (.iload_n 1, 1) := by decide +kernel
theorem dX6_beginOutline_20 : decode cX6_beginOutline 20 = .ok (.iaload, 1) := by decide +kernel
theorem dX6_beginOutline_21 : decode cX6_beginOutline 21 = .ok (.aload_n 0, 1) := by decide +kernel
theorem dX6_beginOutline_22 : decode cX6_beginOutline 22 = .ok (.getfield 34, 3) := by decide +kernel
theorem dX6_beginOutline_25 : decode cX6_beginOutline 25 = .ok (.iload_n 1, 1) := by decide +kernel
theorem dX6_beginOutline_26 : decode cX6_beginOutline 26 = .ok (.invokevirtual 170, 3) := by decide +kernel
theorem dX6_beginOutline_29 : decode cX6_beginOutline 29 = .ok (.isub, 1) := by decide +kernel
theorem dX6_beginOutline_30 : decode cX6_beginOutline 30 = .ok (.istore_n 3, 1) := by decide +kernel
theorem dX6_beginOutline_31 : decode cX6_beginOutline 31 = .ok (.aload_n 2, 1) := by decide +kernel
theorem dX6_beginOutline_32 : decode cX6_beginOutline 32 = .ok (.getfield 115, 3) := by decide +kernel
theorem dX6_beginOutline_35 : decode cX6_beginOutline 35 = .ok (.iconst 0, 1) := by decide +kernel
theorem dX6_beginOutline_36 : decode cX6_beginOutline 36 = .ok (.aload_n 0, 1) := by decide +kernel
theorem dX6_beginOutline_37 : decode cX6_beginOutline 37 = .ok (.getfield 47, 3) := by decide +kernel
theorem dX6_beginOutline_40 : decode cX6_beginOutline 40 = .ok (.iload_n 3, 1) := by decide +kernel
theorem dX6_beginOutline_41 : decode cX6_beginOutline 41 = .ok (.i2l, 1) := by decide +kernel
theorem dX6_beginOutline_42 : decode cX6_beginOutline 42 = .ok (.invokevirtual 174, 3) := by decide +kernel
theorem dX6_beginOutline_45 : decode cX6_beginOutline 45 = .ok (.l2i, 1) := by decide +kernel
theorem dX6_beginOutline_46 : decode cX6_beginOutline 46 = .ok (.iastore, 1) := by decide +kernel
theorem dX6_beginOutline_47 : decode cX6_beginOutline 47 = .ok (.aload_n 2, 1) := by decide +kernel
theorem dX6_beginOutline_48 : decode cX6_beginOutline 48 = .ok (.getfield 115, 3) := by decide +kernel
theorem dX6_beginOutline_51 : decode cX6_beginOutline 51 = .ok (.iconst 1, 1) := by decide +kernel
theorem dX6_beginOutline_52 : decode cX6_beginOutline 52 = .ok (.aload_n 0, 1) := by decide +kernel
theorem dX6_beginOutline_53 : decode cX6_beginOutline 53 = .ok (.getfield 47, 3) := by decide +kernel
theorem dX6_beginOutline_56 : decode cX6_beginOutline 56 = .ok (.iload_n 3, 1) := by decide +kernel
theorem dX6_beginOutline_57 : decode cX6_beginOutline 57 = .ok (.aload_n 0, 1) := by decide +kernel
theorem dX6_beginOutline_58 : decode cX6_beginOutline 58 = .ok (.getfield 34, 3) := by decide +kernel
theorem dX6_beginOutline_61 : decode cX6_beginOutline 61 = .ok (.iload_n 1, 1) := by decide +kernel
theorem dX6_beginOutline_62 : decode cX6_beginOutline 62 = .ok (.invokevirtual 178, 3) := by decide +kernel
theorem dX6_beginOutline_65 : decode cX6_beginOutline 65 = .ok (.iadd, 1) := by decide +kernel
theorem dX6_beginOutline_66 : decode cX6_beginOutline 66 = .ok (.i2l, 1) := by decide +kernel
theorem dX6_beginOutline_67 : decode cX6_beginOutline 67 = .ok (.invokevirtual 174, 3) := by decide +kernel
theorem dX6_beginOutline_70 : decode cX6_beginOutline 70 = .ok (.l2i, 1) := by decide +kernel
theorem dX6_beginOutline_71 : decode cX6_beginOutline 71 = .ok (.iastore, 1) := by decide +kernel
theorem dX6_beginOutline_72 : decode cX6_beginOutline 72 = .ok (.aload_n 2, 1) := by decide +kernel
theorem dX6_beginOutline_73 : decode cX6_beginOutline 73 = .ok (.getfield 181, 3) := by decide +kernel
theorem dX6_beginOutline_76 : decode cX6_beginOutline 76 = .ok (.iconst 0, 1) := by decide +kernel
theorem dX6_beginOutline_77 : decode cX6_beginOutline 77 = .ok (.iconst 0, 1) := by decide +kernel
theorem dX6_beginOutline_78 : decode cX6_beginOutline 78 = .ok (.iastore, 1) := by decide +kernel
theorem dX6_beginOutline_79 : decode cX6_beginOutline 79 = .ok (.aload_n 2, 1) := by decide +kernel
theorem dX6_beginOutline_80 : decode cX6_beginOutline 80 = .ok (.getfield 181, 3) := by decide +kernel
theorem dX6_beginOutline_83 : decode cX6_beginOutline 83 = .ok (.iconst 1, 1) := by decide +kernel
theorem dX6_beginOutline_84 : decode cX6_beginOutline 84 = .ok (.iconst 0, 1) := by decide +kernel
theorem dX6_beginOutline_85 : decode cX6_beginOutline 85 = .ok (.iastore, 1) := by decide +kernel
theorem dX6_beginOutline_86 : decode cX6_beginOutline 86 = .ok (.return_, 1) := by decide +kernel
def F_X6_beginOutline (l1 : Int32) (l2 : Nat) (V : sv_V) : Option sv_V := if lay l2 = .inl 8 then sx_let (sv_I V l2 9 (0 : Int32)) (fun V2 => sx_let (sv_I V2 l2 10 (0 : Int32)) (fun V3 => (cr 7 (3 : Int32).toNatClampNeg).bind (fun b4 => (sv_len 0 b4).bind (fun n6 => if sx_in l1 n6 = true then (F_X2_bearingOf l1 V3).bind (fun (x11, V9) => sx_let ((V3.1 b4 l1.toNatClampNeg) - x11) (fun x12 => (cr l2 7).bind (fun b13 => (F_X5_scaled x12.toInt64 V9).bind (fun (x17, V15) => (sv_len 0 b13).bind (fun n18 => if sx_in (0 : Int32) n18 = true then sx_let (sv_I V15 b13 (0 : Int32).toNatClampNeg x17.toInt32) (fun V21 => (F_X2_advanceOf l1 V21).bind (fun (x24, V22) => (F_X5_scaled ((x12 + x24).toInt64) V22).bind (fun (x27, V25) => if sx_in (1 : Int32) n18 = true then sx_let (sv_I V25 b13 (1 : Int32).toNatClampNeg x27.toInt32) (fun V29 => (cr l2 8).bind (fun b30 => (sv_len 0 b30).bind (fun n32 => if sx_in (0 : Int32) n32 = true then sx_let (sv_I V29 b30 (0 : Int32).toNatClampNeg (0 : Int32)) (fun V35 => if sx_in (1 : Int32) n32 = true then sx_let (sv_I V35 b30 (1 : Int32).toNatClampNeg (0 : Int32)) (fun V37 => some V37) else none) else none))) else none))) else none))))) else none)))) else none
set_option maxRecDepth 20000 in
theorem t_X6_beginOutline {g : sx_G} (hG : sx_Go g) {P : Option Value → sv_V → Prop} {Vr : sv_V} (hP : P none Vr) {l1 : Int32} {l2 : Nat} {V : sv_V} (h : F_X6_beginOutline l1 l2 V = some Vr) : sv_N g qX6_beginOutline 2 0 [(0, .ref 30), (1, .int l1), (2, .ref l2)] [] V P := by
  unfold F_X6_beginOutline at h
  refine sx_aload_n (pc := 0) dX6_beginOutline_0 sx_m2 ?_
  refine sx_iconst (pc := 1) (v := 0) dX6_beginOutline_1 (by decide) ?_
  obtain ⟨g1, h⟩ := sx_grd h
  obtain ⟨V2, hV2⟩ : ∃ z : sv_V, z = sv_I V l2 9 (0 : Int32) := ⟨_, rfl⟩
  have h := sx_letE hV2 h
  refine sv_putI (pc := 2) hG dX6_beginOutline_2 f_6_136 g1 rfl hV2 ?_
  refine sx_aload_n (pc := 5) dX6_beginOutline_5 sx_m2 ?_
  refine sx_iconst (pc := 6) (v := 0) dX6_beginOutline_6 (by decide) ?_
  obtain ⟨V3, hV3⟩ : ∃ z : sv_V, z = sv_I V2 l2 10 (0 : Int32) := ⟨_, rfl⟩
  have h := sx_letE hV3 h
  refine sv_putI (pc := 7) hG dX6_beginOutline_7 f_6_167 g1 rfl hV3 ?_
  refine sx_aload_n (pc := 10) dX6_beginOutline_10 sx_m0 ?_
  refine sv_getO (pc := 11) hG dX6_beginOutline_11 f_6_34 lay_30 rfl cr_30_0 ?_
  refine sv_getA (pc := 14) hG dX6_beginOutline_14 f_6_111 lay_2 rfl cr_2_16 ?_
  refine sx_iconst (pc := 17) (v := 3) dX6_beginOutline_17 (by decide) ?_
  obtain ⟨b4, g5, h⟩ := sx_bnd h
  refine sv_aald (pc := 18) hG dX6_beginOutline_18 (by decide) lay_7 (by decide) g5 ?_
  refine sx_iload_n (pc := 19) dX6_beginOutline_19 sx_m1 ?_
  obtain ⟨n6, g7, h⟩ := sx_bnd h
  obtain ⟨g8, h⟩ := sx_grd h
  refine sv_iald (pc := 20) hG dX6_beginOutline_20 (sv_len_e g7) g8 ?_
  refine sx_aload_n (pc := 21) dX6_beginOutline_21 sx_m0 ?_
  refine sv_getO (pc := 22) hG dX6_beginOutline_22 f_6_34 lay_30 rfl cr_30_0 ?_
  refine sx_iload_n (pc := 25) dX6_beginOutline_25 sx_m1 ?_
  obtain ⟨⟨x11, V9⟩, g10, h⟩ := sx_bnd h
  refine sv_cV (pc := 26) (y := qX2_bearingOf) (o := (some (.int x11))) (as := [.int l1]) (V1 := V9) hG dX6_beginOutline_26 l_X6_170 y0X2_bearingOf yvX2_bearingOf rfl (Nat.le_of_ble_eq_true rfl) lay_2 kr_2 (by decide) (Nat.le_of_ble_eq_true rfl) rfl rfl rfl (t_X2_bearingOf hG ⟨rfl, rfl⟩ g10) ?_
  refine sx_isub (pc := 29) dX6_beginOutline_29 ?_
  refine sv_tI (fun x12 hx12 => ?_)
  have h := sx_letE hx12 h
  refine sx_istore_n (pc := 30) (lo' := [(3, .int x12), (0, .ref 30), (1, .int l1), (2, .ref l2)]) dX6_beginOutline_30 (by decide) rfl ?_
  refine sx_aload_n (pc := 31) dX6_beginOutline_31 sx_m3 ?_
  obtain ⟨b13, g14, h⟩ := sx_bnd h
  refine sv_getA (pc := 32) hG dX6_beginOutline_32 f_6_115 g1 rfl g14 ?_
  refine sx_iconst (pc := 35) (v := 0) dX6_beginOutline_35 (by decide) ?_
  refine sx_aload_n (pc := 36) dX6_beginOutline_36 sx_m1 ?_
  refine sv_getO (pc := 37) hG dX6_beginOutline_37 f_6_47 lay_30 rfl cr_30_2 ?_
  refine sx_iload_n (pc := 40) dX6_beginOutline_40 sx_m0 ?_
  refine sx_i2l (pc := 41) dX6_beginOutline_41 ?_
  obtain ⟨⟨x17, V15⟩, g16, h⟩ := sx_bnd h
  refine sv_cV (pc := 42) (y := qX5_scaled) (o := (some (.long x17))) (as := [.long x12.toInt64]) (V1 := V15) hG dX6_beginOutline_42 l_X6_174 y0X5_scaled yvX5_scaled rfl (Nat.le_of_ble_eq_true rfl) lay_69 kr_5 (by decide) (Nat.le_of_ble_eq_true rfl) rfl rfl rfl (t_X5_scaled hG ⟨rfl, rfl⟩ g16) ?_
  refine sx_l2i (pc := 45) dX6_beginOutline_45 ?_
  obtain ⟨n18, g19, h⟩ := sx_bnd h
  obtain ⟨g20, h⟩ := sx_grd h
  obtain ⟨V21, hV21⟩ : ∃ z : sv_V, z = sv_I V15 b13 (0 : Int32).toNatClampNeg x17.toInt32 := ⟨_, rfl⟩
  have h := sx_letE hV21 h
  refine sv_iast (pc := 46) hG dX6_beginOutline_46 (sv_len_e g19) g20 hV21 ?_
  refine sx_aload_n (pc := 47) dX6_beginOutline_47 sx_m3 ?_
  refine sv_getA (pc := 48) hG dX6_beginOutline_48 f_6_115 g1 rfl g14 ?_
  refine sx_iconst (pc := 51) (v := 1) dX6_beginOutline_51 (by decide) ?_
  refine sx_aload_n (pc := 52) dX6_beginOutline_52 sx_m1 ?_
  refine sv_getO (pc := 53) hG dX6_beginOutline_53 f_6_47 lay_30 rfl cr_30_2 ?_
  refine sx_iload_n (pc := 56) dX6_beginOutline_56 sx_m0 ?_
  refine sx_aload_n (pc := 57) dX6_beginOutline_57 sx_m1 ?_
  refine sv_getO (pc := 58) hG dX6_beginOutline_58 f_6_34 lay_30 rfl cr_30_0 ?_
  refine sx_iload_n (pc := 61) dX6_beginOutline_61 sx_m2 ?_
  obtain ⟨⟨x24, V22⟩, g23, h⟩ := sx_bnd h
  refine sv_cV (pc := 62) (y := qX2_advanceOf) (o := (some (.int x24))) (as := [.int l1]) (V1 := V22) hG dX6_beginOutline_62 l_X6_178 y0X2_advanceOf yvX2_advanceOf rfl (Nat.le_of_ble_eq_true rfl) lay_2 kr_2 (by decide) (Nat.le_of_ble_eq_true rfl) rfl rfl rfl (t_X2_advanceOf hG ⟨rfl, rfl⟩ g23) ?_
  refine sx_iadd (pc := 65) dX6_beginOutline_65 ?_
  refine sx_i2l (pc := 66) dX6_beginOutline_66 ?_
  obtain ⟨⟨x27, V25⟩, g26, h⟩ := sx_bnd h
  refine sv_cV (pc := 67) (y := qX5_scaled) (o := (some (.long x27))) (as := [.long ((x12 + x24).toInt64)]) (V1 := V25) hG dX6_beginOutline_67 l_X6_174 y0X5_scaled yvX5_scaled rfl (Nat.le_of_ble_eq_true rfl) lay_69 kr_5 (by decide) (Nat.le_of_ble_eq_true rfl) rfl rfl rfl (t_X5_scaled hG ⟨rfl, rfl⟩ g26) ?_
  refine sx_l2i (pc := 70) dX6_beginOutline_70 ?_
  obtain ⟨g28, h⟩ := sx_grd h
  obtain ⟨V29, hV29⟩ : ∃ z : sv_V, z = sv_I V25 b13 (1 : Int32).toNatClampNeg x27.toInt32 := ⟨_, rfl⟩
  have h := sx_letE hV29 h
  refine sv_iast (pc := 71) hG dX6_beginOutline_71 (sv_len_e g19) g28 hV29 ?_
  refine sx_aload_n (pc := 72) dX6_beginOutline_72 sx_m3 ?_
  obtain ⟨b30, g31, h⟩ := sx_bnd h
  refine sv_getA (pc := 73) hG dX6_beginOutline_73 f_6_181 g1 rfl g31 ?_
  refine sx_iconst (pc := 76) (v := 0) dX6_beginOutline_76 (by decide) ?_
  refine sx_iconst (pc := 77) (v := 0) dX6_beginOutline_77 (by decide) ?_
  obtain ⟨n32, g33, h⟩ := sx_bnd h
  obtain ⟨g34, h⟩ := sx_grd h
  obtain ⟨V35, hV35⟩ : ∃ z : sv_V, z = sv_I V29 b30 (0 : Int32).toNatClampNeg (0 : Int32) := ⟨_, rfl⟩
  have h := sx_letE hV35 h
  refine sv_iast (pc := 78) hG dX6_beginOutline_78 (sv_len_e g33) g34 hV35 ?_
  refine sx_aload_n (pc := 79) dX6_beginOutline_79 sx_m3 ?_
  refine sv_getA (pc := 80) hG dX6_beginOutline_80 f_6_181 g1 rfl g31 ?_
  refine sx_iconst (pc := 83) (v := 1) dX6_beginOutline_83 (by decide) ?_
  refine sx_iconst (pc := 84) (v := 0) dX6_beginOutline_84 (by decide) ?_
  obtain ⟨g36, h⟩ := sx_grd h
  obtain ⟨V37, hV37⟩ : ∃ z : sv_V, z = sv_I V35 b30 (1 : Int32).toNatClampNeg (0 : Int32) := ⟨_, rfl⟩
  have h := sx_letE hV37 h
  refine sv_iast (pc := 85) hG dX6_beginOutline_85 (sv_len_e g33) g36 hV37 ?_
  exact sv_vret (pc := 86) dX6_beginOutline_86 rfl h hP
theorem dX6_takeOutline_0 : decode cX6_takeOutline 0 = .ok (.aload_n 0, 1) := by decide +kernel
theorem dX6_takeOutline_1 : decode cX6_takeOutline 1 = .ok (.getfield 38, 3) := by decide +kernel
theorem dX6_takeOutline_4 : decode cX6_takeOutline 4 = .ok (.iload_n 1, 1) := by decide +kernel
theorem dX6_takeOutline_5 : decode cX6_takeOutline 5 = .ok (.aload_n 2, 1) := by decide +kernel
theorem dX6_takeOutline_6 : decode cX6_takeOutline 6 = .ok (.invokevirtual 184, 3) := by decide +kernel
theorem dX6_takeOutline_9 : decode cX6_takeOutline 9 = .ok (.pop, 1) := by decide +kernel
theorem dX6_takeOutline_10 : decode cX6_takeOutline 10 = .ok (.iconst 0, 1) := by decide +kernel
theorem dX6_takeOutline_11 : decode cX6_takeOutline 11 = .ok (.istore_n 3, 1) := by decide +kernel
theorem dX6_takeOutline_12 : decode cX6_takeOutline 12 = .ok (.iload_n 3, 1) := by decide +kernel
theorem dX6_takeOutline_13 : decode cX6_takeOutline 13 = .ok (.aload_n 2, 1) := by decide +kernel
theorem dX6_takeOutline_14 : decode cX6_takeOutline 14 = .ok (.getfield 136, 3) := by decide +kernel
theorem dX6_takeOutline_17 : decode cX6_takeOutline 17 = .ok (.if_icmp .ge 51, 3) := by decide +kernel
theorem dX6_takeOutline_20 : decode cX6_takeOutline 20 = .ok (.aload_n 2, 1) := by decide +kernel
theorem dX6_takeOutline_21 : decode cX6_takeOutline 21 = .ok (.getfield 190, 3) := by decide +kernel
theorem dX6_takeOutline_24 : decode cX6_takeOutline 24 = .ok (.iload_n 3, 1) := by decide +kernel
theorem dX6_takeOutline_25 : decode cX6_takeOutline 25 = .ok (.aload_n 0, 1) := by decide +kernel
theorem dX6_takeOutline_26 : decode cX6_takeOutline 26 = .ok (.getfield 47, 3) := by decide +kernel
theorem dX6_takeOutline_29 : decode cX6_takeOutline 29 = .ok (.aload_n 2, 1) := by decide +kernel
theorem dX6_takeOutline_30 : decode cX6_takeOutline 30 = .ok (.getfield 190, 3) := by decide +kernel
theorem dX6_takeOutline_33 : decode cX6_takeOutline 33 = .ok (.iload_n 3, 1) := by decide +kernel
theorem dX6_takeOutline_34 : decode cX6_takeOutline 34 = .ok (.iaload, 1) := by decide +kernel
theorem dX6_takeOutline_35 : decode cX6_takeOutline 35 = .ok (.i2l, 1) := by decide +kernel
theorem dX6_takeOutline_36 : decode cX6_takeOutline 36 = .ok (.invokevirtual 174, 3) := by decide +kernel
theorem dX6_takeOutline_39 : decode cX6_takeOutline 39 = .ok (.l2i, 1) := by decide +kernel
theorem dX6_takeOutline_40 : decode cX6_takeOutline 40 = .ok (.iastore, 1) := by decide +kernel
theorem dX6_takeOutline_41 : decode cX6_takeOutline 41 = .ok (.aload_n 2, 1) := by decide +kernel
theorem dX6_takeOutline_42 : decode cX6_takeOutline 42 = .ok (.getfield 193, 3) := by decide +kernel
theorem dX6_takeOutline_45 : decode cX6_takeOutline 45 = .ok (.iload_n 3, 1) := by decide +kernel
theorem dX6_takeOutline_46 : decode cX6_takeOutline 46 = .ok (.aload_n 0, 1) := by decide +kernel
theorem dX6_takeOutline_47 : decode cX6_takeOutline 47 = .ok (.getfield 47, 3) := by decide +kernel
theorem dX6_takeOutline_50 : decode cX6_takeOutline 50 = .ok (.aload_n 2, 1) := by decide +kernel
theorem dX6_takeOutline_51 : decode cX6_takeOutline 51 = .ok (.getfield 193, 3) := by decide +kernel
theorem dX6_takeOutline_54 : decode cX6_takeOutline 54 = .ok (.iload_n 3, 1) := by decide +kernel
theorem dX6_takeOutline_55 : decode cX6_takeOutline 55 = .ok (.iaload, 1) := by decide +kernel
theorem dX6_takeOutline_56 : decode cX6_takeOutline 56 = .ok (.i2l, 1) := by decide +kernel
theorem dX6_takeOutline_57 : decode cX6_takeOutline 57 = .ok (.invokevirtual 174, 3) := by decide +kernel
theorem dX6_takeOutline_60 : decode cX6_takeOutline 60 = .ok (.l2i, 1) := by decide +kernel
theorem dX6_takeOutline_61 : decode cX6_takeOutline 61 = .ok (.iastore, 1) := by decide +kernel
theorem dX6_takeOutline_62 : decode cX6_takeOutline 62 = .ok (.iinc 3 1, 3) := by decide +kernel
theorem dX6_takeOutline_65 : decode cX6_takeOutline 65 = .ok (.goto (-53), 3) := by decide +kernel
theorem dX6_takeOutline_68 : decode cX6_takeOutline 68 = .ok (.return_, 1) := by decide +kernel
def B_X6_takeOutline_12 (N : Nat) (k12 : Nat → Int32 → sv_V → Option sv_V) (l2 : Nat) (l3 : Int32) (V : sv_V) : Option sv_V := if lay l2 = .inl 8 then if (V.1 l2 9) ≤ l3 then (some V) else ((cr l2 0).bind (fun b3 => (sv_len 0 b3).bind (fun n5 => if sx_in l3 n5 = true then (F_X5_scaled ((V.1 b3 l3.toNatClampNeg).toInt64) V).bind (fun (x10, V8) => if sx_in l3 n5 = true then sx_let (sv_I V8 b3 l3.toNatClampNeg x10.toInt32) (fun V12 => (cr l2 1).bind (fun b13 => (sv_len 0 b13).bind (fun n15 => if sx_in l3 n15 = true then (F_X5_scaled ((V12.1 b13 l3.toNatClampNeg).toInt64) V12).bind (fun (x20, V18) => if sx_in l3 n15 = true then sx_let (sv_I V18 b13 l3.toNatClampNeg x20.toInt32) (fun V22 => sx_let (l3 + 1) (fun x23 => k12 l2 x23 V22)) else none) else none))) else none) else none))) else none
set_option maxRecDepth 20000 in
theorem tB_X6_takeOutline_12 {g : sx_G} (hG : sx_Go g) {P : Option Value → sv_V → Prop} {Vr : sv_V} (hP : P none Vr) {N : Nat} {k12 : Nat → Int32 → sv_V → Option sv_V} (hk12 : ∀ (l2 : Nat) (l3 : Int32) (V : sv_V), k12 l2 l3 V = some Vr → sv_N g qX6_takeOutline 4 12 [(0, .ref 30), (2, .ref l2), (3, .int l3)] [] V P) {l2 : Nat} {l3 : Int32} {V : sv_V} (h : B_X6_takeOutline_12 N k12 l2 l3 V = some Vr) : sv_N g qX6_takeOutline 4 12 [(0, .ref 30), (2, .ref l2), (3, .int l3)] [] V P := by
  unfold B_X6_takeOutline_12 at h
  refine sx_iload_n (pc := 12) dX6_takeOutline_12 sx_m2 ?_
  refine sx_aload_n (pc := 13) dX6_takeOutline_13 sx_m1 ?_
  obtain ⟨g1, h⟩ := sx_grd h
  refine sv_getI (pc := 14) hG dX6_takeOutline_14 f_6_136 g1 rfl ?_
  refine sx_icmp_ge (pc := 17) (tgt := 68) dX6_takeOutline_17 (by decide) (fun c2 => ?_) (fun c2 => ?_)
  · have h := sx_pos c2 h
    exact sv_vret (pc := 68) dX6_takeOutline_68 rfl h hP
  · have h := sx_neg c2 h
    refine sx_aload_n (pc := 20) dX6_takeOutline_20 sx_m1 ?_
    obtain ⟨b3, g4, h⟩ := sx_bnd h
    refine sv_getA (pc := 21) hG dX6_takeOutline_21 f_6_190 g1 rfl g4 ?_
    refine sx_iload_n (pc := 24) dX6_takeOutline_24 sx_m2 ?_
    refine sx_aload_n (pc := 25) dX6_takeOutline_25 sx_m0 ?_
    refine sv_getO (pc := 26) hG dX6_takeOutline_26 f_6_47 lay_30 rfl cr_30_2 ?_
    refine sx_aload_n (pc := 29) dX6_takeOutline_29 sx_m1 ?_
    refine sv_getA (pc := 30) hG dX6_takeOutline_30 f_6_190 g1 rfl g4 ?_
    refine sx_iload_n (pc := 33) dX6_takeOutline_33 sx_m2 ?_
    obtain ⟨n5, g6, h⟩ := sx_bnd h
    obtain ⟨g7, h⟩ := sx_grd h
    refine sv_iald (pc := 34) hG dX6_takeOutline_34 (sv_len_e g6) g7 ?_
    refine sx_i2l (pc := 35) dX6_takeOutline_35 ?_
    obtain ⟨⟨x10, V8⟩, g9, h⟩ := sx_bnd h
    refine sv_cV (pc := 36) (y := qX5_scaled) (o := (some (.long x10))) (as := [.long ((V.1 b3 l3.toNatClampNeg).toInt64)]) (V1 := V8) hG dX6_takeOutline_36 l_X6_174 y0X5_scaled yvX5_scaled rfl (Nat.le_of_ble_eq_true rfl) lay_69 kr_5 (by decide) (Nat.le_of_ble_eq_true rfl) rfl rfl rfl (t_X5_scaled hG ⟨rfl, rfl⟩ g9) ?_
    refine sx_l2i (pc := 39) dX6_takeOutline_39 ?_
    obtain ⟨g11, h⟩ := sx_grd h
    obtain ⟨V12, hV12⟩ : ∃ z : sv_V, z = sv_I V8 b3 l3.toNatClampNeg x10.toInt32 := ⟨_, rfl⟩
    have h := sx_letE hV12 h
    refine sv_iast (pc := 40) hG dX6_takeOutline_40 (sv_len_e g6) g11 hV12 ?_
    refine sx_aload_n (pc := 41) dX6_takeOutline_41 sx_m1 ?_
    obtain ⟨b13, g14, h⟩ := sx_bnd h
    refine sv_getA (pc := 42) hG dX6_takeOutline_42 f_6_193 g1 rfl g14 ?_
    refine sx_iload_n (pc := 45) dX6_takeOutline_45 sx_m2 ?_
    refine sx_aload_n (pc := 46) dX6_takeOutline_46 sx_m0 ?_
    refine sv_getO (pc := 47) hG dX6_takeOutline_47 f_6_47 lay_30 rfl cr_30_2 ?_
    refine sx_aload_n (pc := 50) dX6_takeOutline_50 sx_m1 ?_
    refine sv_getA (pc := 51) hG dX6_takeOutline_51 f_6_193 g1 rfl g14 ?_
    refine sx_iload_n (pc := 54) dX6_takeOutline_54 sx_m2 ?_
    obtain ⟨n15, g16, h⟩ := sx_bnd h
    obtain ⟨g17, h⟩ := sx_grd h
    refine sv_iald (pc := 55) hG dX6_takeOutline_55 (sv_len_e g16) g17 ?_
    refine sx_i2l (pc := 56) dX6_takeOutline_56 ?_
    obtain ⟨⟨x20, V18⟩, g19, h⟩ := sx_bnd h
    refine sv_cV (pc := 57) (y := qX5_scaled) (o := (some (.long x20))) (as := [.long ((V12.1 b13 l3.toNatClampNeg).toInt64)]) (V1 := V18) hG dX6_takeOutline_57 l_X6_174 y0X5_scaled yvX5_scaled rfl (Nat.le_of_ble_eq_true rfl) lay_69 kr_5 (by decide) (Nat.le_of_ble_eq_true rfl) rfl rfl rfl (t_X5_scaled hG ⟨rfl, rfl⟩ g19) ?_
    refine sx_l2i (pc := 60) dX6_takeOutline_60 ?_
    obtain ⟨g21, h⟩ := sx_grd h
    obtain ⟨V22, hV22⟩ : ∃ z : sv_V, z = sv_I V18 b13 l3.toNatClampNeg x20.toInt32 := ⟨_, rfl⟩
    have h := sx_letE hV22 h
    refine sv_iast (pc := 61) hG dX6_takeOutline_61 (sv_len_e g16) g21 hV22 ?_
    obtain ⟨x23, hx23⟩ : ∃ z : Int32, z = l3 + 1 := ⟨_, rfl⟩
    have h := sx_letE hx23 h
    refine sx_iinc (pc := 62) (v := x23) (lo' := [(3, .int x23), (0, .ref 30), (2, .ref l2)]) dX6_takeOutline_62 sx_m2 (by rw [hx23]; rfl) (by decide) rfl ?_
    refine sx_goto (pc := 65) (tgt := 12) dX6_takeOutline_65 (by decide) ?_
    refine sx_wk (sx_s1 sx_m1 (sx_s1 sx_m2 (sx_s1 sx_m0 sx_s0))) ?_
    exact hk12 _ _ _ h
theorem tL_X6_takeOutline_12 {g : sx_G} (hG : sx_Go g) {P : Option Value → sv_V → Prop} {Vr : sv_V} (hP : P none Vr) {N : Nat}   : ∀ (n : Nat) (l2 : Nat) (l3 : Int32) (V : sv_V), sx_lp3 (B_X6_takeOutline_12 N ) n l2 l3 V = some Vr → sv_N g qX6_takeOutline 4 12 [(0, .ref 30), (2, .ref l2), (3, .int l3)] [] V P :=
  sx_lp3_ind (fun k0 ih _ _ V h => tB_X6_takeOutline_12 hG hP ih h)
def F_X6_takeOutline (N : Nat) (l1 : Int32) (l2 : Nat) (V : sv_V) : Option sv_V := (F_X3_readOutline N l1 l2 V).bind (fun (x26, V24) => sx_lp3 (B_X6_takeOutline_12 N ) N l2 (0 : Int32) V24)
set_option maxRecDepth 20000 in
theorem t_X6_takeOutline {g : sx_G} (hG : sx_Go g) {P : Option Value → sv_V → Prop} {Vr : sv_V} (hP : P none Vr) {N : Nat} {l1 : Int32} {l2 : Nat} {V : sv_V} (h : F_X6_takeOutline N l1 l2 V = some Vr) : sv_N g qX6_takeOutline 4 0 [(0, .ref 30), (1, .int l1), (2, .ref l2)] [] V P := by
  unfold F_X6_takeOutline at h
  refine sx_aload_n (pc := 0) dX6_takeOutline_0 sx_m0 ?_
  refine sv_getO (pc := 1) hG dX6_takeOutline_1 f_6_38 lay_30 rfl cr_30_1 ?_
  refine sx_iload_n (pc := 4) dX6_takeOutline_4 sx_m1 ?_
  refine sx_aload_n (pc := 5) dX6_takeOutline_5 sx_m2 ?_
  obtain ⟨⟨x26, V24⟩, g25, h⟩ := sx_bnd h
  refine sv_cV (pc := 6) (y := qX3_readOutline) (o := (some (.int x26))) (as := [.int l1, .ref l2]) (V1 := V24) hG dX6_takeOutline_6 l_X6_184 y0X3_readOutline yvX3_readOutline rfl (Nat.le_of_ble_eq_true rfl) lay_16 kr_3 (by decide) (Nat.le_of_ble_eq_true rfl) rfl rfl rfl (t_X3_readOutline hG ⟨rfl, rfl⟩ g25) ?_
  refine sx_pop (pc := 9) dX6_takeOutline_9 rfl ?_
  refine sx_iconst (pc := 10) (v := 0) dX6_takeOutline_10 (by decide) ?_
  refine sx_istore_n (pc := 11) (lo' := [(3, .int (0 : Int32)), (0, .ref 30), (1, .int l1), (2, .ref l2)]) dX6_takeOutline_11 (by decide) rfl ?_
  refine sx_wk (sx_s1 sx_m1 (sx_s1 sx_m3 (sx_s1 sx_m0 sx_s0))) ?_
  exact tL_X6_takeOutline_12 hG hP  N _ _ _ h
theorem dX6_append_0 : decode cX6_append 0 = .ok (.aload_n 1, 1) := by decide +kernel
theorem dX6_append_1 : decode cX6_append 1 = .ok (.getfield 136, 3) := by decide +kernel
theorem dX6_append_4 : decode cX6_append 4 = .ok (.istore_n 3, 1) := by decide +kernel
theorem dX6_append_5 : decode cX6_append 5 = .ok (.iconst 0, 1) := by decide +kernel
theorem dX6_append_6 : decode cX6_append 6 = .ok (.istore 4, 2) := by decide +kernel
theorem dX6_append_8 : decode cX6_append 8 = .ok (.iload 4, 2) := by decide +kernel
theorem dX6_append_10 : decode cX6_append 10 = .ok (.aload_n 2, 1) := by decide +kernel
theorem dX6_append_11 : decode cX6_append 11 = .ok (.getfield 136, 3) := by decide +kernel
theorem dX6_append_14 : decode cX6_append 14 = .ok (.if_icmp .ge 123, 3) := by decide +kernel
theorem dX6_append_17 : decode cX6_append 17 = .ok (.aload_n 2, 1) := by decide +kernel
theorem dX6_append_18 : decode cX6_append 18 = .ok (.getfield 190, 3) := by decide +kernel
theorem dX6_append_21 : decode cX6_append 21 = .ok (.iload 4, 2) := by decide +kernel
theorem dX6_append_23 : decode cX6_append 23 = .ok (.iaload, 1) := by decide +kernel
theorem dX6_append_24 : decode cX6_append 24 = .ok (.i2l, 1) := by decide +kernel
theorem dX6_append_25 : decode cX6_append 25 = .ok (.lstore 5, 2) := by decide +kernel
theorem dX6_append_27 : decode cX6_append 27 = .ok (.aload_n 2, 1) := by decide +kernel
theorem dX6_append_28 : decode cX6_append 28 = .ok (.getfield 193, 3) := by decide +kernel
theorem dX6_append_31 : decode cX6_append 31 = .ok (.iload 4, 2) := by decide +kernel
theorem dX6_append_33 : decode cX6_append 33 = .ok (.iaload, 1) := by decide +kernel
theorem dX6_append_34 : decode cX6_append 34 = .ok (.i2l, 1) := by decide +kernel
theorem dX6_append_35 : decode cX6_append 35 = .ok (.lstore 7, 2) := by decide +kernel
theorem dX6_append_37 : decode cX6_append 37 = .ok (.aload_n 1, 1) := by decide +kernel
theorem dX6_append_38 : decode cX6_append 38 = .ok (.getfield 190, 3) := by decide +kernel
theorem dX6_append_41 : decode cX6_append 41 = .ok (.iload_n 3, 1) := by decide +kernel
theorem dX6_append_42 : decode cX6_append 42 = .ok (.iload 4, 2) := by decide +kernel
theorem dX6_append_44 : decode cX6_append 44 = .ok (.iadd, 1) := by decide +kernel
theorem dX6_append_45 : decode cX6_append 45 = .ok (.lload 5, 2) := by decide +kernel
theorem dX6_append_47 : decode cX6_append 47 = .ok (.aload_n 0, 1) := by decide +kernel
theorem dX6_append_48 : decode cX6_append 48 = .ok (.getfield 38, 3) := by decide +kernel
theorem dX6_append_51 : decode cX6_append 51 = .ok (.getfield 231, 3) := by decide +kernel
theorem dX6_append_54 : decode cX6_append 54 = .ok (.i2l, 1) := by decide +kernel
theorem dX6_append_55 : decode cX6_append 55 = .ok (.lmul, 1) := by decide +kernel
theorem dX6_append_56 : decode cX6_append 56 = .ok (.lload 7, 2) := by decide +kernel
theorem dX6_append_58 : decode cX6_append 58 = .ok (.aload_n 0, 1) := by decide +kernel
theorem dX6_append_59 : decode cX6_append 59 = .ok (.getfield 38, 3) := by decide +kernel
theorem dX6_append_62 : decode cX6_append 62 = .ok (.getfield 234, 3) := by decide +kernel
theorem dX6_append_65 : decode cX6_append 65 = .ok (.i2l, 1) := by decide +kernel
theorem dX6_append_66 : decode cX6_append 66 = .ok (.lmul, 1) := by decide +kernel
theorem dX6_append_67 : decode cX6_append 67 = .ok (.ladd, 1) := by decide +kernel
theorem dX6_append_68 : decode cX6_append 68 = .ok (.ldc2_w 237, 3) := by decide +kernel
theorem dX6_append_71 : decode cX6_append 71 = .ok (.invokestatic 239, 3) := by decide +kernel
theorem dX6_append_74 : decode cX6_append 74 = .ok (.l2i, 1) := by decide +kernel
theorem dX6_append_75 : decode cX6_append 75 = .ok (.iastore, 1) := by decide +kernel
theorem dX6_append_76 : decode cX6_append 76 = .ok (.aload_n 1, 1) := by decide +kernel
theorem dX6_append_77 : decode cX6_append 77 = .ok (.getfield 193, 3) := by decide +kernel
theorem dX6_append_80 : decode cX6_append 80 = .ok (.iload_n 3, 1) := by decide +kernel
theorem dX6_append_81 : decode cX6_append 81 = .ok (.iload 4, 2) := by decide +kernel
theorem dX6_append_83 : decode cX6_append 83 = .ok (.iadd, 1) := by decide +kernel
theorem dX6_append_84 : decode cX6_append 84 = .ok (.lload 5, 2) := by decide +kernel
theorem dX6_append_86 : decode cX6_append 86 = .ok (.aload_n 0, 1) := by decide +kernel
theorem dX6_append_87 : decode cX6_append 87 = .ok (.getfield 38, 3) := by decide +kernel
theorem dX6_append_90 : decode cX6_append 90 = .ok (.getfield 243, 3) := by decide +kernel
theorem dX6_append_93 : decode cX6_append 93 = .ok (.i2l, 1) := by decide +kernel
theorem dX6_append_94 : decode cX6_append 94 = .ok (.lmul, 1) := by decide +kernel
theorem dX6_append_95 : decode cX6_append 95 = .ok (.lload 7, 2) := by decide +kernel
theorem dX6_append_97 : decode cX6_append 97 = .ok (.aload_n 0, 1) := by decide +kernel
theorem dX6_append_98 : decode cX6_append 98 = .ok (.getfield 38, 3) := by decide +kernel
theorem dX6_append_101 : decode cX6_append 101 = .ok (.getfield 246, 3) := by decide +kernel
theorem dX6_append_104 : decode cX6_append 104 = .ok (.i2l, 1) := by decide +kernel
theorem dX6_append_105 : decode cX6_append 105 = .ok (.lmul, 1) := by decide +kernel
theorem dX6_append_106 : decode cX6_append 106 = .ok (.ladd, 1) := by decide +kernel
theorem dX6_append_107 : decode cX6_append 107 = .ok (.ldc2_w 237, 3) := by decide +kernel
theorem dX6_append_110 : decode cX6_append 110 = .ok (.invokestatic 239, 3) := by decide +kernel
theorem dX6_append_113 : decode cX6_append 113 = .ok (.l2i, 1) := by decide +kernel
theorem dX6_append_114 : decode cX6_append 114 = .ok (.iastore, 1) := by decide +kernel
theorem dX6_append_115 : decode cX6_append 115 = .ok (.aload_n 1, 1) := by decide +kernel
theorem dX6_append_116 : decode cX6_append 116 = .ok (.getfield 249, 3) := by decide +kernel
theorem dX6_append_119 : decode cX6_append 119 = .ok (.iload_n 3, 1) := by decide +kernel
theorem dX6_append_120 : decode cX6_append 120 = .ok (.iload 4, 2) := by decide +kernel
theorem dX6_append_122 : decode cX6_append 122 = .ok (.iadd, 1) := by decide +kernel
theorem dX6_append_123 : decode cX6_append 123 = .ok (.aload_n 2, 1) := by decide +kernel
theorem dX6_append_124 : decode cX6_append 124 = .ok (.getfield 249, 3) := by decide +kernel
theorem dX6_append_127 : decode cX6_append 127 = .ok (.iload 4, 2) := by decide +kernel
theorem dX6_append_129 : decode cX6_append 129 = .ok (.iaload, 1) := by decide +kernel
theorem dX6_append_130 : decode cX6_append 130 = .ok (.iastore, 1) := by decide +kernel
theorem dX6_append_131 : decode cX6_append 131 = .ok (.iinc 4 1, 3) := by decide +kernel
theorem dX6_append_134 : decode cX6_append 134 = .ok (.goto (-126), 3) := by decide +kernel
theorem dX6_append_137 : decode cX6_append 137 = .ok (.iconst 0, 1) := by decide +kernel
theorem dX6_append_138 : decode cX6_append 138 = .ok (.istore 4, 2) := by decide +kernel
theorem dX6_append_140 : decode cX6_append 140 = .ok (.iload 4, 2) := by decide +kernel
theorem dX6_append_142 : decode cX6_append 142 = .ok (.aload_n 2, 1) := by decide +kernel
theorem dX6_append_143 : decode cX6_append 143 = .ok (.getfield 167, 3) := by decide +kernel
theorem dX6_append_146 : decode cX6_append 146 = .ok (.if_icmp .ge 30, 3) := by decide +kernel
theorem dX6_append_149 : decode cX6_append 149 = .ok (.aload_n 1, 1) := by decide +kernel
theorem dX6_append_150 : decode cX6_append 150 = .ok (.getfield 252, 3) := by decide +kernel
theorem dX6_append_153 : decode cX6_append 153 = .ok (.aload_n 1, 1) := by decide +kernel
theorem dX6_append_154 : decode cX6_append 154 = .ok (.getfield 167, 3) := by decide +kernel
theorem dX6_append_157 : decode cX6_append 157 = .ok (.iload 4, 2) := by decide +kernel
theorem dX6_append_159 : decode cX6_append 159 = .ok (.iadd, 1) := by decide +kernel
theorem dX6_append_160 : decode cX6_append 160 = .ok (.iload_n 3, 1) := by decide +kernel
theorem dX6_append_161 : decode cX6_append 161 = .ok (.aload_n 2, 1) := by decide +kernel
theorem dX6_append_162 : decode cX6_append 162 = .ok (.getfield 252, 3) := by decide +kernel
theorem dX6_append_165 : decode cX6_append 165 = .ok (.iload 4, 2) := by decide +kernel
theorem dX6_append_167 : decode cX6_append 167 = .ok (.iaload, 1) := by decide +kernel
theorem dX6_append_168 : decode cX6_append 168 = .ok (.iadd, 1) := by decide +kernel
theorem dX6_append_169 : decode cX6_append 169 = .ok (.iastore, 1) := by decide +kernel
theorem dX6_append_170 : decode cX6_append 170 = .ok (.iinc 4 1, 3) := by decide +kernel
theorem dX6_append_173 : decode cX6_append 173 = .ok (.goto (-33), 3) := by decide +kernel
theorem dX6_append_176 : decode cX6_append 176 = .ok (.aload_n 1, 1) := by decide +kernel
theorem dX6_append_177 : decode cX6_append 177 = .ok (.iload_n 3, 1) := by decide +kernel
theorem dX6_append_178 : decode cX6_append 178 = .ok (.aload_n 2, 1) := by decide +kernel
theorem dX6_append_179 : decode cX6_append 179 = .ok (.getfield 136, 3) := by decide +kernel
theorem dX6_append_182 : decode cX6_append 182 = .ok (.iadd, 1) := by decide +kernel
theorem dX6_append_183 : decode cX6_append 183 = .ok (.putfield 136, 3) := by decide +kernel
theorem dX6_append_186 : decode cX6_append 186 = .ok (.aload_n 1, 1) := by decide +kernel
theorem dX6_append_187 : decode cX6_append 187 = .ok (.dup, 1) := by decide +kernel
theorem dX6_append_188 : decode cX6_append 188 = .ok (.getfield 167, 3) := by decide +kernel
theorem dX6_append_191 : decode cX6_append 191 = .ok (.aload_n 2, 1) := by decide +kernel
theorem dX6_append_192 : decode cX6_append 192 = .ok (.getfield 167, 3) := by decide +kernel
theorem dX6_append_195 : decode cX6_append 195 = .ok (.iadd, 1) := by decide +kernel
theorem dX6_append_196 : decode cX6_append 196 = .ok (.putfield 167, 3) := by decide +kernel
theorem dX6_append_199 : decode cX6_append 199 = .ok (.return_, 1) := by decide +kernel
def B_X6_append_140 (N : Nat) (k140 : Nat → Nat → Int32 → Int32 → sv_V → Option sv_V) (l1 : Nat) (l2 : Nat) (l3 : Int32) (l4 : Int32) (V : sv_V) : Option sv_V := if lay l2 = .inl 8 then if (V.1 l2 10) ≤ l4 then (if lay l1 = .inl 8 then sx_let (sv_I V l1 9 (l3 + (V.1 l2 9))) (fun V4 => sx_let (sv_I V4 l1 10 ((V4.1 l1 10) + (V4.1 l2 10))) (fun V5 => some V5)) else none) else (if lay l1 = .inl 8 then (cr l1 6).bind (fun b7 => (cr l2 6).bind (fun b9 => (sv_len 0 b9).bind (fun n11 => if sx_in l4 n11 = true then (sv_len 0 b7).bind (fun n14 => if sx_in ((V.1 l1 10) + l4) n14 = true then sx_let (sv_I V b7 ((V.1 l1 10) + l4).toNatClampNeg (l3 + (V.1 b9 l4.toNatClampNeg))) (fun V17 => sx_let (l4 + 1) (fun x18 => k140 l1 l2 l3 x18 V17)) else none) else none))) else none) else none
set_option maxRecDepth 20000 in
theorem tB_X6_append_140 {g : sx_G} (hG : sx_Go g) {P : Option Value → sv_V → Prop} {Vr : sv_V} (hP : P none Vr) {N : Nat} {k140 : Nat → Nat → Int32 → Int32 → sv_V → Option sv_V} (hk140 : ∀ (l1 : Nat) (l2 : Nat) (l3 : Int32) (l4 : Int32) (V : sv_V), k140 l1 l2 l3 l4 V = some Vr → sv_N g qX6_append 1 140 [(1, .ref l1), (2, .ref l2), (3, .int l3), (4, .int l4)] [] V P) {l1 : Nat} {l2 : Nat} {l3 : Int32} {l4 : Int32} {V : sv_V} (h : B_X6_append_140 N k140 l1 l2 l3 l4 V = some Vr) : sv_N g qX6_append 1 140 [(1, .ref l1), (2, .ref l2), (3, .int l3), (4, .int l4)] [] V P := by
  unfold B_X6_append_140 at h
  refine sx_iload (pc := 140) dX6_append_140 sx_m3 ?_
  refine sx_aload_n (pc := 142) dX6_append_142 sx_m1 ?_
  obtain ⟨g1, h⟩ := sx_grd h
  refine sv_getI (pc := 143) hG dX6_append_143 f_6_167 g1 rfl ?_
  refine sx_icmp_ge (pc := 146) (tgt := 176) dX6_append_146 (by decide) (fun c2 => ?_) (fun c2 => ?_)
  · have h := sx_pos c2 h
    refine sx_aload_n (pc := 176) dX6_append_176 sx_m0 ?_
    refine sx_iload_n (pc := 177) dX6_append_177 sx_m2 ?_
    refine sx_aload_n (pc := 178) dX6_append_178 sx_m1 ?_
    refine sv_getI (pc := 179) hG dX6_append_179 f_6_136 g1 rfl ?_
    refine sx_iadd (pc := 182) dX6_append_182 ?_
    obtain ⟨g3, h⟩ := sx_grd h
    obtain ⟨V4, hV4⟩ : ∃ z : sv_V, z = sv_I V l1 9 (l3 + (V.1 l2 9)) := ⟨_, rfl⟩
    have h := sx_letE hV4 h
    refine sv_putI (pc := 183) hG dX6_append_183 f_6_136 g3 rfl hV4 ?_
    refine sx_aload_n (pc := 186) dX6_append_186 sx_m0 ?_
    refine sx_dup (pc := 187) dX6_append_187 rfl ?_
    refine sv_getI (pc := 188) hG dX6_append_188 f_6_167 g3 rfl ?_
    refine sx_aload_n (pc := 191) dX6_append_191 sx_m1 ?_
    refine sv_getI (pc := 192) hG dX6_append_192 f_6_167 g1 rfl ?_
    refine sx_iadd (pc := 195) dX6_append_195 ?_
    obtain ⟨V5, hV5⟩ : ∃ z : sv_V, z = sv_I V4 l1 10 ((V4.1 l1 10) + (V4.1 l2 10)) := ⟨_, rfl⟩
    have h := sx_letE hV5 h
    refine sv_putI (pc := 196) hG dX6_append_196 f_6_167 g3 rfl hV5 ?_
    exact sv_vret (pc := 199) dX6_append_199 rfl h hP
  · have h := sx_neg c2 h
    refine sx_aload_n (pc := 149) dX6_append_149 sx_m0 ?_
    obtain ⟨g6, h⟩ := sx_grd h
    obtain ⟨b7, g8, h⟩ := sx_bnd h
    refine sv_getA (pc := 150) hG dX6_append_150 f_6_252 g6 rfl g8 ?_
    refine sx_aload_n (pc := 153) dX6_append_153 sx_m0 ?_
    refine sv_getI (pc := 154) hG dX6_append_154 f_6_167 g6 rfl ?_
    refine sx_iload (pc := 157) dX6_append_157 sx_m3 ?_
    refine sx_iadd (pc := 159) dX6_append_159 ?_
    refine sx_iload_n (pc := 160) dX6_append_160 sx_m2 ?_
    refine sx_aload_n (pc := 161) dX6_append_161 sx_m1 ?_
    obtain ⟨b9, g10, h⟩ := sx_bnd h
    refine sv_getA (pc := 162) hG dX6_append_162 f_6_252 g1 rfl g10 ?_
    refine sx_iload (pc := 165) dX6_append_165 sx_m3 ?_
    obtain ⟨n11, g12, h⟩ := sx_bnd h
    obtain ⟨g13, h⟩ := sx_grd h
    refine sv_iald (pc := 167) hG dX6_append_167 (sv_len_e g12) g13 ?_
    refine sx_iadd (pc := 168) dX6_append_168 ?_
    obtain ⟨n14, g15, h⟩ := sx_bnd h
    obtain ⟨g16, h⟩ := sx_grd h
    obtain ⟨V17, hV17⟩ : ∃ z : sv_V, z = sv_I V b7 ((V.1 l1 10) + l4).toNatClampNeg (l3 + (V.1 b9 l4.toNatClampNeg)) := ⟨_, rfl⟩
    have h := sx_letE hV17 h
    refine sv_iast (pc := 169) hG dX6_append_169 (sv_len_e g15) g16 hV17 ?_
    obtain ⟨x18, hx18⟩ : ∃ z : Int32, z = l4 + 1 := ⟨_, rfl⟩
    have h := sx_letE hx18 h
    refine sx_iinc (pc := 170) (v := x18) (lo' := [(4, .int x18), (1, .ref l1), (2, .ref l2), (3, .int l3)]) dX6_append_170 sx_m3 (by rw [hx18]; rfl) (by decide) rfl ?_
    refine sx_goto (pc := 173) (tgt := 140) dX6_append_173 (by decide) ?_
    refine sx_wk (sx_s1 sx_m1 (sx_s1 sx_m2 (sx_s1 sx_m3 (sx_s1 sx_m0 sx_s0)))) ?_
    exact hk140 _ _ _ _ _ h
theorem tL_X6_append_140 {g : sx_G} (hG : sx_Go g) {P : Option Value → sv_V → Prop} {Vr : sv_V} (hP : P none Vr) {N : Nat}   : ∀ (n : Nat) (l1 : Nat) (l2 : Nat) (l3 : Int32) (l4 : Int32) (V : sv_V), sx_lp5 (B_X6_append_140 N ) n l1 l2 l3 l4 V = some Vr → sv_N g qX6_append 1 140 [(1, .ref l1), (2, .ref l2), (3, .int l3), (4, .int l4)] [] V P :=
  sx_lp5_ind (fun k0 ih _ _ _ _ V h => tB_X6_append_140 hG hP ih h)
def B_X6_append_8 (N : Nat) (k8 : Nat → Nat → Int32 → Int32 → sv_V → Option sv_V) (l1 : Nat) (l2 : Nat) (l3 : Int32) (l4 : Int32) (V : sv_V) : Option sv_V := if lay l2 = .inl 8 then if (V.1 l2 9) ≤ l4 then (sx_lp5 (B_X6_append_140 N ) N l1 l2 l3 (0 : Int32) V) else ((cr l2 0).bind (fun b21 => (sv_len 0 b21).bind (fun n23 => if sx_in l4 n23 = true then sx_let ((V.1 b21 l4.toNatClampNeg).toInt64) (fun x26 => (cr l2 1).bind (fun b27 => (sv_len 0 b27).bind (fun n29 => if sx_in l4 n29 = true then sx_let ((V.1 b27 l4.toNatClampNeg).toInt64) (fun x32 => if lay l1 = .inl 8 then (cr l1 0).bind (fun b34 => (F_X11_nearest ((x26 * ((V.1 16 11).toInt64)) + (x32 * ((V.1 16 13).toInt64))) (16384 : Int64) V).bind (fun (x38, V36) => (sv_len 0 b34).bind (fun n39 => if sx_in (l3 + l4) n39 = true then sx_let (sv_I V36 b34 (l3 + l4).toNatClampNeg x38.toInt32) (fun V42 => (cr l1 1).bind (fun b43 => (F_X11_nearest ((x26 * ((V42.1 16 12).toInt64)) + (x32 * ((V42.1 16 14).toInt64))) (16384 : Int64) V42).bind (fun (x47, V45) => (sv_len 0 b43).bind (fun n48 => if sx_in (l3 + l4) n48 = true then sx_let (sv_I V45 b43 (l3 + l4).toNatClampNeg x47.toInt32) (fun V51 => (cr l1 5).bind (fun b52 => (cr l2 5).bind (fun b54 => (sv_len 0 b54).bind (fun n56 => if sx_in l4 n56 = true then (sv_len 0 b52).bind (fun n59 => if sx_in (l3 + l4) n59 = true then sx_let (sv_I V51 b52 (l3 + l4).toNatClampNeg (V51.1 b54 l4.toNatClampNeg)) (fun V62 => sx_let (l4 + 1) (fun x63 => k8 l1 l2 l3 x63 V62)) else none) else none)))) else none)))) else none))) else none) else none))) else none))) else none
set_option maxRecDepth 20000 in
theorem tB_X6_append_8 {g : sx_G} (hG : sx_Go g) {P : Option Value → sv_V → Prop} {Vr : sv_V} (hP : P none Vr) {N : Nat} {k8 : Nat → Nat → Int32 → Int32 → sv_V → Option sv_V} (hk8 : ∀ (l1 : Nat) (l2 : Nat) (l3 : Int32) (l4 : Int32) (V : sv_V), k8 l1 l2 l3 l4 V = some Vr → sv_N g qX6_append 1 8 [(0, .ref 30), (1, .ref l1), (2, .ref l2), (3, .int l3), (4, .int l4)] [] V P) {l1 : Nat} {l2 : Nat} {l3 : Int32} {l4 : Int32} {V : sv_V} (h : B_X6_append_8 N k8 l1 l2 l3 l4 V = some Vr) : sv_N g qX6_append 1 8 [(0, .ref 30), (1, .ref l1), (2, .ref l2), (3, .int l3), (4, .int l4)] [] V P := by
  unfold B_X6_append_8 at h
  refine sx_iload (pc := 8) dX6_append_8 sx_m4 ?_
  refine sx_aload_n (pc := 10) dX6_append_10 sx_m2 ?_
  obtain ⟨g19, h⟩ := sx_grd h
  refine sv_getI (pc := 11) hG dX6_append_11 f_6_136 g19 rfl ?_
  refine sx_icmp_ge (pc := 14) (tgt := 137) dX6_append_14 (by decide) (fun c20 => ?_) (fun c20 => ?_)
  · have h := sx_pos c20 h
    refine sx_iconst (pc := 137) (v := 0) dX6_append_137 (by decide) ?_
    refine sx_istore (pc := 138) (lo' := [(4, .int (0 : Int32)), (0, .ref 30), (1, .ref l1), (2, .ref l2), (3, .int l3)]) dX6_append_138 (by decide) rfl ?_
    refine sx_wk (sx_s1 sx_m2 (sx_s1 sx_m3 (sx_s1 sx_m4 (sx_s1 sx_m0 sx_s0)))) ?_
    exact tL_X6_append_140 hG hP  N _ _ _ _ _ h
  · have h := sx_neg c20 h
    refine sx_aload_n (pc := 17) dX6_append_17 sx_m2 ?_
    obtain ⟨b21, g22, h⟩ := sx_bnd h
    refine sv_getA (pc := 18) hG dX6_append_18 f_6_190 g19 rfl g22 ?_
    refine sx_iload (pc := 21) dX6_append_21 sx_m4 ?_
    obtain ⟨n23, g24, h⟩ := sx_bnd h
    obtain ⟨g25, h⟩ := sx_grd h
    refine sv_iald (pc := 23) hG dX6_append_23 (sv_len_e g24) g25 ?_
    refine sx_i2l (pc := 24) dX6_append_24 ?_
    refine sv_tJ (fun x26 hx26 => ?_)
    have h := sx_letE hx26 h
    refine sx_lstore (pc := 25) (lo' := [(5, .long x26), (0, .ref 30), (1, .ref l1), (2, .ref l2), (3, .int l3), (4, .int l4)]) dX6_append_25 (by decide) rfl ?_
    refine sx_aload_n (pc := 27) dX6_append_27 sx_m3 ?_
    obtain ⟨b27, g28, h⟩ := sx_bnd h
    refine sv_getA (pc := 28) hG dX6_append_28 f_6_193 g19 rfl g28 ?_
    refine sx_iload (pc := 31) dX6_append_31 sx_m5 ?_
    obtain ⟨n29, g30, h⟩ := sx_bnd h
    obtain ⟨g31, h⟩ := sx_grd h
    refine sv_iald (pc := 33) hG dX6_append_33 (sv_len_e g30) g31 ?_
    refine sx_i2l (pc := 34) dX6_append_34 ?_
    refine sv_tJ (fun x32 hx32 => ?_)
    have h := sx_letE hx32 h
    refine sx_lstore (pc := 35) (lo' := [(7, .long x32), (5, .long x26), (0, .ref 30), (1, .ref l1), (2, .ref l2), (3, .int l3), (4, .int l4)]) dX6_append_35 (by decide) rfl ?_
    refine sx_aload_n (pc := 37) dX6_append_37 sx_m3 ?_
    obtain ⟨g33, h⟩ := sx_grd h
    obtain ⟨b34, g35, h⟩ := sx_bnd h
    refine sv_getA (pc := 38) hG dX6_append_38 f_6_190 g33 rfl g35 ?_
    refine sx_iload_n (pc := 41) dX6_append_41 sx_m5 ?_
    refine sx_iload (pc := 42) dX6_append_42 sx_m6 ?_
    refine sx_iadd (pc := 44) dX6_append_44 ?_
    refine sx_lload (pc := 45) dX6_append_45 sx_m1 ?_
    refine sx_aload_n (pc := 47) dX6_append_47 sx_m2 ?_
    refine sv_getO (pc := 48) hG dX6_append_48 f_6_38 lay_30 rfl cr_30_1 ?_
    refine sv_getI (pc := 51) hG dX6_append_51 f_6_231 lay_16 rfl ?_
    refine sx_i2l (pc := 54) dX6_append_54 ?_
    refine sx_lmul (pc := 55) dX6_append_55 ?_
    refine sx_lload (pc := 56) dX6_append_56 sx_m0 ?_
    refine sx_aload_n (pc := 58) dX6_append_58 sx_m2 ?_
    refine sv_getO (pc := 59) hG dX6_append_59 f_6_38 lay_30 rfl cr_30_1 ?_
    refine sv_getI (pc := 62) hG dX6_append_62 f_6_234 lay_16 rfl ?_
    refine sx_i2l (pc := 65) dX6_append_65 ?_
    refine sx_lmul (pc := 66) dX6_append_66 ?_
    refine sx_ladd (pc := 67) dX6_append_67 ?_
    refine sx_ldc2 (pc := 68) dX6_append_68 k_X6_237 ?_
    obtain ⟨⟨x38, V36⟩, g37, h⟩ := sx_bnd h
    refine sv_cN (pc := 71) (y := qX11_nearest) (o := (some (.long x38))) (as := [.long ((x26 * ((V.1 16 11).toInt64)) + (x32 * ((V.1 16 13).toInt64))), .long (16384 : Int64)]) (V1 := V36) dX6_append_71 n_X6_239 y0X11_nearest ysX11_nearest rfl (Nat.le_of_ble_eq_true rfl) (by decide) (Nat.le_of_ble_eq_true rfl) rfl rfl rfl (t_X11_nearest hG ⟨rfl, rfl⟩ g37) ?_
    refine sx_l2i (pc := 74) dX6_append_74 ?_
    obtain ⟨n39, g40, h⟩ := sx_bnd h
    obtain ⟨g41, h⟩ := sx_grd h
    obtain ⟨V42, hV42⟩ : ∃ z : sv_V, z = sv_I V36 b34 (l3 + l4).toNatClampNeg x38.toInt32 := ⟨_, rfl⟩
    have h := sx_letE hV42 h
    refine sv_iast (pc := 75) hG dX6_append_75 (sv_len_e g40) g41 hV42 ?_
    refine sx_aload_n (pc := 76) dX6_append_76 sx_m3 ?_
    obtain ⟨b43, g44, h⟩ := sx_bnd h
    refine sv_getA (pc := 77) hG dX6_append_77 f_6_193 g33 rfl g44 ?_
    refine sx_iload_n (pc := 80) dX6_append_80 sx_m5 ?_
    refine sx_iload (pc := 81) dX6_append_81 sx_m6 ?_
    refine sx_iadd (pc := 83) dX6_append_83 ?_
    refine sx_lload (pc := 84) dX6_append_84 sx_m1 ?_
    refine sx_aload_n (pc := 86) dX6_append_86 sx_m2 ?_
    refine sv_getO (pc := 87) hG dX6_append_87 f_6_38 lay_30 rfl cr_30_1 ?_
    refine sv_getI (pc := 90) hG dX6_append_90 f_6_243 lay_16 rfl ?_
    refine sx_i2l (pc := 93) dX6_append_93 ?_
    refine sx_lmul (pc := 94) dX6_append_94 ?_
    refine sx_lload (pc := 95) dX6_append_95 sx_m0 ?_
    refine sx_aload_n (pc := 97) dX6_append_97 sx_m2 ?_
    refine sv_getO (pc := 98) hG dX6_append_98 f_6_38 lay_30 rfl cr_30_1 ?_
    refine sv_getI (pc := 101) hG dX6_append_101 f_6_246 lay_16 rfl ?_
    refine sx_i2l (pc := 104) dX6_append_104 ?_
    refine sx_lmul (pc := 105) dX6_append_105 ?_
    refine sx_ladd (pc := 106) dX6_append_106 ?_
    refine sx_ldc2 (pc := 107) dX6_append_107 k_X6_237 ?_
    obtain ⟨⟨x47, V45⟩, g46, h⟩ := sx_bnd h
    refine sv_cN (pc := 110) (y := qX11_nearest) (o := (some (.long x47))) (as := [.long ((x26 * ((V42.1 16 12).toInt64)) + (x32 * ((V42.1 16 14).toInt64))), .long (16384 : Int64)]) (V1 := V45) dX6_append_110 n_X6_239 y0X11_nearest ysX11_nearest rfl (Nat.le_of_ble_eq_true rfl) (by decide) (Nat.le_of_ble_eq_true rfl) rfl rfl rfl (t_X11_nearest hG ⟨rfl, rfl⟩ g46) ?_
    refine sx_l2i (pc := 113) dX6_append_113 ?_
    obtain ⟨n48, g49, h⟩ := sx_bnd h
    obtain ⟨g50, h⟩ := sx_grd h
    obtain ⟨V51, hV51⟩ : ∃ z : sv_V, z = sv_I V45 b43 (l3 + l4).toNatClampNeg x47.toInt32 := ⟨_, rfl⟩
    have h := sx_letE hV51 h
    refine sv_iast (pc := 114) hG dX6_append_114 (sv_len_e g49) g50 hV51 ?_
    refine sx_aload_n (pc := 115) dX6_append_115 sx_m3 ?_
    obtain ⟨b52, g53, h⟩ := sx_bnd h
    refine sv_getA (pc := 116) hG dX6_append_116 f_6_249 g33 rfl g53 ?_
    refine sx_iload_n (pc := 119) dX6_append_119 sx_m5 ?_
    refine sx_iload (pc := 120) dX6_append_120 sx_m6 ?_
    refine sx_iadd (pc := 122) dX6_append_122 ?_
    refine sx_aload_n (pc := 123) dX6_append_123 sx_m4 ?_
    obtain ⟨b54, g55, h⟩ := sx_bnd h
    refine sv_getA (pc := 124) hG dX6_append_124 f_6_249 g19 rfl g55 ?_
    refine sx_iload (pc := 127) dX6_append_127 sx_m6 ?_
    obtain ⟨n56, g57, h⟩ := sx_bnd h
    obtain ⟨g58, h⟩ := sx_grd h
    refine sv_iald (pc := 129) hG dX6_append_129 (sv_len_e g57) g58 ?_
    obtain ⟨n59, g60, h⟩ := sx_bnd h
    obtain ⟨g61, h⟩ := sx_grd h
    obtain ⟨V62, hV62⟩ : ∃ z : sv_V, z = sv_I V51 b52 (l3 + l4).toNatClampNeg (V51.1 b54 l4.toNatClampNeg) := ⟨_, rfl⟩
    have h := sx_letE hV62 h
    refine sv_iast (pc := 130) hG dX6_append_130 (sv_len_e g60) g61 hV62 ?_
    obtain ⟨x63, hx63⟩ : ∃ z : Int32, z = l4 + 1 := ⟨_, rfl⟩
    have h := sx_letE hx63 h
    refine sx_iinc (pc := 131) (v := x63) (lo' := [(4, .int x63), (7, .long x32), (5, .long x26), (0, .ref 30), (1, .ref l1), (2, .ref l2), (3, .int l3)]) dX6_append_131 sx_m6 (by rw [hx63]; rfl) (by decide) rfl ?_
    refine sx_goto (pc := 134) (tgt := 8) dX6_append_134 (by decide) ?_
    refine sx_wk (sx_s1 sx_m3 (sx_s1 sx_m4 (sx_s1 sx_m5 (sx_s1 sx_m6 (sx_s1 sx_m0 sx_s0))))) ?_
    exact hk8 _ _ _ _ _ h
theorem tL_X6_append_8 {g : sx_G} (hG : sx_Go g) {P : Option Value → sv_V → Prop} {Vr : sv_V} (hP : P none Vr) {N : Nat}   : ∀ (n : Nat) (l1 : Nat) (l2 : Nat) (l3 : Int32) (l4 : Int32) (V : sv_V), sx_lp5 (B_X6_append_8 N ) n l1 l2 l3 l4 V = some Vr → sv_N g qX6_append 1 8 [(0, .ref 30), (1, .ref l1), (2, .ref l2), (3, .int l3), (4, .int l4)] [] V P :=
  sx_lp5_ind (fun k0 ih _ _ _ _ V h => tB_X6_append_8 hG hP ih h)
def F_X6_append (N : Nat) (l1 : Nat) (l2 : Nat) (V : sv_V) : Option sv_V := if lay l1 = .inl 8 then sx_let (V.1 l1 9) (fun x65 => sx_lp5 (B_X6_append_8 N ) N l1 l2 x65 (0 : Int32) V) else none
set_option maxRecDepth 20000 in
theorem t_X6_append {g : sx_G} (hG : sx_Go g) {P : Option Value → sv_V → Prop} {Vr : sv_V} (hP : P none Vr) {N : Nat} {l1 : Nat} {l2 : Nat} {V : sv_V} (h : F_X6_append N l1 l2 V = some Vr) : sv_N g qX6_append 1 0 [(0, .ref 30), (1, .ref l1), (2, .ref l2)] [] V P := by
  unfold F_X6_append at h
  refine sx_aload_n (pc := 0) dX6_append_0 sx_m1 ?_
  obtain ⟨g64, h⟩ := sx_grd h
  refine sv_getI (pc := 1) hG dX6_append_1 f_6_136 g64 rfl ?_
  refine sv_tI (fun x65 hx65 => ?_)
  have h := sx_letE hx65 h
  refine sx_istore_n (pc := 4) (lo' := [(3, .int x65), (0, .ref 30), (1, .ref l1), (2, .ref l2)]) dX6_append_4 (by decide) rfl ?_
  refine sx_iconst (pc := 5) (v := 0) dX6_append_5 (by decide) ?_
  refine sx_istore (pc := 6) (lo' := [(4, .int (0 : Int32)), (3, .int x65), (0, .ref 30), (1, .ref l1), (2, .ref l2)]) dX6_append_6 (by decide) rfl ?_
  refine sx_wk (sx_s1 sx_m2 (sx_s1 sx_m3 (sx_s1 sx_m4 (sx_s1 sx_m1 (sx_s1 sx_m0 sx_s0))))) ?_
  exact tL_X6_append_8 hG hP  N _ _ _ _ _ h
theorem dX6_match_0 : decode cX6_match 0 = .ok (.aload_n 0, 1) := by decide +kernel
theorem dX6_match_1 : decode cX6_match 1 = .ok (.getfield 38, 3) := by decide +kernel
theorem dX6_match_4 : decode cX6_match 4 = .ok (.getfield 212, 3) := by decide +kernel
theorem dX6_match_7 : decode cX6_match 7 = .ok (.istore_n 3, 1) := by decide +kernel
theorem dX6_match_8 : decode cX6_match 8 = .ok (.iload_n 2, 1) := by decide +kernel
theorem dX6_match_9 : decode cX6_match 9 = .ok (.aload_n 0, 1) := by decide +kernel
theorem dX6_match_10 : decode cX6_match 10 = .ok (.getfield 38, 3) := by decide +kernel
theorem dX6_match_13 : decode cX6_match 13 = .ok (.getfield 218, 3) := by decide +kernel
theorem dX6_match_16 : decode cX6_match 16 = .ok (.iadd, 1) := by decide +kernel
theorem dX6_match_17 : decode cX6_match 17 = .ok (.istore 4, 2) := by decide +kernel
theorem dX6_match_19 : decode cX6_match 19 = .ok (.iload_n 3, 1) := by decide +kernel
theorem dX6_match_20 : decode cX6_match 20 = .ok (.iload_n 2, 1) := by decide +kernel
theorem dX6_match_21 : decode cX6_match 21 = .ok (.if_icmp .ge 12, 3) := by decide +kernel
theorem dX6_match_24 : decode cX6_match 24 = .ok (.iload 4, 2) := by decide +kernel
theorem dX6_match_26 : decode cX6_match 26 = .ok (.aload_n 1, 1) := by decide +kernel
theorem dX6_match_27 : decode cX6_match 27 = .ok (.getfield 136, 3) := by decide +kernel
theorem dX6_match_30 : decode cX6_match 30 = .ok (.if_icmp .lt 5, 3) := by decide +kernel
theorem dX6_match_33 : decode cX6_match 33 = .ok (.iconst 0, 1) := by decide +kernel
theorem dX6_match_34 : decode cX6_match 34 = .ok (.ireturn, 1) := by decide +kernel
theorem dX6_match_35 : decode cX6_match 35 = .ok (.aload_n 1, 1) := by decide +kernel
theorem dX6_match_36 : decode cX6_match 36 = .ok (.iload_n 2, 1) := by decide +kernel
theorem dX6_match_37 : decode cX6_match 37 = .ok (.aload_n 1, 1) := by decide +kernel
theorem dX6_match_38 : decode cX6_match 38 = .ok (.getfield 190, 3) := by decide +kernel
theorem dX6_match_41 : decode cX6_match 41 = .ok (.iload_n 3, 1) := by decide +kernel
theorem dX6_match_42 : decode cX6_match 42 = .ok (.iaload, 1) := by decide +kernel
theorem dX6_match_43 : decode cX6_match 43 = .ok (.aload_n 1, 1) := by decide +kernel
theorem dX6_match_44 : decode cX6_match 44 = .ok (.getfield 190, 3) := by decide +kernel
theorem dX6_match_47 : decode cX6_match 47 = .ok (.iload 4, 2) := by decide +kernel
theorem dX6_match_49 : decode cX6_match 49 = .ok (.iaload, 1) := by decide +kernel
theorem dX6_match_50 : decode cX6_match 50 = .ok (.isub, 1) := by decide +kernel
theorem dX6_match_51 : decode cX6_match 51 = .ok (.aload_n 1, 1) := by decide +kernel
theorem dX6_match_52 : decode cX6_match 52 = .ok (.getfield 193, 3) := by decide +kernel
theorem dX6_match_55 : decode cX6_match 55 = .ok (.iload_n 3, 1) := by decide +kernel
theorem dX6_match_56 : decode cX6_match 56 = .ok (.iaload, 1) := by decide +kernel
theorem dX6_match_57 : decode cX6_match 57 = .ok (.aload_n 1, 1) := by decide +kernel
theorem dX6_match_58 : decode cX6_match 58 = .ok (.getfield 193, 3) := by decide +kernel
theorem dX6_match_61 : decode cX6_match 61 = .ok (.iload 4, 2) := by decide +kernel
theorem dX6_match_63 : decode cX6_match 63 = .ok (.iaload, 1) := by decide +kernel
theorem dX6_match_64 : decode cX6_match 64 = .ok (.isub, 1) := by decide +kernel
theorem dX6_match_65 : decode cX6_match 65 = .ok (.invokevirtual 121, 3) := by decide +kernel
theorem dX6_match_68 : decode cX6_match 68 = .ok (.iconst 1, 1) := by decide +kernel
theorem dX6_match_69 : decode cX6_match 69 = .ok (.ireturn, 1) := by decide +kernel
def F_X6_match (N : Nat) (l1 : Nat) (l2 : Int32) (V : sv_V) : Option (Int32 × sv_V) := sx_let (V.1 16 9) (fun x1 => sx_let (l2 + (V.1 16 10)) (fun x2 => if l2 ≤ x1 then (some ((0 : Int32), V)) else (if lay l1 = .inl 8 then if x2 < (V.1 l1 9) then ((cr l1 0).bind (fun b6 => (sv_len 0 b6).bind (fun n8 => if sx_in x1 n8 = true then if sx_in x2 n8 = true then (cr l1 1).bind (fun b12 => (sv_len 0 b12).bind (fun n14 => if sx_in x1 n14 = true then if sx_in x2 n14 = true then (F_X8_shift N l1 l2 ((V.1 b6 x1.toNatClampNeg) - (V.1 b6 x2.toNatClampNeg)) ((V.1 b12 x1.toNatClampNeg) - (V.1 b12 x2.toNatClampNeg)) V).bind (fun V18 => some ((1 : Int32), V18)) else none else none)) else none else none))) else (some ((0 : Int32), V)) else none)))
set_option maxRecDepth 20000 in
theorem t_X6_match {g : sx_G} (hG : sx_Go g) {P : Option Value → sv_V → Prop} {r : Int32} {Vr : sv_V} (hP : P (some (.int r)) Vr) {N : Nat} {l1 : Nat} {l2 : Int32} {V : sv_V} (h : F_X6_match N l1 l2 V = some (r, Vr)) : sv_N g qX6_match 1 0 [(0, .ref 30), (1, .ref l1), (2, .int l2)] [] V P := by
  unfold F_X6_match at h
  refine sx_aload_n (pc := 0) dX6_match_0 sx_m0 ?_
  refine sv_getO (pc := 1) hG dX6_match_1 f_6_38 lay_30 rfl cr_30_1 ?_
  refine sv_getI (pc := 4) hG dX6_match_4 f_6_212 lay_16 rfl ?_
  refine sv_tI (fun x1 hx1 => ?_)
  have h := sx_letE hx1 h
  refine sx_istore_n (pc := 7) (lo' := [(3, .int x1), (0, .ref 30), (1, .ref l1), (2, .int l2)]) dX6_match_7 (by decide) rfl ?_
  refine sx_iload_n (pc := 8) dX6_match_8 sx_m3 ?_
  refine sx_aload_n (pc := 9) dX6_match_9 sx_m1 ?_
  refine sv_getO (pc := 10) hG dX6_match_10 f_6_38 lay_30 rfl cr_30_1 ?_
  refine sv_getI (pc := 13) hG dX6_match_13 f_6_218 lay_16 rfl ?_
  refine sx_iadd (pc := 16) dX6_match_16 ?_
  refine sv_tI (fun x2 hx2 => ?_)
  have h := sx_letE hx2 h
  refine sx_istore (pc := 17) (lo' := [(4, .int x2), (3, .int x1), (0, .ref 30), (1, .ref l1), (2, .int l2)]) dX6_match_17 (by decide) rfl ?_
  refine sx_iload_n (pc := 19) dX6_match_19 sx_m1 ?_
  refine sx_iload_n (pc := 20) dX6_match_20 sx_m4 ?_
  refine sx_icmp_ge (pc := 21) (tgt := 33) dX6_match_21 (by decide) (fun c3 => ?_) (fun c3 => ?_)
  · have h := sx_pos c3 h
    refine sx_iconst (pc := 33) (v := 0) dX6_match_33 (by decide) ?_
    exact sv_zret (pc := 34) dX6_match_34 rfl rfl h hP
  · have h := sx_neg c3 h
    refine sx_iload (pc := 24) dX6_match_24 sx_m0 ?_
    refine sx_aload_n (pc := 26) dX6_match_26 sx_m3 ?_
    obtain ⟨g4, h⟩ := sx_grd h
    refine sv_getI (pc := 27) hG dX6_match_27 f_6_136 g4 rfl ?_
    refine sx_icmp_lt (pc := 30) (tgt := 35) dX6_match_30 (by decide) (fun c5 => ?_) (fun c5 => ?_)
    · have h := sx_pos c5 h
      refine sx_aload_n (pc := 35) dX6_match_35 sx_m3 ?_
      refine sx_iload_n (pc := 36) dX6_match_36 sx_m4 ?_
      refine sx_aload_n (pc := 37) dX6_match_37 sx_m3 ?_
      obtain ⟨b6, g7, h⟩ := sx_bnd h
      refine sv_getA (pc := 38) hG dX6_match_38 f_6_190 g4 rfl g7 ?_
      refine sx_iload_n (pc := 41) dX6_match_41 sx_m1 ?_
      obtain ⟨n8, g9, h⟩ := sx_bnd h
      obtain ⟨g10, h⟩ := sx_grd h
      refine sv_iald (pc := 42) hG dX6_match_42 (sv_len_e g9) g10 ?_
      refine sx_aload_n (pc := 43) dX6_match_43 sx_m3 ?_
      refine sv_getA (pc := 44) hG dX6_match_44 f_6_190 g4 rfl g7 ?_
      refine sx_iload (pc := 47) dX6_match_47 sx_m0 ?_
      obtain ⟨g11, h⟩ := sx_grd h
      refine sv_iald (pc := 49) hG dX6_match_49 (sv_len_e g9) g11 ?_
      refine sx_isub (pc := 50) dX6_match_50 ?_
      refine sx_aload_n (pc := 51) dX6_match_51 sx_m3 ?_
      obtain ⟨b12, g13, h⟩ := sx_bnd h
      refine sv_getA (pc := 52) hG dX6_match_52 f_6_193 g4 rfl g13 ?_
      refine sx_iload_n (pc := 55) dX6_match_55 sx_m1 ?_
      obtain ⟨n14, g15, h⟩ := sx_bnd h
      obtain ⟨g16, h⟩ := sx_grd h
      refine sv_iald (pc := 56) hG dX6_match_56 (sv_len_e g15) g16 ?_
      refine sx_aload_n (pc := 57) dX6_match_57 sx_m3 ?_
      refine sv_getA (pc := 58) hG dX6_match_58 f_6_193 g4 rfl g13 ?_
      refine sx_iload (pc := 61) dX6_match_61 sx_m0 ?_
      obtain ⟨g17, h⟩ := sx_grd h
      refine sv_iald (pc := 63) hG dX6_match_63 (sv_len_e g15) g17 ?_
      refine sx_isub (pc := 64) dX6_match_64 ?_
      obtain ⟨V18, g19, h⟩ := sx_bnd h
      refine sv_cV (pc := 65) (y := qX8_shift) (o := none) (as := [.int l2, .int ((V.1 b6 x1.toNatClampNeg) - (V.1 b6 x2.toNatClampNeg)), .int ((V.1 b12 x1.toNatClampNeg) - (V.1 b12 x2.toNatClampNeg))]) (V1 := V18) hG dX6_match_65 l_X6_121 y0X8_shift yvX8_shift rfl (Nat.le_of_ble_eq_true rfl) g4 kr_8 (by decide) (Nat.le_of_ble_eq_true rfl) rfl rfl rfl (t_X8_shift hG ⟨rfl, rfl⟩ g19) ?_
      refine sx_iconst (pc := 68) (v := 1) dX6_match_68 (by decide) ?_
      exact sv_zret (pc := 69) dX6_match_69 rfl rfl h hP
    · have h := sx_neg c5 h
      refine sx_iconst (pc := 33) (v := 0) dX6_match_33 (by decide) ?_
      exact sv_zret (pc := 34) dX6_match_34 rfl rfl h hP
theorem dX7_copyFrom_0 : decode cX7_copyFrom 0 = .ok (.aload_n 0, 1) := by decide +kernel
theorem dX7_copyFrom_1 : decode cX7_copyFrom 1 = .ok (.aload_n 1, 1) := by decide +kernel
theorem dX7_copyFrom_2 : decode cX7_copyFrom 2 = .ok (.getfield 44, 3) := by decide +kernel
theorem dX7_copyFrom_5 : decode cX7_copyFrom 5 = .ok (.putfield 44, 3) := by decide +kernel
theorem dX7_copyFrom_8 : decode cX7_copyFrom 8 = .ok (.aload_n 0, 1) := by decide +kernel
theorem dX7_copyFrom_9 : decode cX7_copyFrom 9 = .ok (.aload_n 1, 1) := by decide +kernel
theorem dX7_copyFrom_10 : decode cX7_copyFrom 10 = .ok (.getfield 67, 3) := by decide +kernel
theorem dX7_copyFrom_13 : decode cX7_copyFrom 13 = .ok (.putfield 67, 3) := by decide +kernel
theorem dX7_copyFrom_16 : decode cX7_copyFrom 16 = .ok (.aload_n 1, 1) := by decide +kernel
theorem dX7_copyFrom_17 : decode cX7_copyFrom 17 = .ok (.getfield 9, 3) := by decide +kernel
theorem dX7_copyFrom_20 : decode cX7_copyFrom 20 = .ok (.iconst 0, 1) := by decide +kernel
theorem dX7_copyFrom_21 : decode cX7_copyFrom 21 = .ok (.aload_n 0, 1) := by decide +kernel
theorem dX7_copyFrom_22 : decode cX7_copyFrom 22 = .ok (.getfield 9, 3) := by decide +kernel
theorem dX7_copyFrom_25 : decode cX7_copyFrom 25 = .ok (.iconst 0, 1) := by decide +kernel
theorem dX7_copyFrom_26 : decode cX7_copyFrom 26 = .ok (.aload_n 0, 1) := by decide +kernel
theorem dX7_copyFrom_27 : decode cX7_copyFrom 27 = .ok (.getfield 44, 3) := by decide +kernel
theorem dX7_copyFrom_30 : decode cX7_copyFrom 30 = .ok (.invokestatic 80, 3) := by decide +kernel
theorem dX7_copyFrom_33 : decode cX7_copyFrom 33 = .ok (.aload_n 1, 1) := by decide +kernel
theorem dX7_copyFrom_34 : decode cX7_copyFrom 34 = .ok (.getfield 15, 3) := by decide +kernel
theorem dX7_copyFrom_37 : decode cX7_copyFrom 37 = .ok (.iconst 0, 1) := by decide +kernel
theorem dX7_copyFrom_38 : decode cX7_copyFrom 38 = .ok (.aload_n 0, 1) := by decide +kernel
theorem dX7_copyFrom_39 : decode cX7_copyFrom 39 = .ok (.getfield 15, 3) := by decide +kernel
theorem dX7_copyFrom_42 : decode cX7_copyFrom 42 = .ok (.iconst 0, 1) := by decide +kernel
theorem dX7_copyFrom_43 : decode cX7_copyFrom 43 = .ok (.aload_n 0, 1) := by decide +kernel
theorem dX7_copyFrom_44 : decode cX7_copyFrom 44 = .ok (.getfield 67, 3) := by decide +kernel
theorem dX7_copyFrom_47 : decode cX7_copyFrom 47 = .ok (.invokestatic 80, 3) := by decide +kernel
theorem dX7_copyFrom_50 : decode cX7_copyFrom 50 = .ok (.aload_n 0, 1) := by decide +kernel
theorem dX7_copyFrom_51 : decode cX7_copyFrom 51 = .ok (.getfield 23, 3) := by decide +kernel
theorem dX7_copyFrom_54 : decode cX7_copyFrom 54 = .ok (.aload_n 1, 1) := by decide +kernel
theorem dX7_copyFrom_55 : decode cX7_copyFrom 55 = .ok (.getfield 23, 3) := by decide +kernel
theorem dX7_copyFrom_58 : decode cX7_copyFrom 58 = .ok (.invokevirtual 86, 3) := by decide +kernel
theorem dX7_copyFrom_61 : decode cX7_copyFrom 61 = .ok (.aload_n 1, 1) := by decide +kernel
theorem dX7_copyFrom_62 : decode cX7_copyFrom 62 = .ok (.getfield 30, 3) := by decide +kernel
theorem dX7_copyFrom_65 : decode cX7_copyFrom 65 = .ok (.iconst 0, 1) := by decide +kernel
theorem dX7_copyFrom_66 : decode cX7_copyFrom 66 = .ok (.aload_n 0, 1) := by decide +kernel
theorem dX7_copyFrom_67 : decode cX7_copyFrom 67 = .ok (.getfield 30, 3) := by decide +kernel
theorem dX7_copyFrom_70 : decode cX7_copyFrom 70 = .ok (.iconst 0, 1) := by decide +kernel
theorem dX7_copyFrom_71 : decode cX7_copyFrom 71 = .ok (.aload_n 0, 1) := by decide +kernel
theorem dX7_copyFrom_72 : decode cX7_copyFrom 72 = .ok (.getfield 30, 3) := by decide +kernel
theorem dX7_copyFrom_75 : decode cX7_copyFrom 75 = .ok (.arraylength, 1) := by decide +kernel
theorem dX7_copyFrom_76 : decode cX7_copyFrom 76 = .ok (.invokestatic 80, 3) := by decide +kernel
theorem dX7_copyFrom_79 : decode cX7_copyFrom 79 = .ok (.return_, 1) := by decide +kernel
def F_X7_copyFrom (l0 : Nat) (l1 : Nat) (V : sv_V) : Option sv_V := if lay l1 = .inl 7 then if lay l0 = .inl 7 then sx_let (sv_I V l0 1 (V.1 l1 1)) (fun V3 => sx_let (sv_I V3 l0 3 (V3.1 l1 3)) (fun V4 => (cr l1 0).bind (fun b5 => (cr l0 0).bind (fun b7 => (sv_len 0 b5).bind (fun n9 => (sv_len 0 b7).bind (fun n11 => if sv_cpo (0 : Int32) (V4.1 l0 1) n9 = true then if sv_cpo (0 : Int32) (V4.1 l0 1) n11 = true then sx_let (sv_C V4 b5 (0 : Int32).toNatClampNeg b7 (0 : Int32).toNatClampNeg (V4.1 l0 1).toNatClampNeg) (fun V15 => (cr l1 2).bind (fun b16 => (cr l0 2).bind (fun b18 => (sv_len 0 b16).bind (fun n20 => (sv_len 0 b18).bind (fun n22 => if sv_cpo (0 : Int32) (V15.1 l0 3) n20 = true then if sv_cpo (0 : Int32) (V15.1 l0 3) n22 = true then sx_let (sv_C V15 b16 (0 : Int32).toNatClampNeg b18 (0 : Int32).toNatClampNeg (V15.1 l0 3).toNatClampNeg) (fun V26 => (cr l0 4).bind (fun b27 => (cr l1 4).bind (fun b29 => (F_X8_copyFrom b27 b29 V26).bind (fun V31 => if lay b27 = .inl 8 then (cr l1 5).bind (fun b34 => (cr l0 5).bind (fun b36 => (sv_len 0 b36).bind (fun n38 => (sv_len 0 b34).bind (fun n40 => if sv_cpo (0 : Int32) (Int32.ofNat n38) n40 = true then if sv_cpo (0 : Int32) (Int32.ofNat n38) n38 = true then sx_let (sv_C V31 b34 (0 : Int32).toNatClampNeg b36 (0 : Int32).toNatClampNeg (Int32.ofNat n38).toNatClampNeg) (fun V44 => some V44) else none else none)))) else none)))) else none else none))))) else none else none)))))) else none else none
set_option maxRecDepth 20000 in
theorem t_X7_copyFrom {g : sx_G} (hG : sx_Go g) {P : Option Value → sv_V → Prop} {Vr : sv_V} (hP : P none Vr) {l0 : Nat} {l1 : Nat} {V : sv_V} (h : F_X7_copyFrom l0 l1 V = some Vr) : sv_N g qX7_copyFrom 2 0 [(0, .ref l0), (1, .ref l1)] [] V P := by
  unfold F_X7_copyFrom at h
  refine sx_aload_n (pc := 0) dX7_copyFrom_0 sx_m0 ?_
  refine sx_aload_n (pc := 1) dX7_copyFrom_1 sx_m1 ?_
  obtain ⟨g1, h⟩ := sx_grd h
  refine sv_getI (pc := 2) hG dX7_copyFrom_2 f_7_44 g1 rfl ?_
  obtain ⟨g2, h⟩ := sx_grd h
  obtain ⟨V3, hV3⟩ : ∃ z : sv_V, z = sv_I V l0 1 (V.1 l1 1) := ⟨_, rfl⟩
  have h := sx_letE hV3 h
  refine sv_putI (pc := 5) hG dX7_copyFrom_5 f_7_44 g2 rfl hV3 ?_
  refine sx_aload_n (pc := 8) dX7_copyFrom_8 sx_m0 ?_
  refine sx_aload_n (pc := 9) dX7_copyFrom_9 sx_m1 ?_
  refine sv_getI (pc := 10) hG dX7_copyFrom_10 f_7_67 g1 rfl ?_
  obtain ⟨V4, hV4⟩ : ∃ z : sv_V, z = sv_I V3 l0 3 (V3.1 l1 3) := ⟨_, rfl⟩
  have h := sx_letE hV4 h
  refine sv_putI (pc := 13) hG dX7_copyFrom_13 f_7_67 g2 rfl hV4 ?_
  refine sx_aload_n (pc := 16) dX7_copyFrom_16 sx_m1 ?_
  obtain ⟨b5, g6, h⟩ := sx_bnd h
  refine sv_getA (pc := 17) hG dX7_copyFrom_17 f_7_9 g1 rfl g6 ?_
  refine sx_iconst (pc := 20) (v := 0) dX7_copyFrom_20 (by decide) ?_
  refine sx_aload_n (pc := 21) dX7_copyFrom_21 sx_m0 ?_
  obtain ⟨b7, g8, h⟩ := sx_bnd h
  refine sv_getA (pc := 22) hG dX7_copyFrom_22 f_7_9 g2 rfl g8 ?_
  refine sx_iconst (pc := 25) (v := 0) dX7_copyFrom_25 (by decide) ?_
  refine sx_aload_n (pc := 26) dX7_copyFrom_26 sx_m0 ?_
  refine sv_getI (pc := 27) hG dX7_copyFrom_27 f_7_44 g2 rfl ?_
  obtain ⟨n9, g10, h⟩ := sx_bnd h
  obtain ⟨n11, g12, h⟩ := sx_bnd h
  obtain ⟨g13, h⟩ := sx_grd h
  obtain ⟨g14, h⟩ := sx_grd h
  obtain ⟨V15, hV15⟩ : ∃ z : sv_V, z = sv_C V4 b5 (0 : Int32).toNatClampNeg b7 (0 : Int32).toNatClampNeg (V4.1 l0 1).toNatClampNeg := ⟨_, rfl⟩
  have h := sx_letE hV15 h
  refine sv_copyI (pc := 30) hG dX7_copyFrom_30 l_X7_80 (sv_len_e g10) (sv_len_e g12) g13 g14 (by decide) (Nat.le_of_ble_eq_true rfl) hV15 ?_
  refine sx_aload_n (pc := 33) dX7_copyFrom_33 sx_m1 ?_
  obtain ⟨b16, g17, h⟩ := sx_bnd h
  refine sv_getA (pc := 34) hG dX7_copyFrom_34 f_7_15 g1 rfl g17 ?_
  refine sx_iconst (pc := 37) (v := 0) dX7_copyFrom_37 (by decide) ?_
  refine sx_aload_n (pc := 38) dX7_copyFrom_38 sx_m0 ?_
  obtain ⟨b18, g19, h⟩ := sx_bnd h
  refine sv_getA (pc := 39) hG dX7_copyFrom_39 f_7_15 g2 rfl g19 ?_
  refine sx_iconst (pc := 42) (v := 0) dX7_copyFrom_42 (by decide) ?_
  refine sx_aload_n (pc := 43) dX7_copyFrom_43 sx_m0 ?_
  refine sv_getI (pc := 44) hG dX7_copyFrom_44 f_7_67 g2 rfl ?_
  obtain ⟨n20, g21, h⟩ := sx_bnd h
  obtain ⟨n22, g23, h⟩ := sx_bnd h
  obtain ⟨g24, h⟩ := sx_grd h
  obtain ⟨g25, h⟩ := sx_grd h
  obtain ⟨V26, hV26⟩ : ∃ z : sv_V, z = sv_C V15 b16 (0 : Int32).toNatClampNeg b18 (0 : Int32).toNatClampNeg (V15.1 l0 3).toNatClampNeg := ⟨_, rfl⟩
  have h := sx_letE hV26 h
  refine sv_copyI (pc := 47) hG dX7_copyFrom_47 l_X7_80 (sv_len_e g21) (sv_len_e g23) g24 g25 (by decide) (Nat.le_of_ble_eq_true rfl) hV26 ?_
  refine sx_aload_n (pc := 50) dX7_copyFrom_50 sx_m0 ?_
  obtain ⟨b27, g28, h⟩ := sx_bnd h
  refine sv_getO (pc := 51) hG dX7_copyFrom_51 f_7_23 g2 rfl g28 ?_
  refine sx_aload_n (pc := 54) dX7_copyFrom_54 sx_m1 ?_
  obtain ⟨b29, g30, h⟩ := sx_bnd h
  refine sv_getO (pc := 55) hG dX7_copyFrom_55 f_7_23 g1 rfl g30 ?_
  obtain ⟨V31, g32, h⟩ := sx_bnd h
  obtain ⟨g33, h⟩ := sx_grd h
  refine sv_cV (pc := 58) (y := qX8_copyFrom) (o := none) (as := [.ref b29]) (V1 := V31) hG dX7_copyFrom_58 l_X7_86 y0X8_copyFrom yvX8_copyFrom rfl (Nat.le_of_ble_eq_true rfl) g33 kr_8 (by decide) (Nat.le_of_ble_eq_true rfl) rfl rfl rfl (t_X8_copyFrom hG ⟨rfl, rfl⟩ g32) ?_
  refine sx_aload_n (pc := 61) dX7_copyFrom_61 sx_m1 ?_
  obtain ⟨b34, g35, h⟩ := sx_bnd h
  refine sv_getA (pc := 62) hG dX7_copyFrom_62 f_7_30 g1 rfl g35 ?_
  refine sx_iconst (pc := 65) (v := 0) dX7_copyFrom_65 (by decide) ?_
  refine sx_aload_n (pc := 66) dX7_copyFrom_66 sx_m0 ?_
  obtain ⟨b36, g37, h⟩ := sx_bnd h
  refine sv_getA (pc := 67) hG dX7_copyFrom_67 f_7_30 g2 rfl g37 ?_
  refine sx_iconst (pc := 70) (v := 0) dX7_copyFrom_70 (by decide) ?_
  refine sx_aload_n (pc := 71) dX7_copyFrom_71 sx_m0 ?_
  refine sv_getA (pc := 72) hG dX7_copyFrom_72 f_7_30 g2 rfl g37 ?_
  obtain ⟨n38, g39, h⟩ := sx_bnd h
  refine sv_alen (pc := 75) hG dX7_copyFrom_75 (by decide) (sv_len_e g39) ?_
  obtain ⟨n40, g41, h⟩ := sx_bnd h
  obtain ⟨g42, h⟩ := sx_grd h
  obtain ⟨g43, h⟩ := sx_grd h
  obtain ⟨V44, hV44⟩ : ∃ z : sv_V, z = sv_C V31 b34 (0 : Int32).toNatClampNeg b36 (0 : Int32).toNatClampNeg (Int32.ofNat n38).toNatClampNeg := ⟨_, rfl⟩
  have h := sx_letE hV44 h
  refine sv_copyI (pc := 76) hG dX7_copyFrom_76 l_X7_80 (sv_len_e g41) (sv_len_e g39) g42 g43 (by decide) (Nat.le_of_ble_eq_true rfl) hV44 ?_
  exact sv_vret (pc := 79) dX7_copyFrom_79 rfl h hP
theorem dX8_clearTo_0 : decode cX8_clearTo 0 = .ok (.aload_n 0, 1) := by decide +kernel
theorem dX8_clearTo_1 : decode cX8_clearTo 1 = .ok (.iload_n 1, 1) := by decide +kernel
theorem dX8_clearTo_2 : decode cX8_clearTo 2 = .ok (.putfield 43, 3) := by decide +kernel
theorem dX8_clearTo_5 : decode cX8_clearTo 5 = .ok (.aload_n 0, 1) := by decide +kernel
theorem dX8_clearTo_6 : decode cX8_clearTo 6 = .ok (.iconst 0, 1) := by decide +kernel
theorem dX8_clearTo_7 : decode cX8_clearTo 7 = .ok (.putfield 46, 3) := by decide +kernel
theorem dX8_clearTo_10 : decode cX8_clearTo 10 = .ok (.aload_n 0, 1) := by decide +kernel
theorem dX8_clearTo_11 : decode cX8_clearTo 11 = .ok (.getfield 21, 3) := by decide +kernel
theorem dX8_clearTo_14 : decode cX8_clearTo 14 = .ok (.iconst 0, 1) := by decide +kernel
theorem dX8_clearTo_15 : decode cX8_clearTo 15 = .ok (.invokestatic 49, 3) := by decide +kernel
theorem dX8_clearTo_18 : decode cX8_clearTo 18 = .ok (.aload_n 0, 1) := by decide +kernel
theorem dX8_clearTo_19 : decode cX8_clearTo 19 = .ok (.getfield 24, 3) := by decide +kernel
theorem dX8_clearTo_22 : decode cX8_clearTo 22 = .ok (.iconst 0, 1) := by decide +kernel
theorem dX8_clearTo_23 : decode cX8_clearTo 23 = .ok (.invokestatic 49, 3) := by decide +kernel
theorem dX8_clearTo_26 : decode cX8_clearTo 26 = .ok (.aload_n 0, 1) := by decide +kernel
theorem dX8_clearTo_27 : decode cX8_clearTo 27 = .ok (.getfield 27, 3) := by decide +kernel
theorem dX8_clearTo_30 : decode cX8_clearTo 30 = .ok (.iconst 0, 1) := by decide +kernel
theorem dX8_clearTo_31 : decode cX8_clearTo 31 = .ok (.invokestatic 49, 3) := by decide +kernel
theorem dX8_clearTo_34 : decode cX8_clearTo 34 = .ok (.aload_n 0, 1) := by decide +kernel
theorem dX8_clearTo_35 : decode cX8_clearTo 35 = .ok (.getfield 30, 3) := by decide +kernel
theorem dX8_clearTo_38 : decode cX8_clearTo 38 = .ok (.iconst 0, 1) := by decide +kernel
theorem dX8_clearTo_39 : decode cX8_clearTo 39 = .ok (.invokestatic 49, 3) := by decide +kernel
theorem dX8_clearTo_42 : decode cX8_clearTo 42 = .ok (.aload_n 0, 1) := by decide +kernel
theorem dX8_clearTo_43 : decode cX8_clearTo 43 = .ok (.getfield 33, 3) := by decide +kernel
theorem dX8_clearTo_46 : decode cX8_clearTo 46 = .ok (.iconst 0, 1) := by decide +kernel
theorem dX8_clearTo_47 : decode cX8_clearTo 47 = .ok (.invokestatic 49, 3) := by decide +kernel
theorem dX8_clearTo_50 : decode cX8_clearTo 50 = .ok (.return_, 1) := by decide +kernel
def F_X8_clearTo (N : Nat) (l0 : Nat) (l1 : Int32) (V : sv_V) : Option sv_V := if lay l0 = .inl 8 then sx_let (sv_I V l0 9 l1) (fun V2 => sx_let (sv_I V2 l0 10 (0 : Int32)) (fun V3 => (cr l0 0).bind (fun b4 => (F_J7_fill_53178 N b4 (0 : Int32) V3).bind (fun V6 => (cr l0 1).bind (fun b8 => (F_J7_fill_53178 N b8 (0 : Int32) V6).bind (fun V10 => (cr l0 2).bind (fun b12 => (F_J7_fill_53178 N b12 (0 : Int32) V10).bind (fun V14 => (cr l0 3).bind (fun b16 => (F_J7_fill_53178 N b16 (0 : Int32) V14).bind (fun V18 => (cr l0 4).bind (fun b20 => (F_J7_fill_53178 N b20 (0 : Int32) V18).bind (fun V22 => some V22)))))))))))) else none
set_option maxRecDepth 20000 in
theorem t_X8_clearTo {g : sx_G} (hG : sx_Go g) {P : Option Value → sv_V → Prop} {Vr : sv_V} (hP : P none Vr) {N : Nat} {l0 : Nat} {l1 : Int32} {V : sv_V} (h : F_X8_clearTo N l0 l1 V = some Vr) : sv_N g qX8_clearTo 1 0 [(0, .ref l0), (1, .int l1)] [] V P := by
  unfold F_X8_clearTo at h
  refine sx_aload_n (pc := 0) dX8_clearTo_0 sx_m0 ?_
  refine sx_iload_n (pc := 1) dX8_clearTo_1 sx_m1 ?_
  obtain ⟨g1, h⟩ := sx_grd h
  obtain ⟨V2, hV2⟩ : ∃ z : sv_V, z = sv_I V l0 9 l1 := ⟨_, rfl⟩
  have h := sx_letE hV2 h
  refine sv_putI (pc := 2) hG dX8_clearTo_2 f_8_43 g1 rfl hV2 ?_
  refine sx_aload_n (pc := 5) dX8_clearTo_5 sx_m0 ?_
  refine sx_iconst (pc := 6) (v := 0) dX8_clearTo_6 (by decide) ?_
  obtain ⟨V3, hV3⟩ : ∃ z : sv_V, z = sv_I V2 l0 10 (0 : Int32) := ⟨_, rfl⟩
  have h := sx_letE hV3 h
  refine sv_putI (pc := 7) hG dX8_clearTo_7 f_8_46 g1 rfl hV3 ?_
  refine sx_aload_n (pc := 10) dX8_clearTo_10 sx_m0 ?_
  obtain ⟨b4, g5, h⟩ := sx_bnd h
  refine sv_getA (pc := 11) hG dX8_clearTo_11 f_8_21 g1 rfl g5 ?_
  refine sx_iconst (pc := 14) (v := 0) dX8_clearTo_14 (by decide) ?_
  obtain ⟨V6, g7, h⟩ := sx_bnd h
  refine sv_cS (pc := 15) (y := qJ7_fill_53178) (o := none) (as := [.ref b4, .int (0 : Int32)]) (V1 := V6) dX8_clearTo_15 l_X8_49 y0J7_fill_53178 ysJ7_fill_53178 rfl (Nat.le_of_ble_eq_true rfl) (by decide) (Nat.le_of_ble_eq_true rfl) rfl rfl rfl (t_J7_fill_53178 hG ⟨rfl, rfl⟩ g7) ?_
  refine sx_aload_n (pc := 18) dX8_clearTo_18 sx_m0 ?_
  obtain ⟨b8, g9, h⟩ := sx_bnd h
  refine sv_getA (pc := 19) hG dX8_clearTo_19 f_8_24 g1 rfl g9 ?_
  refine sx_iconst (pc := 22) (v := 0) dX8_clearTo_22 (by decide) ?_
  obtain ⟨V10, g11, h⟩ := sx_bnd h
  refine sv_cS (pc := 23) (y := qJ7_fill_53178) (o := none) (as := [.ref b8, .int (0 : Int32)]) (V1 := V10) dX8_clearTo_23 l_X8_49 y0J7_fill_53178 ysJ7_fill_53178 rfl (Nat.le_of_ble_eq_true rfl) (by decide) (Nat.le_of_ble_eq_true rfl) rfl rfl rfl (t_J7_fill_53178 hG ⟨rfl, rfl⟩ g11) ?_
  refine sx_aload_n (pc := 26) dX8_clearTo_26 sx_m0 ?_
  obtain ⟨b12, g13, h⟩ := sx_bnd h
  refine sv_getA (pc := 27) hG dX8_clearTo_27 f_8_27 g1 rfl g13 ?_
  refine sx_iconst (pc := 30) (v := 0) dX8_clearTo_30 (by decide) ?_
  obtain ⟨V14, g15, h⟩ := sx_bnd h
  refine sv_cS (pc := 31) (y := qJ7_fill_53178) (o := none) (as := [.ref b12, .int (0 : Int32)]) (V1 := V14) dX8_clearTo_31 l_X8_49 y0J7_fill_53178 ysJ7_fill_53178 rfl (Nat.le_of_ble_eq_true rfl) (by decide) (Nat.le_of_ble_eq_true rfl) rfl rfl rfl (t_J7_fill_53178 hG ⟨rfl, rfl⟩ g15) ?_
  refine sx_aload_n (pc := 34) dX8_clearTo_34 sx_m0 ?_
  obtain ⟨b16, g17, h⟩ := sx_bnd h
  refine sv_getA (pc := 35) hG dX8_clearTo_35 f_8_30 g1 rfl g17 ?_
  refine sx_iconst (pc := 38) (v := 0) dX8_clearTo_38 (by decide) ?_
  obtain ⟨V18, g19, h⟩ := sx_bnd h
  refine sv_cS (pc := 39) (y := qJ7_fill_53178) (o := none) (as := [.ref b16, .int (0 : Int32)]) (V1 := V18) dX8_clearTo_39 l_X8_49 y0J7_fill_53178 ysJ7_fill_53178 rfl (Nat.le_of_ble_eq_true rfl) (by decide) (Nat.le_of_ble_eq_true rfl) rfl rfl rfl (t_J7_fill_53178 hG ⟨rfl, rfl⟩ g19) ?_
  refine sx_aload_n (pc := 42) dX8_clearTo_42 sx_m0 ?_
  obtain ⟨b20, g21, h⟩ := sx_bnd h
  refine sv_getA (pc := 43) hG dX8_clearTo_43 f_8_33 g1 rfl g21 ?_
  refine sx_iconst (pc := 46) (v := 0) dX8_clearTo_46 (by decide) ?_
  obtain ⟨V22, g23, h⟩ := sx_bnd h
  refine sv_cS (pc := 47) (y := qJ7_fill_53178) (o := none) (as := [.ref b20, .int (0 : Int32)]) (V1 := V22) dX8_clearTo_47 l_X8_49 y0J7_fill_53178 ysJ7_fill_53178 rfl (Nat.le_of_ble_eq_true rfl) (by decide) (Nat.le_of_ble_eq_true rfl) rfl rfl rfl (t_J7_fill_53178 hG ⟨rfl, rfl⟩ g23) ?_
  exact sv_vret (pc := 50) dX8_clearTo_50 rfl h hP
theorem dX8_liesWithin_0 : decode cX8_liesWithin 0 = .ok (.iconst 0, 1) := by decide +kernel
theorem dX8_liesWithin_1 : decode cX8_liesWithin 1 = .ok (.istore_n 2, 1) := by decide +kernel
theorem dX8_liesWithin_2 : decode cX8_liesWithin 2 = .ok (.iload_n 2, 1) := by decide +kernel
theorem dX8_liesWithin_3 : decode cX8_liesWithin 3 = .ok (.aload_n 0, 1) := by decide +kernel
theorem dX8_liesWithin_4 : decode cX8_liesWithin 4 = .ok (.getfield 43, 3) := by decide +kernel
theorem dX8_liesWithin_7 : decode cX8_liesWithin 7 = .ok (.if_icmp .ge 39, 3) := by decide +kernel
theorem dX8_liesWithin_10 : decode cX8_liesWithin 10 = .ok (.aload_n 0, 1) := by decide +kernel
theorem dX8_liesWithin_11 : decode cX8_liesWithin 11 = .ok (.getfield 21, 3) := by decide +kernel
theorem dX8_liesWithin_14 : decode cX8_liesWithin 14 = .ok (.iload_n 2, 1) := by decide +kernel
theorem dX8_liesWithin_15 : decode cX8_liesWithin 15 = .ok (.iaload, 1) := by decide +kernel
theorem dX8_liesWithin_16 : decode cX8_liesWithin 16 = .ok (.i2l, 1) := by decide +kernel
theorem dX8_liesWithin_17 : decode cX8_liesWithin 17 = .ok (.iload_n 1, 1) := by decide +kernel
theorem dX8_liesWithin_18 : decode cX8_liesWithin 18 = .ok (.invokestatic 65, 3) := by decide +kernel
theorem dX8_liesWithin_21 : decode cX8_liesWithin 21 = .ok (.ifCond .ne 17, 3) := by decide +kernel
theorem dX8_liesWithin_24 : decode cX8_liesWithin 24 = .ok (.aload_n 0, 1) := by decide +kernel
theorem dX8_liesWithin_25 : decode cX8_liesWithin 25 = .ok (.getfield 24, 3) := by decide +kernel
theorem dX8_liesWithin_28 : decode cX8_liesWithin 28 = .ok (.iload_n 2, 1) := by decide +kernel
theorem dX8_liesWithin_29 : decode cX8_liesWithin 29 = .ok (.iaload, 1) := by decide +kernel
theorem dX8_liesWithin_30 : decode cX8_liesWithin 30 = .ok (.i2l, 1) := by decide +kernel
theorem dX8_liesWithin_31 : decode cX8_liesWithin 31 = .ok (.iload_n 1, 1) := by decide +kernel
theorem dX8_liesWithin_32 : decode cX8_liesWithin 32 = .ok (.invokestatic 65, 3) := by decide +kernel
theorem dX8_liesWithin_35 : decode cX8_liesWithin 35 = .ok (.ifCond .eq 5, 3) := by decide +kernel
theorem dX8_liesWithin_38 : decode cX8_liesWithin 38 = .ok (.iconst 0, 1) := by decide +kernel
theorem dX8_liesWithin_39 : decode cX8_liesWithin 39 = .ok (.ireturn, 1) := by decide +kernel
theorem dX8_liesWithin_40 : decode cX8_liesWithin 40 = .ok (.iinc 2 1, 3) := by decide +kernel
theorem dX8_liesWithin_43 : decode cX8_liesWithin 43 = .ok (.goto (-41), 3) := by decide +kernel
theorem dX8_liesWithin_46 : decode cX8_liesWithin 46 = .ok (.iconst 1, 1) := by decide +kernel
theorem dX8_liesWithin_47 : decode cX8_liesWithin 47 = .ok (.ireturn, 1) := by decide +kernel
def B_X8_liesWithin_2 (N : Nat) (k2 : Nat → Int32 → Int32 → sv_V → Option (Int32 × sv_V)) (l0 : Nat) (l1 : Int32) (l2 : Int32) (V : sv_V) : Option (Int32 × sv_V) := if lay l0 = .inl 8 then if (V.1 l0 9) ≤ l2 then (some ((1 : Int32), V)) else ((cr l0 0).bind (fun b3 => (sv_len 0 b3).bind (fun n5 => if sx_in l2 n5 = true then (F_X11_isBeyond ((V.1 b3 l2.toNatClampNeg).toInt64) l1 V).bind (fun (x10, V8) => if x10 = 0 then ((cr l0 1).bind (fun b12 => (sv_len 0 b12).bind (fun n14 => if sx_in l2 n14 = true then (F_X11_isBeyond ((V8.1 b12 l2.toNatClampNeg).toInt64) l1 V8).bind (fun (x19, V17) => if x19 = 0 then (sx_let (l2 + 1) (fun x21 => k2 l0 l1 x21 V17)) else (some ((0 : Int32), V17))) else none))) else (some ((0 : Int32), V8))) else none))) else none
set_option maxRecDepth 20000 in
theorem tB_X8_liesWithin_2 {g : sx_G} (hG : sx_Go g) {P : Option Value → sv_V → Prop} {r : Int32} {Vr : sv_V} (hP : P (some (.int r)) Vr) {N : Nat} {k2 : Nat → Int32 → Int32 → sv_V → Option (Int32 × sv_V)} (hk2 : ∀ (l0 : Nat) (l1 : Int32) (l2 : Int32) (V : sv_V), k2 l0 l1 l2 V = some (r, Vr) → sv_N g qX8_liesWithin 1 2 [(0, .ref l0), (1, .int l1), (2, .int l2)] [] V P) {l0 : Nat} {l1 : Int32} {l2 : Int32} {V : sv_V} (h : B_X8_liesWithin_2 N k2 l0 l1 l2 V = some (r, Vr)) : sv_N g qX8_liesWithin 1 2 [(0, .ref l0), (1, .int l1), (2, .int l2)] [] V P := by
  unfold B_X8_liesWithin_2 at h
  refine sx_iload_n (pc := 2) dX8_liesWithin_2 sx_m2 ?_
  refine sx_aload_n (pc := 3) dX8_liesWithin_3 sx_m0 ?_
  obtain ⟨g1, h⟩ := sx_grd h
  refine sv_getI (pc := 4) hG dX8_liesWithin_4 f_8_43 g1 rfl ?_
  refine sx_icmp_ge (pc := 7) (tgt := 46) dX8_liesWithin_7 (by decide) (fun c2 => ?_) (fun c2 => ?_)
  · have h := sx_pos c2 h
    refine sx_iconst (pc := 46) (v := 1) dX8_liesWithin_46 (by decide) ?_
    exact sv_zret (pc := 47) dX8_liesWithin_47 rfl rfl h hP
  · have h := sx_neg c2 h
    refine sx_aload_n (pc := 10) dX8_liesWithin_10 sx_m0 ?_
    obtain ⟨b3, g4, h⟩ := sx_bnd h
    refine sv_getA (pc := 11) hG dX8_liesWithin_11 f_8_21 g1 rfl g4 ?_
    refine sx_iload_n (pc := 14) dX8_liesWithin_14 sx_m2 ?_
    obtain ⟨n5, g6, h⟩ := sx_bnd h
    obtain ⟨g7, h⟩ := sx_grd h
    refine sv_iald (pc := 15) hG dX8_liesWithin_15 (sv_len_e g6) g7 ?_
    refine sx_i2l (pc := 16) dX8_liesWithin_16 ?_
    refine sx_iload_n (pc := 17) dX8_liesWithin_17 sx_m1 ?_
    obtain ⟨⟨x10, V8⟩, g9, h⟩ := sx_bnd h
    refine sv_cN (pc := 18) (y := qX11_isBeyond) (o := (some (.int x10))) (as := [.long ((V.1 b3 l2.toNatClampNeg).toInt64), .int l1]) (V1 := V8) dX8_liesWithin_18 n_X8_65 y0X11_isBeyond ysX11_isBeyond rfl (Nat.le_of_ble_eq_true rfl) (by decide) (Nat.le_of_ble_eq_true rfl) rfl rfl rfl (t_X11_isBeyond hG ⟨rfl, rfl⟩ g9) ?_
    refine sx_if_ne (pc := 21) (tgt := 38) dX8_liesWithin_21 (by decide) (fun c11 => ?_) (fun c11 => ?_)
    · have h := sx_neg c11 h
      refine sx_iconst (pc := 38) (v := 0) dX8_liesWithin_38 (by decide) ?_
      exact sv_zret (pc := 39) dX8_liesWithin_39 rfl rfl h hP
    · have h := sx_pos c11 h
      refine sx_aload_n (pc := 24) dX8_liesWithin_24 sx_m0 ?_
      obtain ⟨b12, g13, h⟩ := sx_bnd h
      refine sv_getA (pc := 25) hG dX8_liesWithin_25 f_8_24 g1 rfl g13 ?_
      refine sx_iload_n (pc := 28) dX8_liesWithin_28 sx_m2 ?_
      obtain ⟨n14, g15, h⟩ := sx_bnd h
      obtain ⟨g16, h⟩ := sx_grd h
      refine sv_iald (pc := 29) hG dX8_liesWithin_29 (sv_len_e g15) g16 ?_
      refine sx_i2l (pc := 30) dX8_liesWithin_30 ?_
      refine sx_iload_n (pc := 31) dX8_liesWithin_31 sx_m1 ?_
      obtain ⟨⟨x19, V17⟩, g18, h⟩ := sx_bnd h
      refine sv_cN (pc := 32) (y := qX11_isBeyond) (o := (some (.int x19))) (as := [.long ((V8.1 b12 l2.toNatClampNeg).toInt64), .int l1]) (V1 := V17) dX8_liesWithin_32 n_X8_65 y0X11_isBeyond ysX11_isBeyond rfl (Nat.le_of_ble_eq_true rfl) (by decide) (Nat.le_of_ble_eq_true rfl) rfl rfl rfl (t_X11_isBeyond hG ⟨rfl, rfl⟩ g18) ?_
      refine sx_if_eq (pc := 35) (tgt := 40) dX8_liesWithin_35 (by decide) (fun c20 => ?_) (fun c20 => ?_)
      · have h := sx_pos c20 h
        obtain ⟨x21, hx21⟩ : ∃ z : Int32, z = l2 + 1 := ⟨_, rfl⟩
        have h := sx_letE hx21 h
        refine sx_iinc (pc := 40) (v := x21) (lo' := [(2, .int x21), (0, .ref l0), (1, .int l1)]) dX8_liesWithin_40 sx_m2 (by rw [hx21]; rfl) (by decide) rfl ?_
        refine sx_goto (pc := 43) (tgt := 2) dX8_liesWithin_43 (by decide) ?_
        refine sx_wk (sx_s1 sx_m1 (sx_s1 sx_m2 (sx_s1 sx_m0 sx_s0))) ?_
        exact hk2 _ _ _ _ h
      · have h := sx_neg c20 h
        refine sx_iconst (pc := 38) (v := 0) dX8_liesWithin_38 (by decide) ?_
        exact sv_zret (pc := 39) dX8_liesWithin_39 rfl rfl h hP
theorem tL_X8_liesWithin_2 {g : sx_G} (hG : sx_Go g) {P : Option Value → sv_V → Prop} {r : Int32} {Vr : sv_V} (hP : P (some (.int r)) Vr) {N : Nat}   : ∀ (n : Nat) (l0 : Nat) (l1 : Int32) (l2 : Int32) (V : sv_V), sx_lp4 (B_X8_liesWithin_2 N ) n l0 l1 l2 V = some (r, Vr) → sv_N g qX8_liesWithin 1 2 [(0, .ref l0), (1, .int l1), (2, .int l2)] [] V P :=
  sx_lp4_ind (fun k0 ih _ _ _ V h => tB_X8_liesWithin_2 hG hP ih h)
def F_X8_liesWithin (N : Nat) (l0 : Nat) (l1 : Int32) (V : sv_V) : Option (Int32 × sv_V) := sx_lp4 (B_X8_liesWithin_2 N ) N l0 l1 (0 : Int32) V
set_option maxRecDepth 20000 in
theorem t_X8_liesWithin {g : sx_G} (hG : sx_Go g) {P : Option Value → sv_V → Prop} {r : Int32} {Vr : sv_V} (hP : P (some (.int r)) Vr) {N : Nat} {l0 : Nat} {l1 : Int32} {V : sv_V} (h : F_X8_liesWithin N l0 l1 V = some (r, Vr)) : sv_N g qX8_liesWithin 1 0 [(0, .ref l0), (1, .int l1)] [] V P := by
  unfold F_X8_liesWithin at h
  refine sx_iconst (pc := 0) (v := 0) dX8_liesWithin_0 (by decide) ?_
  refine sx_istore_n (pc := 1) (lo' := [(2, .int (0 : Int32)), (0, .ref l0), (1, .int l1)]) dX8_liesWithin_1 (by decide) rfl ?_
  refine sx_wk (sx_s1 sx_m1 (sx_s1 sx_m2 (sx_s1 sx_m0 sx_s0))) ?_
  exact tL_X8_liesWithin_2 hG hP  N _ _ _ _ h
theorem dX9_goAlong_0 : decode cX9_goAlong 0 = .ok (.aload_n 0, 1) := by decide +kernel
theorem dX9_goAlong_1 : decode cX9_goAlong 1 = .ok (.iload_n 1, 1) := by decide +kernel
theorem dX9_goAlong_2 : decode cX9_goAlong 2 = .ok (.iconst 1, 1) := by decide +kernel
theorem dX9_goAlong_3 : decode cX9_goAlong 3 = .ok (.iand, 1) := by decide +kernel
theorem dX9_goAlong_4 : decode cX9_goAlong 4 = .ok (.iconst 1, 1) := by decide +kernel
theorem dX9_goAlong_5 : decode cX9_goAlong 5 = .ok (.if_icmp .ne 9, 3) := by decide +kernel
theorem dX9_goAlong_8 : decode cX9_goAlong 8 = .ok (.sipush 16384, 3) := by decide +kernel
theorem dX9_goAlong_11 : decode cX9_goAlong 11 = .ok (.goto 4, 3) := by decide +kernel
theorem dX9_goAlong_14 : decode cX9_goAlong 14 = .ok (.iconst 0, 1) := by decide +kernel
theorem dX9_goAlong_15 : decode cX9_goAlong 15 = .ok (.putfield 35, 3) := by decide +kernel
theorem dX9_goAlong_18 : decode cX9_goAlong 18 = .ok (.aload_n 0, 1) := by decide +kernel
theorem dX9_goAlong_19 : decode cX9_goAlong 19 = .ok (.sipush 16384, 3) := by decide +kernel
theorem dX9_goAlong_22 : decode cX9_goAlong 22 = .ok (.aload_n 0, 1) := by decide +kernel
theorem dX9_goAlong_23 : decode cX9_goAlong 23 = .ok (.getfield 35, 3) := by decide +kernel
theorem dX9_goAlong_26 : decode cX9_goAlong 26 = .ok (.isub, 1) := by decide +kernel
theorem dX9_goAlong_27 : decode cX9_goAlong 27 = .ok (.putfield 38, 3) := by decide +kernel
theorem dX9_goAlong_30 : decode cX9_goAlong 30 = .ok (.iload_n 1, 1) := by decide +kernel
theorem dX9_goAlong_31 : decode cX9_goAlong 31 = .ok (.iconst 4, 1) := by decide +kernel
theorem dX9_goAlong_32 : decode cX9_goAlong 32 = .ok (.if_icmp .ge 7, 3) := by decide +kernel
theorem dX9_goAlong_35 : decode cX9_goAlong 35 = .ok (.aload_n 0, 1) := by decide +kernel
theorem dX9_goAlong_36 : decode cX9_goAlong 36 = .ok (.invokevirtual 41, 3) := by decide +kernel
theorem dX9_goAlong_39 : decode cX9_goAlong 39 = .ok (.iload_n 1, 1) := by decide +kernel
theorem dX9_goAlong_40 : decode cX9_goAlong 40 = .ok (.iconst 2, 1) := by decide +kernel
theorem dX9_goAlong_41 : decode cX9_goAlong 41 = .ok (.if_icmp .lt 8, 3) := by decide +kernel
theorem dX9_goAlong_44 : decode cX9_goAlong 44 = .ok (.iload_n 1, 1) := by decide +kernel
theorem dX9_goAlong_45 : decode cX9_goAlong 45 = .ok (.iconst 3, 1) := by decide +kernel
theorem dX9_goAlong_46 : decode cX9_goAlong 46 = .ok (.if_icmp .le 7, 3) := by decide +kernel
theorem dX9_goAlong_49 : decode cX9_goAlong 49 = .ok (.aload_n 0, 1) := by decide +kernel
theorem dX9_goAlong_50 : decode cX9_goAlong 50 = .ok (.invokevirtual 44, 3) := by decide +kernel
theorem dX9_goAlong_53 : decode cX9_goAlong 53 = .ok (.return_, 1) := by decide +kernel
def B_X9_goAlong_49   (V : sv_V) : Option sv_V := (F_X9_useWayForF  V).bind (fun V1 => some V1)
set_option maxRecDepth 20000 in
theorem tB_X9_goAlong_49 {g : sx_G} (hG : sx_Go g) {P : Option Value → sv_V → Prop} {Vr : sv_V} (hP : P none Vr)    {V : sv_V} (h : B_X9_goAlong_49   V = some Vr) : sv_N g qX9_goAlong 1 49 [(0, .ref 70)] [] V P := by
  unfold B_X9_goAlong_49 at h
  refine sx_aload_n (pc := 49) dX9_goAlong_49 sx_m0 ?_
  obtain ⟨V1, g2, h⟩ := sx_bnd h
  refine sv_cV (pc := 50) (y := qX9_useWayForF) (o := none) (as := []) (V1 := V1) hG dX9_goAlong_50 l_X9_44 y0X9_useWayForF yvX9_useWayForF rfl (Nat.le_of_ble_eq_true rfl) lay_70 kr_9 (by decide) (Nat.le_of_ble_eq_true rfl) rfl rfl rfl (t_X9_useWayForF hG ⟨rfl, rfl⟩ g2) ?_
  exact sv_vret (pc := 53) dX9_goAlong_53 rfl h hP
def B_X9_goAlong_39  (l1 : Int32) (V : sv_V) : Option sv_V := if l1 < (2 : Int32) then (B_X9_goAlong_49   V) else (if l1 ≤ (3 : Int32) then (some V) else (B_X9_goAlong_49   V))
set_option maxRecDepth 20000 in
theorem tB_X9_goAlong_39 {g : sx_G} (hG : sx_Go g) {P : Option Value → sv_V → Prop} {Vr : sv_V} (hP : P none Vr)   {l1 : Int32} {V : sv_V} (h : B_X9_goAlong_39  l1 V = some Vr) : sv_N g qX9_goAlong 1 39 [(0, .ref 70), (1, .int l1)] [] V P := by
  unfold B_X9_goAlong_39 at h
  refine sx_iload_n (pc := 39) dX9_goAlong_39 sx_m1 ?_
  refine sx_iconst (pc := 40) (v := 2) dX9_goAlong_40 (by decide) ?_
  refine sx_icmp_lt (pc := 41) (tgt := 49) dX9_goAlong_41 (by decide) (fun c3 => ?_) (fun c3 => ?_)
  · have h := sx_pos c3 h
    refine sx_wk (sx_s1 sx_m0 sx_s0) ?_
    exact tB_X9_goAlong_49 hG hP  h
  · have h := sx_neg c3 h
    refine sx_iload_n (pc := 44) dX9_goAlong_44 sx_m1 ?_
    refine sx_iconst (pc := 45) (v := 3) dX9_goAlong_45 (by decide) ?_
    refine sx_icmp_le (pc := 46) (tgt := 53) dX9_goAlong_46 (by decide) (fun c4 => ?_) (fun c4 => ?_)
    · have h := sx_pos c4 h
      exact sv_vret (pc := 53) dX9_goAlong_53 rfl h hP
    · have h := sx_neg c4 h
      refine sx_wk (sx_s1 sx_m0 sx_s0) ?_
      exact tB_X9_goAlong_49 hG hP  h
def B_X9_goAlong_15  (l1 : Int32) (s1 : Int32) (V : sv_V) : Option sv_V := sx_let (sv_I V 70 12 s1) (fun V5 => sx_let (sv_I V5 70 13 ((16384 : Int32) - (V5.1 70 12))) (fun V6 => if (4 : Int32) ≤ l1 then (B_X9_goAlong_39  l1 V6) else ((F_X9_useWayForP  V6).bind (fun V8 => B_X9_goAlong_39  l1 V8))))
set_option maxRecDepth 20000 in
theorem tB_X9_goAlong_15 {g : sx_G} (hG : sx_Go g) {P : Option Value → sv_V → Prop} {Vr : sv_V} (hP : P none Vr)   {l1 : Int32} {s1 : Int32} {V : sv_V} (h : B_X9_goAlong_15  l1 s1 V = some Vr) : sv_N g qX9_goAlong 1 15 [(0, .ref 70), (1, .int l1)] [.int s1, .ref 70] V P := by
  unfold B_X9_goAlong_15 at h
  obtain ⟨V5, hV5⟩ : ∃ z : sv_V, z = sv_I V 70 12 s1 := ⟨_, rfl⟩
  have h := sx_letE hV5 h
  refine sv_putI (pc := 15) hG dX9_goAlong_15 f_9_35 lay_70 rfl hV5 ?_
  refine sx_aload_n (pc := 18) dX9_goAlong_18 sx_m0 ?_
  refine sx_sipush (pc := 19) (v := 16384) dX9_goAlong_19 (by decide) ?_
  refine sx_aload_n (pc := 22) dX9_goAlong_22 sx_m0 ?_
  refine sv_getI (pc := 23) hG dX9_goAlong_23 f_9_35 lay_70 rfl ?_
  refine sx_isub (pc := 26) dX9_goAlong_26 ?_
  obtain ⟨V6, hV6⟩ : ∃ z : sv_V, z = sv_I V5 70 13 ((16384 : Int32) - (V5.1 70 12)) := ⟨_, rfl⟩
  have h := sx_letE hV6 h
  refine sv_putI (pc := 27) hG dX9_goAlong_27 f_9_38 lay_70 rfl hV6 ?_
  refine sx_iload_n (pc := 30) dX9_goAlong_30 sx_m1 ?_
  refine sx_iconst (pc := 31) (v := 4) dX9_goAlong_31 (by decide) ?_
  refine sx_icmp_ge (pc := 32) (tgt := 39) dX9_goAlong_32 (by decide) (fun c7 => ?_) (fun c7 => ?_)
  · have h := sx_pos c7 h
    refine sx_wk (sx_s1 sx_m0 (sx_s1 sx_m1 sx_s0)) ?_
    exact tB_X9_goAlong_39 hG hP  h
  · have h := sx_neg c7 h
    refine sx_aload_n (pc := 35) dX9_goAlong_35 sx_m0 ?_
    obtain ⟨V8, g9, h⟩ := sx_bnd h
    refine sv_cV (pc := 36) (y := qX9_useWayForP) (o := none) (as := []) (V1 := V8) hG dX9_goAlong_36 l_X9_41 y0X9_useWayForP yvX9_useWayForP rfl (Nat.le_of_ble_eq_true rfl) lay_70 kr_9 (by decide) (Nat.le_of_ble_eq_true rfl) rfl rfl rfl (t_X9_useWayForP hG ⟨rfl, rfl⟩ g9) ?_
    refine sx_wk (sx_s1 sx_m0 (sx_s1 sx_m1 sx_s0)) ?_
    exact tB_X9_goAlong_39 hG hP  h
def F_X9_goAlong (l1 : Int32) (V : sv_V) : Option sv_V := if (l1 &&& (1 : Int32)) = (1 : Int32) then (B_X9_goAlong_15  l1 (16384 : Int32) V) else (B_X9_goAlong_15  l1 (0 : Int32) V)
set_option maxRecDepth 20000 in
theorem t_X9_goAlong {g : sx_G} (hG : sx_Go g) {P : Option Value → sv_V → Prop} {Vr : sv_V} (hP : P none Vr) {l1 : Int32} {V : sv_V} (h : F_X9_goAlong l1 V = some Vr) : sv_N g qX9_goAlong 1 0 [(0, .ref 70), (1, .int l1)] [] V P := by
  unfold F_X9_goAlong at h
  refine sx_aload_n (pc := 0) dX9_goAlong_0 sx_m0 ?_
  refine sx_iload_n (pc := 1) dX9_goAlong_1 sx_m1 ?_
  refine sx_iconst (pc := 2) (v := 1) dX9_goAlong_2 (by decide) ?_
  refine sx_iand (pc := 3) dX9_goAlong_3 ?_
  refine sx_iconst (pc := 4) (v := 1) dX9_goAlong_4 (by decide) ?_
  refine sx_icmp_ne (pc := 5) (tgt := 14) dX9_goAlong_5 (by decide) (fun c10 => ?_) (fun c10 => ?_)
  · have h := sx_neg c10 h
    refine sx_iconst (pc := 14) (v := 0) dX9_goAlong_14 (by decide) ?_
    refine sx_wk (sx_s1 sx_m0 (sx_s1 sx_m1 sx_s0)) ?_
    exact tB_X9_goAlong_15 hG hP  h
  · have h := sx_pos c10 h
    refine sx_sipush (pc := 8) (v := 16384) dX9_goAlong_8 (by decide) ?_
    refine sx_goto (pc := 11) (tgt := 15) dX9_goAlong_11 (by decide) ?_
    refine sx_wk (sx_s1 sx_m0 (sx_s1 sx_m1 sx_s0)) ?_
    exact tB_X9_goAlong_15 hG hP  h
theorem dX9_findWay_0 : decode cX9_findWay 0 = .ok (.lload_n 1, 1) := by decide +kernel
theorem dX9_findWay_1 : decode cX9_findWay 1 = .ok (.lconst 0, 1) := by decide +kernel
theorem dX9_findWay_2 : decode cX9_findWay 2 = .ok (.lcmp, 1) := by decide +kernel
theorem dX9_findWay_3 : decode cX9_findWay 3 = .ok (.ifCond .ne 22, 3) := by decide +kernel
theorem dX9_findWay_6 : decode cX9_findWay 6 = .ok (.lload_n 3, 1) := by decide +kernel
theorem dX9_findWay_7 : decode cX9_findWay 7 = .ok (.lconst 0, 1) := by decide +kernel
theorem dX9_findWay_8 : decode cX9_findWay 8 = .ok (.lcmp, 1) := by decide +kernel
theorem dX9_findWay_9 : decode cX9_findWay 9 = .ok (.ifCond .ne 16, 3) := by decide +kernel
theorem dX9_findWay_12 : decode cX9_findWay 12 = .ok (.aload_n 0, 1) := by decide +kernel
theorem dX9_findWay_13 : decode cX9_findWay 13 = .ok (.sipush 16384, 3) := by decide +kernel
theorem dX9_findWay_16 : decode cX9_findWay 16 = .ok (.putfield 35, 3) := by decide +kernel
theorem dX9_findWay_19 : decode cX9_findWay 19 = .ok (.aload_n 0, 1) := by decide +kernel
theorem dX9_findWay_20 : decode cX9_findWay 20 = .ok (.iconst 0, 1) := by decide +kernel
theorem dX9_findWay_21 : decode cX9_findWay 21 = .ok (.putfield 38, 3) := by decide +kernel
theorem dX9_findWay_24 : decode cX9_findWay 24 = .ok (.return_, 1) := by decide +kernel
theorem dX9_findWay_25 : decode cX9_findWay 25 = .ok (.iconst 0, 1) := by decide +kernel
theorem dX9_findWay_26 : decode cX9_findWay 26 = .ok (.istore 5, 2) := by decide +kernel
theorem dX9_findWay_28 : decode cX9_findWay 28 = .ok (.iload 5, 2) := by decide +kernel
theorem dX9_findWay_30 : decode cX9_findWay 30 = .ok (.bipush 64, 2) := by decide +kernel
theorem dX9_findWay_32 : decode cX9_findWay 32 = .ok (.if_icmp .ge 41, 3) := by decide +kernel
theorem dX9_findWay_35 : decode cX9_findWay 35 = .ok (.lload_n 1, 1) := by decide +kernel
theorem dX9_findWay_36 : decode cX9_findWay 36 = .ok (.sipush 30000, 3) := by decide +kernel
theorem dX9_findWay_39 : decode cX9_findWay 39 = .ok (.invokestatic 65, 3) := by decide +kernel
theorem dX9_findWay_42 : decode cX9_findWay 42 = .ok (.ifCond .ne 13, 3) := by decide +kernel
theorem dX9_findWay_45 : decode cX9_findWay 45 = .ok (.lload_n 3, 1) := by decide +kernel
theorem dX9_findWay_46 : decode cX9_findWay 46 = .ok (.sipush 30000, 3) := by decide +kernel
theorem dX9_findWay_49 : decode cX9_findWay 49 = .ok (.invokestatic 65, 3) := by decide +kernel
theorem dX9_findWay_52 : decode cX9_findWay 52 = .ok (.ifCond .eq 21, 3) := by decide +kernel
theorem dX9_findWay_55 : decode cX9_findWay 55 = .ok (.lload_n 1, 1) := by decide +kernel
theorem dX9_findWay_56 : decode cX9_findWay 56 = .ok (.ldc2_w 69, 3) := by decide +kernel
theorem dX9_findWay_59 : decode cX9_findWay 59 = .ok (.ldiv, 1) := by decide +kernel
theorem dX9_findWay_60 : decode cX9_findWay 60 = .ok (.lstore_n 1, 1) := by decide +kernel
theorem dX9_findWay_61 : decode cX9_findWay 61 = .ok (.lload_n 3, 1) := by decide +kernel
theorem dX9_findWay_62 : decode cX9_findWay 62 = .ok (.ldc2_w 69, 3) := by decide +kernel
theorem dX9_findWay_65 : decode cX9_findWay 65 = .ok (.ldiv, 1) := by decide +kernel
theorem dX9_findWay_66 : decode cX9_findWay 66 = .ok (.lstore_n 3, 1) := by decide +kernel
theorem dX9_findWay_67 : decode cX9_findWay 67 = .ok (.iinc 5 1, 3) := by decide +kernel
theorem dX9_findWay_70 : decode cX9_findWay 70 = .ok (.goto (-42), 3) := by decide +kernel
theorem dX9_findWay_73 : decode cX9_findWay 73 = .ok (.aload_n 0, 1) := by decide +kernel
theorem dX9_findWay_74 : decode cX9_findWay 74 = .ok (.lload_n 1, 1) := by decide +kernel
theorem dX9_findWay_75 : decode cX9_findWay 75 = .ok (.lload_n 1, 1) := by decide +kernel
theorem dX9_findWay_76 : decode cX9_findWay 76 = .ok (.lload_n 1, 1) := by decide +kernel
theorem dX9_findWay_77 : decode cX9_findWay 77 = .ok (.lmul, 1) := by decide +kernel
theorem dX9_findWay_78 : decode cX9_findWay 78 = .ok (.lload_n 3, 1) := by decide +kernel
theorem dX9_findWay_79 : decode cX9_findWay 79 = .ok (.lload_n 3, 1) := by decide +kernel
theorem dX9_findWay_80 : decode cX9_findWay 80 = .ok (.lmul, 1) := by decide +kernel
theorem dX9_findWay_81 : decode cX9_findWay 81 = .ok (.ladd, 1) := by decide +kernel
theorem dX9_findWay_82 : decode cX9_findWay 82 = .ok (.invokestatic 71, 3) := by decide +kernel
theorem dX9_findWay_85 : decode cX9_findWay 85 = .ok (.putfield 35, 3) := by decide +kernel
theorem dX9_findWay_88 : decode cX9_findWay 88 = .ok (.aload_n 0, 1) := by decide +kernel
theorem dX9_findWay_89 : decode cX9_findWay 89 = .ok (.lload_n 3, 1) := by decide +kernel
theorem dX9_findWay_90 : decode cX9_findWay 90 = .ok (.lload_n 1, 1) := by decide +kernel
theorem dX9_findWay_91 : decode cX9_findWay 91 = .ok (.lload_n 1, 1) := by decide +kernel
theorem dX9_findWay_92 : decode cX9_findWay 92 = .ok (.lmul, 1) := by decide +kernel
theorem dX9_findWay_93 : decode cX9_findWay 93 = .ok (.lload_n 3, 1) := by decide +kernel
theorem dX9_findWay_94 : decode cX9_findWay 94 = .ok (.lload_n 3, 1) := by decide +kernel
theorem dX9_findWay_95 : decode cX9_findWay 95 = .ok (.lmul, 1) := by decide +kernel
theorem dX9_findWay_96 : decode cX9_findWay 96 = .ok (.ladd, 1) := by decide +kernel
theorem dX9_findWay_97 : decode cX9_findWay 97 = .ok (.invokestatic 71, 3) := by decide +kernel
theorem dX9_findWay_100 : decode cX9_findWay 100 = .ok (.putfield 38, 3) := by decide +kernel
theorem dX9_findWay_103 : decode cX9_findWay 103 = .ok (.return_, 1) := by decide +kernel
def B_X9_findWay_55 (N : Nat) (k28 : Int64 → Int64 → Int32 → sv_V → Option sv_V) (l1 : Int64) (l3 : Int64) (l5 : Int32) (V : sv_V) : Option sv_V := sx_let (l1 / (2 : Int64)) (fun x1 => sx_let (l3 / (2 : Int64)) (fun x2 => sx_let (l5 + 1) (fun x3 => k28 x1 x2 x3 V)))
set_option maxRecDepth 20000 in
theorem tB_X9_findWay_55 {g : sx_G} (hG : sx_Go g) {P : Option Value → sv_V → Prop} {Vr : sv_V} (hP : P none Vr) {N : Nat} {k28 : Int64 → Int64 → Int32 → sv_V → Option sv_V} (hk28 : ∀ (l1 : Int64) (l3 : Int64) (l5 : Int32) (V : sv_V), k28 l1 l3 l5 V = some Vr → sv_N g qX9_findWay 1 28 [(0, .ref 70), (1, .long l1), (3, .long l3), (5, .int l5)] [] V P) {l1 : Int64} {l3 : Int64} {l5 : Int32} {V : sv_V} (h : B_X9_findWay_55 N k28 l1 l3 l5 V = some Vr) : sv_N g qX9_findWay 1 55 [(0, .ref 70), (1, .long l1), (3, .long l3), (5, .int l5)] [] V P := by
  unfold B_X9_findWay_55 at h
  refine sx_lload_n (pc := 55) dX9_findWay_55 sx_m1 ?_
  refine sx_ldc2 (pc := 56) dX9_findWay_56 k_X9_69 ?_
  refine sx_ldiv (pc := 59) dX9_findWay_59 (by decide) ?_
  refine sv_tJ (fun x1 hx1 => ?_)
  have h := sx_letE hx1 h
  refine sx_lstore_n (pc := 60) (lo' := [(1, .long x1), (0, .ref 70), (3, .long l3), (5, .int l5)]) dX9_findWay_60 (by decide) rfl ?_
  refine sx_lload_n (pc := 61) dX9_findWay_61 sx_m2 ?_
  refine sx_ldc2 (pc := 62) dX9_findWay_62 k_X9_69 ?_
  refine sx_ldiv (pc := 65) dX9_findWay_65 (by decide) ?_
  refine sv_tJ (fun x2 hx2 => ?_)
  have h := sx_letE hx2 h
  refine sx_lstore_n (pc := 66) (lo' := [(3, .long x2), (1, .long x1), (0, .ref 70), (5, .int l5)]) dX9_findWay_66 (by decide) rfl ?_
  obtain ⟨x3, hx3⟩ : ∃ z : Int32, z = l5 + 1 := ⟨_, rfl⟩
  have h := sx_letE hx3 h
  refine sx_iinc (pc := 67) (v := x3) (lo' := [(5, .int x3), (3, .long x2), (1, .long x1), (0, .ref 70)]) dX9_findWay_67 sx_m3 (by rw [hx3]; rfl) (by decide) rfl ?_
  refine sx_goto (pc := 70) (tgt := 28) dX9_findWay_70 (by decide) ?_
  refine sx_wk (sx_s1 sx_m3 (sx_s1 sx_m2 (sx_s1 sx_m1 (sx_s1 sx_m0 sx_s0)))) ?_
  exact hk28 _ _ _ _ h
def B_X9_findWay_73 (N : Nat)  (l1 : Int64) (l3 : Int64) (V : sv_V) : Option sv_V := (F_X9_shareOf N l1 ((l1 * l1) + (l3 * l3)) V).bind (fun (x6, V4) => sx_let (sv_I V4 70 12 x6) (fun V7 => (F_X9_shareOf N l3 ((l1 * l1) + (l3 * l3)) V7).bind (fun (x10, V8) => sx_let (sv_I V8 70 13 x10) (fun V11 => some V11))))
set_option maxRecDepth 20000 in
theorem tB_X9_findWay_73 {g : sx_G} (hG : sx_Go g) {P : Option Value → sv_V → Prop} {Vr : sv_V} (hP : P none Vr) {N : Nat}   {l1 : Int64} {l3 : Int64} {V : sv_V} (h : B_X9_findWay_73 N  l1 l3 V = some Vr) : sv_N g qX9_findWay 1 73 [(0, .ref 70), (1, .long l1), (3, .long l3)] [] V P := by
  unfold B_X9_findWay_73 at h
  refine sx_aload_n (pc := 73) dX9_findWay_73 sx_m0 ?_
  refine sx_lload_n (pc := 74) dX9_findWay_74 sx_m1 ?_
  refine sx_lload_n (pc := 75) dX9_findWay_75 sx_m1 ?_
  refine sx_lload_n (pc := 76) dX9_findWay_76 sx_m1 ?_
  refine sx_lmul (pc := 77) dX9_findWay_77 ?_
  refine sx_lload_n (pc := 78) dX9_findWay_78 sx_m2 ?_
  refine sx_lload_n (pc := 79) dX9_findWay_79 sx_m2 ?_
  refine sx_lmul (pc := 80) dX9_findWay_80 ?_
  refine sx_ladd (pc := 81) dX9_findWay_81 ?_
  obtain ⟨⟨x6, V4⟩, g5, h⟩ := sx_bnd h
  refine sv_cS (pc := 82) (y := qX9_shareOf) (o := (some (.int x6))) (as := [.long l1, .long ((l1 * l1) + (l3 * l3))]) (V1 := V4) dX9_findWay_82 l_X9_71 y0X9_shareOf ysX9_shareOf rfl (Nat.le_of_ble_eq_true rfl) (by decide) (Nat.le_of_ble_eq_true rfl) rfl rfl rfl (t_X9_shareOf hG ⟨rfl, rfl⟩ g5) ?_
  obtain ⟨V7, hV7⟩ : ∃ z : sv_V, z = sv_I V4 70 12 x6 := ⟨_, rfl⟩
  have h := sx_letE hV7 h
  refine sv_putI (pc := 85) hG dX9_findWay_85 f_9_35 lay_70 rfl hV7 ?_
  refine sx_aload_n (pc := 88) dX9_findWay_88 sx_m0 ?_
  refine sx_lload_n (pc := 89) dX9_findWay_89 sx_m2 ?_
  refine sx_lload_n (pc := 90) dX9_findWay_90 sx_m1 ?_
  refine sx_lload_n (pc := 91) dX9_findWay_91 sx_m1 ?_
  refine sx_lmul (pc := 92) dX9_findWay_92 ?_
  refine sx_lload_n (pc := 93) dX9_findWay_93 sx_m2 ?_
  refine sx_lload_n (pc := 94) dX9_findWay_94 sx_m2 ?_
  refine sx_lmul (pc := 95) dX9_findWay_95 ?_
  refine sx_ladd (pc := 96) dX9_findWay_96 ?_
  obtain ⟨⟨x10, V8⟩, g9, h⟩ := sx_bnd h
  refine sv_cS (pc := 97) (y := qX9_shareOf) (o := (some (.int x10))) (as := [.long l3, .long ((l1 * l1) + (l3 * l3))]) (V1 := V8) dX9_findWay_97 l_X9_71 y0X9_shareOf ysX9_shareOf rfl (Nat.le_of_ble_eq_true rfl) (by decide) (Nat.le_of_ble_eq_true rfl) rfl rfl rfl (t_X9_shareOf hG ⟨rfl, rfl⟩ g9) ?_
  obtain ⟨V11, hV11⟩ : ∃ z : sv_V, z = sv_I V8 70 13 x10 := ⟨_, rfl⟩
  have h := sx_letE hV11 h
  refine sv_putI (pc := 100) hG dX9_findWay_100 f_9_38 lay_70 rfl hV11 ?_
  exact sv_vret (pc := 103) dX9_findWay_103 rfl h hP
def B_X9_findWay_28 (N : Nat) (k28 : Int64 → Int64 → Int32 → sv_V → Option sv_V) (l1 : Int64) (l3 : Int64) (l5 : Int32) (V : sv_V) : Option sv_V := if (64 : Int32) ≤ l5 then (B_X9_findWay_73 N  l1 l3 V) else ((F_X11_isBeyond l1 (30000 : Int32) V).bind (fun (x15, V13) => if x15 = 0 then ((F_X11_isBeyond l3 (30000 : Int32) V13).bind (fun (x19, V17) => if x19 = 0 then (B_X9_findWay_73 N  l1 l3 V17) else (B_X9_findWay_55 N k28 l1 l3 l5 V17))) else (B_X9_findWay_55 N k28 l1 l3 l5 V13)))
set_option maxRecDepth 20000 in
theorem tB_X9_findWay_28 {g : sx_G} (hG : sx_Go g) {P : Option Value → sv_V → Prop} {Vr : sv_V} (hP : P none Vr) {N : Nat} {k28 : Int64 → Int64 → Int32 → sv_V → Option sv_V} (hk28 : ∀ (l1 : Int64) (l3 : Int64) (l5 : Int32) (V : sv_V), k28 l1 l3 l5 V = some Vr → sv_N g qX9_findWay 1 28 [(0, .ref 70), (1, .long l1), (3, .long l3), (5, .int l5)] [] V P) {l1 : Int64} {l3 : Int64} {l5 : Int32} {V : sv_V} (h : B_X9_findWay_28 N k28 l1 l3 l5 V = some Vr) : sv_N g qX9_findWay 1 28 [(0, .ref 70), (1, .long l1), (3, .long l3), (5, .int l5)] [] V P := by
  unfold B_X9_findWay_28 at h
  refine sx_iload (pc := 28) dX9_findWay_28 sx_m3 ?_
  refine sx_bipush (pc := 30) (v := 64) dX9_findWay_30 (by decide) ?_
  refine sx_icmp_ge (pc := 32) (tgt := 73) dX9_findWay_32 (by decide) (fun c12 => ?_) (fun c12 => ?_)
  · have h := sx_pos c12 h
    refine sx_wk (sx_s1 sx_m0 (sx_s1 sx_m1 (sx_s1 sx_m2 sx_s0))) ?_
    exact tB_X9_findWay_73 hG hP  h
  · have h := sx_neg c12 h
    refine sx_lload_n (pc := 35) dX9_findWay_35 sx_m1 ?_
    refine sx_sipush (pc := 36) (v := 30000) dX9_findWay_36 (by decide) ?_
    obtain ⟨⟨x15, V13⟩, g14, h⟩ := sx_bnd h
    refine sv_cN (pc := 39) (y := qX11_isBeyond) (o := (some (.int x15))) (as := [.long l1, .int (30000 : Int32)]) (V1 := V13) dX9_findWay_39 n_X9_65 y0X11_isBeyond ysX11_isBeyond rfl (Nat.le_of_ble_eq_true rfl) (by decide) (Nat.le_of_ble_eq_true rfl) rfl rfl rfl (t_X11_isBeyond hG ⟨rfl, rfl⟩ g14) ?_
    refine sx_if_ne (pc := 42) (tgt := 55) dX9_findWay_42 (by decide) (fun c16 => ?_) (fun c16 => ?_)
    · have h := sx_neg c16 h
      refine sx_wk (sx_s1 sx_m0 (sx_s1 sx_m1 (sx_s1 sx_m2 (sx_s1 sx_m3 sx_s0)))) ?_
      exact tB_X9_findWay_55 hG hP hk28 h
    · have h := sx_pos c16 h
      refine sx_lload_n (pc := 45) dX9_findWay_45 sx_m2 ?_
      refine sx_sipush (pc := 46) (v := 30000) dX9_findWay_46 (by decide) ?_
      obtain ⟨⟨x19, V17⟩, g18, h⟩ := sx_bnd h
      refine sv_cN (pc := 49) (y := qX11_isBeyond) (o := (some (.int x19))) (as := [.long l3, .int (30000 : Int32)]) (V1 := V17) dX9_findWay_49 n_X9_65 y0X11_isBeyond ysX11_isBeyond rfl (Nat.le_of_ble_eq_true rfl) (by decide) (Nat.le_of_ble_eq_true rfl) rfl rfl rfl (t_X11_isBeyond hG ⟨rfl, rfl⟩ g18) ?_
      refine sx_if_eq (pc := 52) (tgt := 73) dX9_findWay_52 (by decide) (fun c20 => ?_) (fun c20 => ?_)
      · have h := sx_pos c20 h
        refine sx_wk (sx_s1 sx_m0 (sx_s1 sx_m1 (sx_s1 sx_m2 sx_s0))) ?_
        exact tB_X9_findWay_73 hG hP  h
      · have h := sx_neg c20 h
        refine sx_wk (sx_s1 sx_m0 (sx_s1 sx_m1 (sx_s1 sx_m2 (sx_s1 sx_m3 sx_s0)))) ?_
        exact tB_X9_findWay_55 hG hP hk28 h
theorem tL_X9_findWay_28 {g : sx_G} (hG : sx_Go g) {P : Option Value → sv_V → Prop} {Vr : sv_V} (hP : P none Vr) {N : Nat}   : ∀ (n : Nat) (l1 : Int64) (l3 : Int64) (l5 : Int32) (V : sv_V), sx_lp4 (B_X9_findWay_28 N ) n l1 l3 l5 V = some Vr → sv_N g qX9_findWay 1 28 [(0, .ref 70), (1, .long l1), (3, .long l3), (5, .int l5)] [] V P :=
  sx_lp4_ind (fun k0 ih _ _ _ V h => tB_X9_findWay_28 hG hP ih h)
def B_X9_findWay_25 (N : Nat)  (l1 : Int64) (l3 : Int64) (V : sv_V) : Option sv_V := sx_lp4 (B_X9_findWay_28 N ) N l1 l3 (0 : Int32) V
set_option maxRecDepth 20000 in
theorem tB_X9_findWay_25 {g : sx_G} (hG : sx_Go g) {P : Option Value → sv_V → Prop} {Vr : sv_V} (hP : P none Vr) {N : Nat}   {l1 : Int64} {l3 : Int64} {V : sv_V} (h : B_X9_findWay_25 N  l1 l3 V = some Vr) : sv_N g qX9_findWay 1 25 [(0, .ref 70), (1, .long l1), (3, .long l3)] [] V P := by
  unfold B_X9_findWay_25 at h
  refine sx_iconst (pc := 25) (v := 0) dX9_findWay_25 (by decide) ?_
  refine sx_istore (pc := 26) (lo' := [(5, .int (0 : Int32)), (0, .ref 70), (1, .long l1), (3, .long l3)]) dX9_findWay_26 (by decide) rfl ?_
  refine sx_wk (sx_s1 sx_m1 (sx_s1 sx_m2 (sx_s1 sx_m3 (sx_s1 sx_m0 sx_s0)))) ?_
  exact tL_X9_findWay_28 hG hP  N _ _ _ _ h
def F_X9_findWay (N : Nat) (l1 : Int64) (l3 : Int64) (V : sv_V) : Option sv_V := if (lg_cmp l1 (0 : Int64)) = 0 then (if (lg_cmp l3 (0 : Int64)) = 0 then (sx_let (sv_I V 70 12 (16384 : Int32)) (fun V23 => sx_let (sv_I V23 70 13 (0 : Int32)) (fun V24 => some V24))) else (B_X9_findWay_25 N  l1 l3 V)) else (B_X9_findWay_25 N  l1 l3 V)
set_option maxRecDepth 20000 in
theorem t_X9_findWay {g : sx_G} (hG : sx_Go g) {P : Option Value → sv_V → Prop} {Vr : sv_V} (hP : P none Vr) {N : Nat} {l1 : Int64} {l3 : Int64} {V : sv_V} (h : F_X9_findWay N l1 l3 V = some Vr) : sv_N g qX9_findWay 1 0 [(0, .ref 70), (1, .long l1), (3, .long l3)] [] V P := by
  unfold F_X9_findWay at h
  refine sx_lload_n (pc := 0) dX9_findWay_0 sx_m1 ?_
  refine sx_lconst (pc := 1) (v := 0) dX9_findWay_1 rfl ?_
  refine sx_lcmp (pc := 2) dX9_findWay_2 ?_
  refine sx_if_ne (pc := 3) (tgt := 25) dX9_findWay_3 (by decide) (fun c21 => ?_) (fun c21 => ?_)
  · have h := sx_neg c21 h
    refine sx_wk (sx_s1 sx_m0 (sx_s1 sx_m1 (sx_s1 sx_m2 sx_s0))) ?_
    exact tB_X9_findWay_25 hG hP  h
  · have h := sx_pos c21 h
    refine sx_lload_n (pc := 6) dX9_findWay_6 sx_m2 ?_
    refine sx_lconst (pc := 7) (v := 0) dX9_findWay_7 rfl ?_
    refine sx_lcmp (pc := 8) dX9_findWay_8 ?_
    refine sx_if_ne (pc := 9) (tgt := 25) dX9_findWay_9 (by decide) (fun c22 => ?_) (fun c22 => ?_)
    · have h := sx_neg c22 h
      refine sx_wk (sx_s1 sx_m0 (sx_s1 sx_m1 (sx_s1 sx_m2 sx_s0))) ?_
      exact tB_X9_findWay_25 hG hP  h
    · have h := sx_pos c22 h
      refine sx_aload_n (pc := 12) dX9_findWay_12 sx_m0 ?_
      refine sx_sipush (pc := 13) (v := 16384) dX9_findWay_13 (by decide) ?_
      obtain ⟨V23, hV23⟩ : ∃ z : sv_V, z = sv_I V 70 12 (16384 : Int32) := ⟨_, rfl⟩
      have h := sx_letE hV23 h
      refine sv_putI (pc := 16) hG dX9_findWay_16 f_9_35 lay_70 rfl hV23 ?_
      refine sx_aload_n (pc := 19) dX9_findWay_19 sx_m0 ?_
      refine sx_iconst (pc := 20) (v := 0) dX9_findWay_20 (by decide) ?_
      obtain ⟨V24, hV24⟩ : ∃ z : sv_V, z = sv_I V23 70 13 (0 : Int32) := ⟨_, rfl⟩
      have h := sx_letE hV24 h
      refine sv_putI (pc := 21) hG dX9_findWay_21 f_9_38 lay_70 rfl hV24 ?_
      exact sv_vret (pc := 24) dX9_findWay_24 rfl h hP
theorem dX9_rounded_0 : decode cX9_rounded 0 = .ok (.aload_n 0, 1) := by decide +kernel
theorem dX9_rounded_1 : decode cX9_rounded 1 = .ok (.getfield 77, 3) := by decide +kernel
theorem dX9_rounded_4 : decode cX9_rounded 4 = .ok (.ifCond .gt 5, 3) := by decide +kernel
theorem dX9_rounded_7 : decode cX9_rounded 7 = .ok (.lload_n 1, 1) := by decide +kernel
theorem dX9_rounded_8 : decode cX9_rounded 8 = .ok (.lreturn, 1) := by decide +kernel
theorem dX9_rounded_9 : decode cX9_rounded 9 = .ok (.lload_n 1, 1) := by decide +kernel
theorem dX9_rounded_10 : decode cX9_rounded 10 = .ok (.lconst 0, 1) := by decide +kernel
theorem dX9_rounded_11 : decode cX9_rounded 11 = .ok (.lcmp, 1) := by decide +kernel
theorem dX9_rounded_12 : decode cX9_rounded 12 = .ok (.ifCond .ge 8, 3) := by decide +kernel
theorem dX9_rounded_15 : decode cX9_rounded 15 = .ok (.lload_n 1, 1) := by decide +kernel
theorem dX9_rounded_16 : decode cX9_rounded 16 = .ok (.lneg, 1) := by decide +kernel
theorem dX9_rounded_17 : decode cX9_rounded 17 = .ok (.goto 4, 3) := by decide +kernel
theorem dX9_rounded_20 : decode cX9_rounded 20 = .ok (.lload_n 1, 1) := by decide +kernel
theorem dX9_rounded_21 : decode cX9_rounded 21 = .ok (.lstore_n 3, 1) := by decide +kernel
theorem dX9_rounded_22 : decode cX9_rounded 22 = .ok (.lload_n 3, 1) := by decide +kernel
theorem dX9_rounded_23 : decode cX9_rounded 23 = .ok (.aload_n 0, 1) := by decide +kernel
theorem dX9_rounded_24 : decode cX9_rounded 24 = .ok (.getfield 80, 3) := by decide +kernel
theorem dX9_rounded_27 : decode cX9_rounded 27 = .ok (.i2l, 1) := by decide +kernel
theorem dX9_rounded_28 : decode cX9_rounded 28 = .ok (.lsub, 1) := by decide +kernel
theorem dX9_rounded_29 : decode cX9_rounded 29 = .ok (.aload_n 0, 1) := by decide +kernel
theorem dX9_rounded_30 : decode cX9_rounded 30 = .ok (.getfield 83, 3) := by decide +kernel
theorem dX9_rounded_33 : decode cX9_rounded 33 = .ok (.i2l, 1) := by decide +kernel
theorem dX9_rounded_34 : decode cX9_rounded 34 = .ok (.ladd, 1) := by decide +kernel
theorem dX9_rounded_35 : decode cX9_rounded 35 = .ok (.aload_n 0, 1) := by decide +kernel
theorem dX9_rounded_36 : decode cX9_rounded 36 = .ok (.getfield 77, 3) := by decide +kernel
theorem dX9_rounded_39 : decode cX9_rounded 39 = .ok (.i2l, 1) := by decide +kernel
theorem dX9_rounded_40 : decode cX9_rounded 40 = .ok (.invokestatic 86, 3) := by decide +kernel
theorem dX9_rounded_43 : decode cX9_rounded 43 = .ok (.aload_n 0, 1) := by decide +kernel
theorem dX9_rounded_44 : decode cX9_rounded 44 = .ok (.getfield 77, 3) := by decide +kernel
theorem dX9_rounded_47 : decode cX9_rounded 47 = .ok (.i2l, 1) := by decide +kernel
theorem dX9_rounded_48 : decode cX9_rounded 48 = .ok (.lmul, 1) := by decide +kernel
theorem dX9_rounded_49 : decode cX9_rounded 49 = .ok (.aload_n 0, 1) := by decide +kernel
theorem dX9_rounded_50 : decode cX9_rounded 50 = .ok (.getfield 80, 3) := by decide +kernel
theorem dX9_rounded_53 : decode cX9_rounded 53 = .ok (.i2l, 1) := by decide +kernel
theorem dX9_rounded_54 : decode cX9_rounded 54 = .ok (.ladd, 1) := by decide +kernel
theorem dX9_rounded_55 : decode cX9_rounded 55 = .ok (.lstore 5, 2) := by decide +kernel
theorem dX9_rounded_57 : decode cX9_rounded 57 = .ok (.lload 5, 2) := by decide +kernel
theorem dX9_rounded_59 : decode cX9_rounded 59 = .ok (.lconst 0, 1) := by decide +kernel
theorem dX9_rounded_60 : decode cX9_rounded 60 = .ok (.lcmp, 1) := by decide +kernel
theorem dX9_rounded_61 : decode cX9_rounded 61 = .ok (.ifCond .ge 10, 3) := by decide +kernel
theorem dX9_rounded_64 : decode cX9_rounded 64 = .ok (.aload_n 0, 1) := by decide +kernel
theorem dX9_rounded_65 : decode cX9_rounded 65 = .ok (.getfield 80, 3) := by decide +kernel
theorem dX9_rounded_68 : decode cX9_rounded 68 = .ok (.i2l, 1) := by decide +kernel
theorem dX9_rounded_69 : decode cX9_rounded 69 = .ok (.lstore 5, 2) := by decide +kernel
theorem dX9_rounded_71 : decode cX9_rounded 71 = .ok (.lload_n 1, 1) := by decide +kernel
theorem dX9_rounded_72 : decode cX9_rounded 72 = .ok (.lconst 0, 1) := by decide +kernel
theorem dX9_rounded_73 : decode cX9_rounded 73 = .ok (.lcmp, 1) := by decide +kernel
theorem dX9_rounded_74 : decode cX9_rounded 74 = .ok (.ifCond .ge 9, 3) := by decide +kernel
theorem dX9_rounded_77 : decode cX9_rounded 77 = .ok (.lload 5, 2) := by decide +kernel
theorem dX9_rounded_79 : decode cX9_rounded 79 = .ok (.lneg, 1) := by decide +kernel
theorem dX9_rounded_80 : decode cX9_rounded 80 = .ok (.goto 5, 3) := by decide +kernel
theorem dX9_rounded_83 : decode cX9_rounded 83 = .ok (.lload 5, 2) := by decide +kernel
theorem dX9_rounded_85 : decode cX9_rounded 85 = .ok (.lreturn, 1) := by decide +kernel
def B_X9_rounded_71  (l1 : Int64) (l5 : Int64) (V : sv_V) : Option (Int64 × sv_V) := if 0 ≤ (lg_cmp l1 (0 : Int64)) then (some (l5, V)) else (some (-l5, V))
set_option maxRecDepth 20000 in
theorem tB_X9_rounded_71 {g : sx_G} (hG : sx_Go g) {P : Option Value → sv_V → Prop} {r : Int64} {Vr : sv_V} (hP : P (some (.long r)) Vr)   {l1 : Int64} {l5 : Int64} {V : sv_V} (h : B_X9_rounded_71  l1 l5 V = some (r, Vr)) : sv_N g qX9_rounded 1 71 [(1, .long l1), (5, .long l5)] [] V P := by
  unfold B_X9_rounded_71 at h
  refine sx_lload_n (pc := 71) dX9_rounded_71 sx_m0 ?_
  refine sx_lconst (pc := 72) (v := 0) dX9_rounded_72 rfl ?_
  refine sx_lcmp (pc := 73) dX9_rounded_73 ?_
  refine sx_if_ge (pc := 74) (tgt := 83) dX9_rounded_74 (by decide) (fun c1 => ?_) (fun c1 => ?_)
  · have h := sx_pos c1 h
    refine sx_lload (pc := 83) dX9_rounded_83 sx_m1 ?_
    exact sv_lret (pc := 85) dX9_rounded_85 rfl h hP
  · have h := sx_neg c1 h
    refine sx_lload (pc := 77) dX9_rounded_77 sx_m1 ?_
    refine sx_lneg (pc := 79) dX9_rounded_79 ?_
    refine sx_goto (pc := 80) (tgt := 85) dX9_rounded_80 (by decide) ?_
    exact sv_lret (pc := 85) dX9_rounded_85 rfl h hP
def B_X9_rounded_21  (l1 : Int64) (s0 : Int64) (V : sv_V) : Option (Int64 × sv_V) := (F_J9_floorDiv_f86c9 ((s0 - ((V.1 70 10).toInt64)) + ((V.1 70 11).toInt64)) ((V.1 70 9).toInt64) V).bind (fun (x4, V2) => sx_let ((x4 * ((V2.1 70 9).toInt64)) + ((V2.1 70 10).toInt64)) (fun x5 => if 0 ≤ (lg_cmp x5 (0 : Int64)) then (B_X9_rounded_71  l1 x5 V2) else (sx_let ((V2.1 70 10).toInt64) (fun x7 => B_X9_rounded_71  l1 x7 V2))))
set_option maxRecDepth 20000 in
theorem tB_X9_rounded_21 {g : sx_G} (hG : sx_Go g) {P : Option Value → sv_V → Prop} {r : Int64} {Vr : sv_V} (hP : P (some (.long r)) Vr)   {l1 : Int64} {s0 : Int64} {V : sv_V} (h : B_X9_rounded_21  l1 s0 V = some (r, Vr)) : sv_N g qX9_rounded 1 21 [(0, .ref 70), (1, .long l1)] [.long s0] V P := by
  unfold B_X9_rounded_21 at h
  refine sx_lstore_n (pc := 21) (lo' := [(3, .long s0), (0, .ref 70), (1, .long l1)]) dX9_rounded_21 (by decide) rfl ?_
  refine sx_lload_n (pc := 22) dX9_rounded_22 sx_m0 ?_
  refine sx_aload_n (pc := 23) dX9_rounded_23 sx_m1 ?_
  refine sv_getI (pc := 24) hG dX9_rounded_24 f_9_80 lay_70 rfl ?_
  refine sx_i2l (pc := 27) dX9_rounded_27 ?_
  refine sx_lsub (pc := 28) dX9_rounded_28 ?_
  refine sx_aload_n (pc := 29) dX9_rounded_29 sx_m1 ?_
  refine sv_getI (pc := 30) hG dX9_rounded_30 f_9_83 lay_70 rfl ?_
  refine sx_i2l (pc := 33) dX9_rounded_33 ?_
  refine sx_ladd (pc := 34) dX9_rounded_34 ?_
  refine sx_aload_n (pc := 35) dX9_rounded_35 sx_m1 ?_
  refine sv_getI (pc := 36) hG dX9_rounded_36 f_9_77 lay_70 rfl ?_
  refine sx_i2l (pc := 39) dX9_rounded_39 ?_
  obtain ⟨⟨x4, V2⟩, g3, h⟩ := sx_bnd h
  refine sv_cS (pc := 40) (y := qJ9_floorDiv_f86c9) (o := (some (.long x4))) (as := [.long ((s0 - ((V.1 70 10).toInt64)) + ((V.1 70 11).toInt64)), .long ((V.1 70 9).toInt64)]) (V1 := V2) dX9_rounded_40 l_X9_86 y0J9_floorDiv_f86c9 ysJ9_floorDiv_f86c9 rfl (Nat.le_of_ble_eq_true rfl) (by decide) (Nat.le_of_ble_eq_true rfl) rfl rfl rfl (t_J9_floorDiv_f86c9 hG ⟨rfl, rfl⟩ g3) ?_
  refine sx_aload_n (pc := 43) dX9_rounded_43 sx_m1 ?_
  refine sv_getI (pc := 44) hG dX9_rounded_44 f_9_77 lay_70 rfl ?_
  refine sx_i2l (pc := 47) dX9_rounded_47 ?_
  refine sx_lmul (pc := 48) dX9_rounded_48 ?_
  refine sx_aload_n (pc := 49) dX9_rounded_49 sx_m1 ?_
  refine sv_getI (pc := 50) hG dX9_rounded_50 f_9_80 lay_70 rfl ?_
  refine sx_i2l (pc := 53) dX9_rounded_53 ?_
  refine sx_ladd (pc := 54) dX9_rounded_54 ?_
  refine sv_tJ (fun x5 hx5 => ?_)
  have h := sx_letE hx5 h
  refine sx_lstore (pc := 55) (lo' := [(5, .long x5), (3, .long s0), (0, .ref 70), (1, .long l1)]) dX9_rounded_55 (by decide) rfl ?_
  refine sx_lload (pc := 57) dX9_rounded_57 sx_m0 ?_
  refine sx_lconst (pc := 59) (v := 0) dX9_rounded_59 rfl ?_
  refine sx_lcmp (pc := 60) dX9_rounded_60 ?_
  refine sx_if_ge (pc := 61) (tgt := 71) dX9_rounded_61 (by decide) (fun c6 => ?_) (fun c6 => ?_)
  · have h := sx_pos c6 h
    refine sx_wk (sx_s1 sx_m3 (sx_s1 sx_m0 sx_s0)) ?_
    exact tB_X9_rounded_71 hG hP  h
  · have h := sx_neg c6 h
    refine sx_aload_n (pc := 64) dX9_rounded_64 sx_m2 ?_
    refine sv_getI (pc := 65) hG dX9_rounded_65 f_9_80 lay_70 rfl ?_
    refine sx_i2l (pc := 68) dX9_rounded_68 ?_
    refine sv_tJ (fun x7 hx7 => ?_)
    have h := sx_letE hx7 h
    refine sx_lstore (pc := 69) (lo' := [(5, .long x7), (3, .long s0), (0, .ref 70), (1, .long l1)]) dX9_rounded_69 (by decide) rfl ?_
    refine sx_wk (sx_s1 sx_m3 (sx_s1 sx_m0 sx_s0)) ?_
    exact tB_X9_rounded_71 hG hP  h
def F_X9_rounded (l1 : Int64) (V : sv_V) : Option (Int64 × sv_V) := if 0 < (V.1 70 9) then (if 0 ≤ (lg_cmp l1 (0 : Int64)) then (B_X9_rounded_21  l1 l1 V) else (B_X9_rounded_21  l1 (-l1) V)) else (some (l1, V))
set_option maxRecDepth 20000 in
theorem t_X9_rounded {g : sx_G} (hG : sx_Go g) {P : Option Value → sv_V → Prop} {r : Int64} {Vr : sv_V} (hP : P (some (.long r)) Vr) {l1 : Int64} {V : sv_V} (h : F_X9_rounded l1 V = some (r, Vr)) : sv_N g qX9_rounded 1 0 [(0, .ref 70), (1, .long l1)] [] V P := by
  unfold F_X9_rounded at h
  refine sx_aload_n (pc := 0) dX9_rounded_0 sx_m0 ?_
  refine sv_getI (pc := 1) hG dX9_rounded_1 f_9_77 lay_70 rfl ?_
  refine sx_if_gt (pc := 4) (tgt := 9) dX9_rounded_4 (by decide) (fun c8 => ?_) (fun c8 => ?_)
  · have h := sx_pos c8 h
    refine sx_lload_n (pc := 9) dX9_rounded_9 sx_m1 ?_
    refine sx_lconst (pc := 10) (v := 0) dX9_rounded_10 rfl ?_
    refine sx_lcmp (pc := 11) dX9_rounded_11 ?_
    refine sx_if_ge (pc := 12) (tgt := 20) dX9_rounded_12 (by decide) (fun c9 => ?_) (fun c9 => ?_)
    · have h := sx_pos c9 h
      refine sx_lload_n (pc := 20) dX9_rounded_20 sx_m1 ?_
      refine sx_wk (sx_s1 sx_m0 (sx_s1 sx_m1 sx_s0)) ?_
      exact tB_X9_rounded_21 hG hP  h
    · have h := sx_neg c9 h
      refine sx_lload_n (pc := 15) dX9_rounded_15 sx_m1 ?_
      refine sx_lneg (pc := 16) dX9_rounded_16 ?_
      refine sx_goto (pc := 17) (tgt := 21) dX9_rounded_17 (by decide) ?_
      refine sx_wk (sx_s1 sx_m0 (sx_s1 sx_m1 sx_s0)) ?_
      exact tB_X9_rounded_21 hG hP  h
  · have h := sx_neg c8 h
    refine sx_lload_n (pc := 7) dX9_rounded_7 sx_m1 ?_
    exact sv_lret (pc := 8) dX9_rounded_8 rfl h hP
theorem dX10_traceContour_0 : decode cX10_traceContour 0 = .ok (.iload_n 2, 1) := by decide +kernel
theorem dX10_traceContour_1 : decode cX10_traceContour 1 = .ok (.istore 4, 2) := by decide +kernel
theorem dX10_traceContour_3 : decode cX10_traceContour 3 = .ok (.iload 4, 2) := by decide +kernel
theorem dX10_traceContour_5 : decode cX10_traceContour 5 = .ok (.iload_n 3, 1) := by decide +kernel
theorem dX10_traceContour_6 : decode cX10_traceContour 6 = .ok (.if_icmp .gt 101, 3) := by decide +kernel
theorem dX10_traceContour_9 : decode cX10_traceContour 9 = .ok (.iload 4, 2) := by decide +kernel
theorem dX10_traceContour_11 : decode cX10_traceContour 11 = .ok (.iload_n 2, 1) := by decide +kernel
theorem dX10_traceContour_12 : decode cX10_traceContour 12 = .ok (.if_icmp .ne 7, 3) := by decide +kernel
theorem dX10_traceContour_15 : decode cX10_traceContour 15 = .ok (.iload_n 3, 1) := by decide +kernel
theorem dX10_traceContour_16 : decode cX10_traceContour 16 = .ok (.goto 7, 3) := by decide +kernel
theorem dX10_traceContour_19 : decode cX10_traceContour 19 = .ok (.iload 4, 2) := by decide +kernel
theorem dX10_traceContour_21 : decode cX10_traceContour 21 = .ok (.iconst 1, 1) := by decide +kernel
theorem dX10_traceContour_22 : decode cX10_traceContour 22 = .ok (.isub, 1) := by decide +kernel
theorem dX10_traceContour_23 : decode cX10_traceContour 23 = .ok (.istore 5, 2) := by decide +kernel
theorem dX10_traceContour_25 : decode cX10_traceContour 25 = .ok (.iload 4, 2) := by decide +kernel
theorem dX10_traceContour_27 : decode cX10_traceContour 27 = .ok (.iload_n 3, 1) := by decide +kernel
theorem dX10_traceContour_28 : decode cX10_traceContour 28 = .ok (.if_icmp .ne 7, 3) := by decide +kernel
theorem dX10_traceContour_31 : decode cX10_traceContour 31 = .ok (.iload_n 2, 1) := by decide +kernel
theorem dX10_traceContour_32 : decode cX10_traceContour 32 = .ok (.goto 7, 3) := by decide +kernel
theorem dX10_traceContour_35 : decode cX10_traceContour 35 = .ok (.iload 4, 2) := by decide +kernel
theorem dX10_traceContour_37 : decode cX10_traceContour 37 = .ok (.iconst 1, 1) := by decide +kernel
theorem dX10_traceContour_38 : decode cX10_traceContour 38 = .ok (.iadd, 1) := by decide +kernel
theorem dX10_traceContour_39 : decode cX10_traceContour 39 = .ok (.istore 6, 2) := by decide +kernel
theorem dX10_traceContour_41 : decode cX10_traceContour 41 = .ok (.iload_n 2, 1) := by decide +kernel
theorem dX10_traceContour_42 : decode cX10_traceContour 42 = .ok (.iload_n 3, 1) := by decide +kernel
theorem dX10_traceContour_43 : decode cX10_traceContour 43 = .ok (.if_icmp .eq 25, 3) := by decide +kernel
theorem dX10_traceContour_46 : decode cX10_traceContour 46 = .ok (.aload_n 1, 1) := by decide +kernel
theorem dX10_traceContour_47 : decode cX10_traceContour 47 = .ok (.getfield 78, 3) := by decide +kernel
theorem dX10_traceContour_50 : decode cX10_traceContour 50 = .ok (.iload 4, 2) := by decide +kernel
theorem dX10_traceContour_52 : decode cX10_traceContour 52 = .ok (.iaload, 1) := by decide +kernel
theorem dX10_traceContour_53 : decode cX10_traceContour 53 = .ok (.iconst 1, 1) := by decide +kernel
theorem dX10_traceContour_54 : decode cX10_traceContour 54 = .ok (.if_icmp .ne 26, 3) := by decide +kernel
theorem dX10_traceContour_57 : decode cX10_traceContour 57 = .ok (.aload_n 1, 1) := by decide +kernel
theorem dX10_traceContour_58 : decode cX10_traceContour 58 = .ok (.getfield 78, 3) := by decide +kernel
theorem dX10_traceContour_61 : decode cX10_traceContour 61 = .ok (.iload 6, 2) := by decide +kernel
theorem dX10_traceContour_63 : decode cX10_traceContour 63 = .ok (.iaload, 1) := by decide +kernel
theorem dX10_traceContour_64 : decode cX10_traceContour 64 = .ok (.iconst 1, 1) := by decide +kernel
theorem dX10_traceContour_65 : decode cX10_traceContour 65 = .ok (.if_icmp .ne 15, 3) := by decide +kernel
theorem dX10_traceContour_68 : decode cX10_traceContour 68 = .ok (.aload_n 0, 1) := by decide +kernel
theorem dX10_traceContour_69 : decode cX10_traceContour 69 = .ok (.aload_n 1, 1) := by decide +kernel
theorem dX10_traceContour_70 : decode cX10_traceContour 70 = .ok (.iload 4, 2) := by decide +kernel
theorem dX10_traceContour_72 : decode cX10_traceContour 72 = .ok (.iload 6, 2) := by decide +kernel
theorem dX10_traceContour_74 : decode cX10_traceContour 74 = .ok (.invokevirtual 81, 3) := by decide +kernel
theorem dX10_traceContour_77 : decode cX10_traceContour 77 = .ok (.goto 24, 3) := by decide +kernel
theorem dX10_traceContour_80 : decode cX10_traceContour 80 = .ok (.aload_n 1, 1) := by decide +kernel
theorem dX10_traceContour_81 : decode cX10_traceContour 81 = .ok (.getfield 78, 3) := by decide +kernel
theorem dX10_traceContour_84 : decode cX10_traceContour 84 = .ok (.iload 4, 2) := by decide +kernel
theorem dX10_traceContour_86 : decode cX10_traceContour 86 = .ok (.iaload, 1) := by decide +kernel
theorem dX10_traceContour_87 : decode cX10_traceContour 87 = .ok (.ifCond .ne 14, 3) := by decide +kernel
theorem dX10_traceContour_90 : decode cX10_traceContour 90 = .ok (.aload_n 0, 1) := by decide +kernel
theorem dX10_traceContour_91 : decode cX10_traceContour 91 = .ok (.aload_n 1, 1) := by decide +kernel
theorem dX10_traceContour_92 : decode cX10_traceContour 92 = .ok (.iload 5, 2) := by decide +kernel
theorem dX10_traceContour_94 : decode cX10_traceContour 94 = .ok (.iload 4, 2) := by decide +kernel
theorem dX10_traceContour_96 : decode cX10_traceContour 96 = .ok (.iload 6, 2) := by decide +kernel
theorem dX10_traceContour_98 : decode cX10_traceContour 98 = .ok (.invokevirtual 84, 3) := by decide +kernel
theorem dX10_traceContour_101 : decode cX10_traceContour 101 = .ok (.iinc 4 1, 3) := by decide +kernel
theorem dX10_traceContour_104 : decode cX10_traceContour 104 = .ok (.goto (-101), 3) := by decide +kernel
theorem dX10_traceContour_107 : decode cX10_traceContour 107 = .ok (.return_, 1) := by decide +kernel
def B_X10_traceContour_101 (N : Nat) (k3 : Nat → Int32 → Int32 → Int32 → sv_V → Option sv_V) (l1 : Nat) (l2 : Int32) (l3 : Int32) (l4 : Int32) (V : sv_V) : Option sv_V := sx_let (l4 + 1) (fun x1 => k3 l1 l2 l3 x1 V)
set_option maxRecDepth 20000 in
theorem tB_X10_traceContour_101 {g : sx_G} (hG : sx_Go g) {P : Option Value → sv_V → Prop} {Vr : sv_V} (hP : P none Vr) {N : Nat} {k3 : Nat → Int32 → Int32 → Int32 → sv_V → Option sv_V} (hk3 : ∀ (l1 : Nat) (l2 : Int32) (l3 : Int32) (l4 : Int32) (V : sv_V), k3 l1 l2 l3 l4 V = some Vr → sv_N g qX10_traceContour 1 3 [(0, .ref 60), (1, .ref l1), (2, .int l2), (3, .int l3), (4, .int l4)] [] V P) {l1 : Nat} {l2 : Int32} {l3 : Int32} {l4 : Int32} {V : sv_V} (h : B_X10_traceContour_101 N k3 l1 l2 l3 l4 V = some Vr) : sv_N g qX10_traceContour 1 101 [(0, .ref 60), (1, .ref l1), (2, .int l2), (3, .int l3), (4, .int l4)] [] V P := by
  unfold B_X10_traceContour_101 at h
  obtain ⟨x1, hx1⟩ : ∃ z : Int32, z = l4 + 1 := ⟨_, rfl⟩
  have h := sx_letE hx1 h
  refine sx_iinc (pc := 101) (v := x1) (lo' := [(4, .int x1), (0, .ref 60), (1, .ref l1), (2, .int l2), (3, .int l3)]) dX10_traceContour_101 sx_m4 (by rw [hx1]; rfl) (by decide) rfl ?_
  refine sx_goto (pc := 104) (tgt := 3) dX10_traceContour_104 (by decide) ?_
  refine sx_wk (sx_s1 sx_m1 (sx_s1 sx_m2 (sx_s1 sx_m3 (sx_s1 sx_m4 (sx_s1 sx_m0 sx_s0))))) ?_
  exact hk3 _ _ _ _ _ h
def B_X10_traceContour_68 (N : Nat) (k3 : Nat → Int32 → Int32 → Int32 → sv_V → Option sv_V) (l1 : Nat) (l2 : Int32) (l3 : Int32) (l4 : Int32) (l6 : Int32) (V : sv_V) : Option sv_V := (F_X10_addLine l1 l4 l6 V).bind (fun V2 => B_X10_traceContour_101 N k3 l1 l2 l3 l4 V2)
set_option maxRecDepth 20000 in
theorem tB_X10_traceContour_68 {g : sx_G} (hG : sx_Go g) {P : Option Value → sv_V → Prop} {Vr : sv_V} (hP : P none Vr) {N : Nat} {k3 : Nat → Int32 → Int32 → Int32 → sv_V → Option sv_V} (hk3 : ∀ (l1 : Nat) (l2 : Int32) (l3 : Int32) (l4 : Int32) (V : sv_V), k3 l1 l2 l3 l4 V = some Vr → sv_N g qX10_traceContour 1 3 [(0, .ref 60), (1, .ref l1), (2, .int l2), (3, .int l3), (4, .int l4)] [] V P) {l1 : Nat} {l2 : Int32} {l3 : Int32} {l4 : Int32} {l6 : Int32} {V : sv_V} (h : B_X10_traceContour_68 N k3 l1 l2 l3 l4 l6 V = some Vr) : sv_N g qX10_traceContour 1 68 [(0, .ref 60), (1, .ref l1), (2, .int l2), (3, .int l3), (4, .int l4), (6, .int l6)] [] V P := by
  unfold B_X10_traceContour_68 at h
  refine sx_aload_n (pc := 68) dX10_traceContour_68 sx_m0 ?_
  refine sx_aload_n (pc := 69) dX10_traceContour_69 sx_m1 ?_
  refine sx_iload (pc := 70) dX10_traceContour_70 sx_m4 ?_
  refine sx_iload (pc := 72) dX10_traceContour_72 sx_m5 ?_
  obtain ⟨V2, g3, h⟩ := sx_bnd h
  refine sv_cV (pc := 74) (y := qX10_addLine) (o := none) (as := [.ref l1, .int l4, .int l6]) (V1 := V2) hG dX10_traceContour_74 l_X10_81 y0X10_addLine yvX10_addLine rfl (Nat.le_of_ble_eq_true rfl) lay_60 kr_10 (by decide) (Nat.le_of_ble_eq_true rfl) rfl rfl rfl (t_X10_addLine hG ⟨rfl, rfl⟩ g3) ?_
  refine sx_goto (pc := 77) (tgt := 101) dX10_traceContour_77 (by decide) ?_
  refine sx_wk (sx_s1 sx_m0 (sx_s1 sx_m1 (sx_s1 sx_m2 (sx_s1 sx_m3 (sx_s1 sx_m4 sx_s0))))) ?_
  exact tB_X10_traceContour_101 hG hP hk3 h
def B_X10_traceContour_80 (N : Nat) (k3 : Nat → Int32 → Int32 → Int32 → sv_V → Option sv_V) (l1 : Nat) (l2 : Int32) (l3 : Int32) (l4 : Int32) (l5 : Int32) (l6 : Int32) (V : sv_V) : Option sv_V := if lay l1 = .inl 8 then (cr l1 5).bind (fun b5 => (sv_len 0 b5).bind (fun n7 => if sx_in l4 n7 = true then if (V.1 b5 l4.toNatClampNeg) = 0 then ((F_X10_addCurve l1 l5 l4 l6 V).bind (fun V11 => B_X10_traceContour_101 N k3 l1 l2 l3 l4 V11)) else (B_X10_traceContour_101 N k3 l1 l2 l3 l4 V) else none)) else none
set_option maxRecDepth 20000 in
theorem tB_X10_traceContour_80 {g : sx_G} (hG : sx_Go g) {P : Option Value → sv_V → Prop} {Vr : sv_V} (hP : P none Vr) {N : Nat} {k3 : Nat → Int32 → Int32 → Int32 → sv_V → Option sv_V} (hk3 : ∀ (l1 : Nat) (l2 : Int32) (l3 : Int32) (l4 : Int32) (V : sv_V), k3 l1 l2 l3 l4 V = some Vr → sv_N g qX10_traceContour 1 3 [(0, .ref 60), (1, .ref l1), (2, .int l2), (3, .int l3), (4, .int l4)] [] V P) {l1 : Nat} {l2 : Int32} {l3 : Int32} {l4 : Int32} {l5 : Int32} {l6 : Int32} {V : sv_V} (h : B_X10_traceContour_80 N k3 l1 l2 l3 l4 l5 l6 V = some Vr) : sv_N g qX10_traceContour 1 80 [(0, .ref 60), (1, .ref l1), (2, .int l2), (3, .int l3), (4, .int l4), (5, .int l5), (6, .int l6)] [] V P := by
  unfold B_X10_traceContour_80 at h
  refine sx_aload_n (pc := 80) dX10_traceContour_80 sx_m1 ?_
  obtain ⟨g4, h⟩ := sx_grd h
  obtain ⟨b5, g6, h⟩ := sx_bnd h
  refine sv_getA (pc := 81) hG dX10_traceContour_81 f_10_78 g4 rfl g6 ?_
  refine sx_iload (pc := 84) dX10_traceContour_84 sx_m4 ?_
  obtain ⟨n7, g8, h⟩ := sx_bnd h
  obtain ⟨g9, h⟩ := sx_grd h
  refine sv_iald (pc := 86) hG dX10_traceContour_86 (sv_len_e g8) g9 ?_
  refine sx_if_ne (pc := 87) (tgt := 101) dX10_traceContour_87 (by decide) (fun c10 => ?_) (fun c10 => ?_)
  · have h := sx_neg c10 h
    refine sx_wk (sx_s1 sx_m0 (sx_s1 sx_m1 (sx_s1 sx_m2 (sx_s1 sx_m3 (sx_s1 sx_m4 sx_s0))))) ?_
    exact tB_X10_traceContour_101 hG hP hk3 h
  · have h := sx_pos c10 h
    refine sx_aload_n (pc := 90) dX10_traceContour_90 sx_m0 ?_
    refine sx_aload_n (pc := 91) dX10_traceContour_91 sx_m1 ?_
    refine sx_iload (pc := 92) dX10_traceContour_92 sx_m5 ?_
    refine sx_iload (pc := 94) dX10_traceContour_94 sx_m4 ?_
    refine sx_iload (pc := 96) dX10_traceContour_96 sx_m6 ?_
    obtain ⟨V11, g12, h⟩ := sx_bnd h
    refine sv_cV (pc := 98) (y := qX10_addCurve) (o := none) (as := [.ref l1, .int l5, .int l4, .int l6]) (V1 := V11) hG dX10_traceContour_98 l_X10_84 y0X10_addCurve yvX10_addCurve rfl (Nat.le_of_ble_eq_true rfl) lay_60 kr_10 (by decide) (Nat.le_of_ble_eq_true rfl) rfl rfl rfl (t_X10_addCurve hG ⟨rfl, rfl⟩ g12) ?_
    refine sx_wk (sx_s1 sx_m0 (sx_s1 sx_m1 (sx_s1 sx_m2 (sx_s1 sx_m3 (sx_s1 sx_m4 sx_s0))))) ?_
    exact tB_X10_traceContour_101 hG hP hk3 h
def B_X10_traceContour_39 (N : Nat) (k3 : Nat → Int32 → Int32 → Int32 → sv_V → Option sv_V) (l1 : Nat) (l2 : Int32) (l3 : Int32) (l4 : Int32) (l5 : Int32) (s0 : Int32) (V : sv_V) : Option sv_V := if l2 = l3 then (B_X10_traceContour_68 N k3 l1 l2 l3 l4 s0 V) else (if lay l1 = .inl 8 then (cr l1 5).bind (fun b15 => (sv_len 0 b15).bind (fun n17 => if sx_in l4 n17 = true then if (V.1 b15 l4.toNatClampNeg) = (1 : Int32) then (if sx_in s0 n17 = true then if (V.1 b15 s0.toNatClampNeg) = (1 : Int32) then (B_X10_traceContour_68 N k3 l1 l2 l3 l4 s0 V) else (B_X10_traceContour_80 N k3 l1 l2 l3 l4 l5 s0 V) else none) else (B_X10_traceContour_80 N k3 l1 l2 l3 l4 l5 s0 V) else none)) else none)
set_option maxRecDepth 20000 in
theorem tB_X10_traceContour_39 {g : sx_G} (hG : sx_Go g) {P : Option Value → sv_V → Prop} {Vr : sv_V} (hP : P none Vr) {N : Nat} {k3 : Nat → Int32 → Int32 → Int32 → sv_V → Option sv_V} (hk3 : ∀ (l1 : Nat) (l2 : Int32) (l3 : Int32) (l4 : Int32) (V : sv_V), k3 l1 l2 l3 l4 V = some Vr → sv_N g qX10_traceContour 1 3 [(0, .ref 60), (1, .ref l1), (2, .int l2), (3, .int l3), (4, .int l4)] [] V P) {l1 : Nat} {l2 : Int32} {l3 : Int32} {l4 : Int32} {l5 : Int32} {s0 : Int32} {V : sv_V} (h : B_X10_traceContour_39 N k3 l1 l2 l3 l4 l5 s0 V = some Vr) : sv_N g qX10_traceContour 1 39 [(0, .ref 60), (1, .ref l1), (2, .int l2), (3, .int l3), (4, .int l4), (5, .int l5)] [.int s0] V P := by
  unfold B_X10_traceContour_39 at h
  refine sx_istore (pc := 39) (lo' := [(6, .int s0), (0, .ref 60), (1, .ref l1), (2, .int l2), (3, .int l3), (4, .int l4), (5, .int l5)]) dX10_traceContour_39 (by decide) rfl ?_
  refine sx_iload_n (pc := 41) dX10_traceContour_41 sx_m3 ?_
  refine sx_iload_n (pc := 42) dX10_traceContour_42 sx_m4 ?_
  refine sx_icmp_eq (pc := 43) (tgt := 68) dX10_traceContour_43 (by decide) (fun c13 => ?_) (fun c13 => ?_)
  · have h := sx_pos c13 h
    refine sx_wk (sx_s1 sx_m1 (sx_s1 sx_m2 (sx_s1 sx_m3 (sx_s1 sx_m4 (sx_s1 sx_m5 (sx_s1 sx_m0 sx_s0)))))) ?_
    exact tB_X10_traceContour_68 hG hP hk3 h
  · have h := sx_neg c13 h
    refine sx_aload_n (pc := 46) dX10_traceContour_46 sx_m2 ?_
    obtain ⟨g14, h⟩ := sx_grd h
    obtain ⟨b15, g16, h⟩ := sx_bnd h
    refine sv_getA (pc := 47) hG dX10_traceContour_47 f_10_78 g14 rfl g16 ?_
    refine sx_iload (pc := 50) dX10_traceContour_50 sx_m5 ?_
    obtain ⟨n17, g18, h⟩ := sx_bnd h
    obtain ⟨g19, h⟩ := sx_grd h
    refine sv_iald (pc := 52) hG dX10_traceContour_52 (sv_len_e g18) g19 ?_
    refine sx_iconst (pc := 53) (v := 1) dX10_traceContour_53 (by decide) ?_
    refine sx_icmp_ne (pc := 54) (tgt := 80) dX10_traceContour_54 (by decide) (fun c20 => ?_) (fun c20 => ?_)
    · have h := sx_neg c20 h
      refine sx_wk (sx_s1 sx_m1 (sx_s1 sx_m2 (sx_s1 sx_m3 (sx_s1 sx_m4 (sx_s1 sx_m5 (sx_s1 sx_m6 (sx_s1 sx_m0 sx_s0))))))) ?_
      exact tB_X10_traceContour_80 hG hP hk3 h
    · have h := sx_pos c20 h
      refine sx_aload_n (pc := 57) dX10_traceContour_57 sx_m2 ?_
      refine sv_getA (pc := 58) hG dX10_traceContour_58 f_10_78 g14 rfl g16 ?_
      refine sx_iload (pc := 61) dX10_traceContour_61 sx_m0 ?_
      obtain ⟨g21, h⟩ := sx_grd h
      refine sv_iald (pc := 63) hG dX10_traceContour_63 (sv_len_e g18) g21 ?_
      refine sx_iconst (pc := 64) (v := 1) dX10_traceContour_64 (by decide) ?_
      refine sx_icmp_ne (pc := 65) (tgt := 80) dX10_traceContour_65 (by decide) (fun c22 => ?_) (fun c22 => ?_)
      · have h := sx_neg c22 h
        refine sx_wk (sx_s1 sx_m1 (sx_s1 sx_m2 (sx_s1 sx_m3 (sx_s1 sx_m4 (sx_s1 sx_m5 (sx_s1 sx_m6 (sx_s1 sx_m0 sx_s0))))))) ?_
        exact tB_X10_traceContour_80 hG hP hk3 h
      · have h := sx_pos c22 h
        refine sx_wk (sx_s1 sx_m1 (sx_s1 sx_m2 (sx_s1 sx_m3 (sx_s1 sx_m4 (sx_s1 sx_m5 (sx_s1 sx_m0 sx_s0)))))) ?_
        exact tB_X10_traceContour_68 hG hP hk3 h
def B_X10_traceContour_23 (N : Nat) (k3 : Nat → Int32 → Int32 → Int32 → sv_V → Option sv_V) (l1 : Nat) (l2 : Int32) (l3 : Int32) (l4 : Int32) (s0 : Int32) (V : sv_V) : Option sv_V := if l4 = l3 then (B_X10_traceContour_39 N k3 l1 l2 l3 l4 s0 l2 V) else (B_X10_traceContour_39 N k3 l1 l2 l3 l4 s0 (l4 + (1 : Int32)) V)
set_option maxRecDepth 20000 in
theorem tB_X10_traceContour_23 {g : sx_G} (hG : sx_Go g) {P : Option Value → sv_V → Prop} {Vr : sv_V} (hP : P none Vr) {N : Nat} {k3 : Nat → Int32 → Int32 → Int32 → sv_V → Option sv_V} (hk3 : ∀ (l1 : Nat) (l2 : Int32) (l3 : Int32) (l4 : Int32) (V : sv_V), k3 l1 l2 l3 l4 V = some Vr → sv_N g qX10_traceContour 1 3 [(0, .ref 60), (1, .ref l1), (2, .int l2), (3, .int l3), (4, .int l4)] [] V P) {l1 : Nat} {l2 : Int32} {l3 : Int32} {l4 : Int32} {s0 : Int32} {V : sv_V} (h : B_X10_traceContour_23 N k3 l1 l2 l3 l4 s0 V = some Vr) : sv_N g qX10_traceContour 1 23 [(0, .ref 60), (1, .ref l1), (2, .int l2), (3, .int l3), (4, .int l4)] [.int s0] V P := by
  unfold B_X10_traceContour_23 at h
  refine sx_istore (pc := 23) (lo' := [(5, .int s0), (0, .ref 60), (1, .ref l1), (2, .int l2), (3, .int l3), (4, .int l4)]) dX10_traceContour_23 (by decide) rfl ?_
  refine sx_iload (pc := 25) dX10_traceContour_25 sx_m5 ?_
  refine sx_iload_n (pc := 27) dX10_traceContour_27 sx_m4 ?_
  refine sx_icmp_ne (pc := 28) (tgt := 35) dX10_traceContour_28 (by decide) (fun c23 => ?_) (fun c23 => ?_)
  · have h := sx_neg c23 h
    refine sx_iload (pc := 35) dX10_traceContour_35 sx_m5 ?_
    refine sx_iconst (pc := 37) (v := 1) dX10_traceContour_37 (by decide) ?_
    refine sx_iadd (pc := 38) dX10_traceContour_38 ?_
    refine sx_wk (sx_s1 sx_m1 (sx_s1 sx_m2 (sx_s1 sx_m3 (sx_s1 sx_m4 (sx_s1 sx_m5 (sx_s1 sx_m0 sx_s0)))))) ?_
    exact tB_X10_traceContour_39 hG hP hk3 h
  · have h := sx_pos c23 h
    refine sx_iload_n (pc := 31) dX10_traceContour_31 sx_m3 ?_
    refine sx_goto (pc := 32) (tgt := 39) dX10_traceContour_32 (by decide) ?_
    refine sx_wk (sx_s1 sx_m1 (sx_s1 sx_m2 (sx_s1 sx_m3 (sx_s1 sx_m4 (sx_s1 sx_m5 (sx_s1 sx_m0 sx_s0)))))) ?_
    exact tB_X10_traceContour_39 hG hP hk3 h
def B_X10_traceContour_3 (N : Nat) (k3 : Nat → Int32 → Int32 → Int32 → sv_V → Option sv_V) (l1 : Nat) (l2 : Int32) (l3 : Int32) (l4 : Int32) (V : sv_V) : Option sv_V := if l3 < l4 then (some V) else (if l4 = l2 then (B_X10_traceContour_23 N k3 l1 l2 l3 l4 l3 V) else (B_X10_traceContour_23 N k3 l1 l2 l3 l4 (l4 - (1 : Int32)) V))
set_option maxRecDepth 20000 in
theorem tB_X10_traceContour_3 {g : sx_G} (hG : sx_Go g) {P : Option Value → sv_V → Prop} {Vr : sv_V} (hP : P none Vr) {N : Nat} {k3 : Nat → Int32 → Int32 → Int32 → sv_V → Option sv_V} (hk3 : ∀ (l1 : Nat) (l2 : Int32) (l3 : Int32) (l4 : Int32) (V : sv_V), k3 l1 l2 l3 l4 V = some Vr → sv_N g qX10_traceContour 1 3 [(0, .ref 60), (1, .ref l1), (2, .int l2), (3, .int l3), (4, .int l4)] [] V P) {l1 : Nat} {l2 : Int32} {l3 : Int32} {l4 : Int32} {V : sv_V} (h : B_X10_traceContour_3 N k3 l1 l2 l3 l4 V = some Vr) : sv_N g qX10_traceContour 1 3 [(0, .ref 60), (1, .ref l1), (2, .int l2), (3, .int l3), (4, .int l4)] [] V P := by
  unfold B_X10_traceContour_3 at h
  refine sx_iload (pc := 3) dX10_traceContour_3 sx_m4 ?_
  refine sx_iload_n (pc := 5) dX10_traceContour_5 sx_m3 ?_
  refine sx_icmp_gt (pc := 6) (tgt := 107) dX10_traceContour_6 (by decide) (fun c24 => ?_) (fun c24 => ?_)
  · have h := sx_pos c24 h
    exact sv_vret (pc := 107) dX10_traceContour_107 rfl h hP
  · have h := sx_neg c24 h
    refine sx_iload (pc := 9) dX10_traceContour_9 sx_m4 ?_
    refine sx_iload_n (pc := 11) dX10_traceContour_11 sx_m2 ?_
    refine sx_icmp_ne (pc := 12) (tgt := 19) dX10_traceContour_12 (by decide) (fun c25 => ?_) (fun c25 => ?_)
    · have h := sx_neg c25 h
      refine sx_iload (pc := 19) dX10_traceContour_19 sx_m4 ?_
      refine sx_iconst (pc := 21) (v := 1) dX10_traceContour_21 (by decide) ?_
      refine sx_isub (pc := 22) dX10_traceContour_22 ?_
      refine sx_wk (sx_s1 sx_m0 (sx_s1 sx_m1 (sx_s1 sx_m2 (sx_s1 sx_m3 (sx_s1 sx_m4 sx_s0))))) ?_
      exact tB_X10_traceContour_23 hG hP hk3 h
    · have h := sx_pos c25 h
      refine sx_iload_n (pc := 15) dX10_traceContour_15 sx_m3 ?_
      refine sx_goto (pc := 16) (tgt := 23) dX10_traceContour_16 (by decide) ?_
      refine sx_wk (sx_s1 sx_m0 (sx_s1 sx_m1 (sx_s1 sx_m2 (sx_s1 sx_m3 (sx_s1 sx_m4 sx_s0))))) ?_
      exact tB_X10_traceContour_23 hG hP hk3 h
theorem tL_X10_traceContour_3 {g : sx_G} (hG : sx_Go g) {P : Option Value → sv_V → Prop} {Vr : sv_V} (hP : P none Vr) {N : Nat}   : ∀ (n : Nat) (l1 : Nat) (l2 : Int32) (l3 : Int32) (l4 : Int32) (V : sv_V), sx_lp5 (B_X10_traceContour_3 N ) n l1 l2 l3 l4 V = some Vr → sv_N g qX10_traceContour 1 3 [(0, .ref 60), (1, .ref l1), (2, .int l2), (3, .int l3), (4, .int l4)] [] V P :=
  sx_lp5_ind (fun k0 ih _ _ _ _ V h => tB_X10_traceContour_3 hG hP ih h)
def F_X10_traceContour (N : Nat) (l1 : Nat) (l2 : Int32) (l3 : Int32) (V : sv_V) : Option sv_V := sx_lp5 (B_X10_traceContour_3 N ) N l1 l2 l3 l2 V
set_option maxRecDepth 20000 in
theorem t_X10_traceContour {g : sx_G} (hG : sx_Go g) {P : Option Value → sv_V → Prop} {Vr : sv_V} (hP : P none Vr) {N : Nat} {l1 : Nat} {l2 : Int32} {l3 : Int32} {V : sv_V} (h : F_X10_traceContour N l1 l2 l3 V = some Vr) : sv_N g qX10_traceContour 1 0 [(0, .ref 60), (1, .ref l1), (2, .int l2), (3, .int l3)] [] V P := by
  unfold F_X10_traceContour at h
  refine sx_iload_n (pc := 0) dX10_traceContour_0 sx_m2 ?_
  refine sx_istore (pc := 1) (lo' := [(4, .int l2), (0, .ref 60), (1, .ref l1), (2, .int l2), (3, .int l3)]) dX10_traceContour_1 (by decide) rfl ?_
  refine sx_wk (sx_s1 sx_m1 (sx_s1 sx_m2 (sx_s1 sx_m3 (sx_s1 sx_m4 (sx_s1 sx_m0 sx_s0))))) ?_
  exact tL_X10_traceContour_3 hG hP  N _ _ _ _ _ h
theorem dX10_chooseRow_0 : decode cX10_chooseRow 0 = .ok (.aload_n 0, 1) := by decide +kernel
theorem dX10_chooseRow_1 : decode cX10_chooseRow 1 = .ok (.iconst 0, 1) := by decide +kernel
theorem dX10_chooseRow_2 : decode cX10_chooseRow 2 = .ok (.putfield 91, 3) := by decide +kernel
theorem dX10_chooseRow_5 : decode cX10_chooseRow 5 = .ok (.iconst 0, 1) := by decide +kernel
theorem dX10_chooseRow_6 : decode cX10_chooseRow 6 = .ok (.istore_n 2, 1) := by decide +kernel
theorem dX10_chooseRow_7 : decode cX10_chooseRow 7 = .ok (.iload_n 2, 1) := by decide +kernel
theorem dX10_chooseRow_8 : decode cX10_chooseRow 8 = .ok (.aload_n 0, 1) := by decide +kernel
theorem dX10_chooseRow_9 : decode cX10_chooseRow 9 = .ok (.getfield 37, 3) := by decide +kernel
theorem dX10_chooseRow_12 : decode cX10_chooseRow 12 = .ok (.if_icmp .ge 91, 3) := by decide +kernel
theorem dX10_chooseRow_15 : decode cX10_chooseRow 15 = .ok (.aload_n 0, 1) := by decide +kernel
theorem dX10_chooseRow_16 : decode cX10_chooseRow 16 = .ok (.getfield 15, 3) := by decide +kernel
theorem dX10_chooseRow_19 : decode cX10_chooseRow 19 = .ok (.iload_n 2, 1) := by decide +kernel
theorem dX10_chooseRow_20 : decode cX10_chooseRow 20 = .ok (.iaload, 1) := by decide +kernel
theorem dX10_chooseRow_21 : decode cX10_chooseRow 21 = .ok (.aload_n 0, 1) := by decide +kernel
theorem dX10_chooseRow_22 : decode cX10_chooseRow 22 = .ok (.getfield 21, 3) := by decide +kernel
theorem dX10_chooseRow_25 : decode cX10_chooseRow 25 = .ok (.iload_n 2, 1) := by decide +kernel
theorem dX10_chooseRow_26 : decode cX10_chooseRow 26 = .ok (.iaload, 1) := by decide +kernel
theorem dX10_chooseRow_27 : decode cX10_chooseRow 27 = .ok (.aload_n 0, 1) := by decide +kernel
theorem dX10_chooseRow_28 : decode cX10_chooseRow 28 = .ok (.getfield 27, 3) := by decide +kernel
theorem dX10_chooseRow_31 : decode cX10_chooseRow 31 = .ok (.iload_n 2, 1) := by decide +kernel
theorem dX10_chooseRow_32 : decode cX10_chooseRow 32 = .ok (.iaload, 1) := by decide +kernel
theorem dX10_chooseRow_33 : decode cX10_chooseRow 33 = .ok (.invokestatic 69, 3) := by decide +kernel
theorem dX10_chooseRow_36 : decode cX10_chooseRow 36 = .ok (.invokestatic 69, 3) := by decide +kernel
theorem dX10_chooseRow_39 : decode cX10_chooseRow 39 = .ok (.istore_n 3, 1) := by decide +kernel
theorem dX10_chooseRow_40 : decode cX10_chooseRow 40 = .ok (.aload_n 0, 1) := by decide +kernel
theorem dX10_chooseRow_41 : decode cX10_chooseRow 41 = .ok (.getfield 15, 3) := by decide +kernel
theorem dX10_chooseRow_44 : decode cX10_chooseRow 44 = .ok (.iload_n 2, 1) := by decide +kernel
theorem dX10_chooseRow_45 : decode cX10_chooseRow 45 = .ok (.iaload, 1) := by decide +kernel
theorem dX10_chooseRow_46 : decode cX10_chooseRow 46 = .ok (.aload_n 0, 1) := by decide +kernel
theorem dX10_chooseRow_47 : decode cX10_chooseRow 47 = .ok (.getfield 21, 3) := by decide +kernel
theorem dX10_chooseRow_50 : decode cX10_chooseRow 50 = .ok (.iload_n 2, 1) := by decide +kernel
theorem dX10_chooseRow_51 : decode cX10_chooseRow 51 = .ok (.iaload, 1) := by decide +kernel
theorem dX10_chooseRow_52 : decode cX10_chooseRow 52 = .ok (.aload_n 0, 1) := by decide +kernel
theorem dX10_chooseRow_53 : decode cX10_chooseRow 53 = .ok (.getfield 27, 3) := by decide +kernel
theorem dX10_chooseRow_56 : decode cX10_chooseRow 56 = .ok (.iload_n 2, 1) := by decide +kernel
theorem dX10_chooseRow_57 : decode cX10_chooseRow 57 = .ok (.iaload, 1) := by decide +kernel
theorem dX10_chooseRow_58 : decode cX10_chooseRow 58 = .ok (.invokestatic 75, 3) := by decide +kernel
theorem dX10_chooseRow_61 : decode cX10_chooseRow 61 = .ok (.invokestatic 75, 3) := by decide +kernel
theorem dX10_chooseRow_64 : decode cX10_chooseRow 64 = .ok (.istore 4, 2) := by decide +kernel
theorem dX10_chooseRow_66 : decode cX10_chooseRow 66 = .ok (.iload_n 3, 1) := by decide +kernel
theorem dX10_chooseRow_67 : decode cX10_chooseRow 67 = .ok (.iload_n 1, 1) := by decide +kernel
theorem dX10_chooseRow_68 : decode cX10_chooseRow 68 = .ok (.if_icmp .gt 29, 3) := by decide +kernel
theorem dX10_chooseRow_71 : decode cX10_chooseRow 71 = .ok (.iload_n 1, 1) := by decide +kernel
theorem dX10_chooseRow_72 : decode cX10_chooseRow 72 = .ok (.iload 4, 2) := by decide +kernel
theorem dX10_chooseRow_74 : decode cX10_chooseRow 74 = .ok (.if_icmp .gt 23, 3) := by decide +kernel
theorem dX10_chooseRow_77 : decode cX10_chooseRow 77 = .ok (.aload_n 0, 1) := by decide +kernel
theorem dX10_chooseRow_78 : decode cX10_chooseRow 78 = .ok (.getfield 34, 3) := by decide +kernel
theorem dX10_chooseRow_81 : decode cX10_chooseRow 81 = .ok (.aload_n 0, 1) := by decide +kernel
theorem dX10_chooseRow_82 : decode cX10_chooseRow 82 = .ok (.getfield 91, 3) := by decide +kernel
theorem dX10_chooseRow_85 : decode cX10_chooseRow 85 = .ok (.iload_n 2, 1) := by decide +kernel
theorem dX10_chooseRow_86 : decode cX10_chooseRow 86 = .ok (.iastore, 1) := by decide +kernel
theorem dX10_chooseRow_87 : decode cX10_chooseRow 87 = .ok (.aload_n 0, 1) := by decide +kernel
theorem dX10_chooseRow_88 : decode cX10_chooseRow 88 = .ok (.dup, 1) := by decide +kernel
theorem dX10_chooseRow_89 : decode cX10_chooseRow 89 = .ok (.getfield 91, 3) := by decide +kernel
theorem dX10_chooseRow_92 : decode cX10_chooseRow 92 = .ok (.iconst 1, 1) := by decide +kernel
theorem dX10_chooseRow_93 : decode cX10_chooseRow 93 = .ok (.iadd, 1) := by decide +kernel
theorem dX10_chooseRow_94 : decode cX10_chooseRow 94 = .ok (.putfield 91, 3) := by decide +kernel
theorem dX10_chooseRow_97 : decode cX10_chooseRow 97 = .ok (.iinc 2 1, 3) := by decide +kernel
theorem dX10_chooseRow_100 : decode cX10_chooseRow 100 = .ok (.goto (-93), 3) := by decide +kernel
theorem dX10_chooseRow_103 : decode cX10_chooseRow 103 = .ok (.return_, 1) := by decide +kernel
def B_X10_chooseRow_97 (N : Nat) (k7 : Int32 → Int32 → sv_V → Option sv_V) (l1 : Int32) (l2 : Int32) (V : sv_V) : Option sv_V := sx_let (l2 + 1) (fun x1 => k7 l1 x1 V)
set_option maxRecDepth 20000 in
theorem tB_X10_chooseRow_97 {g : sx_G} (hG : sx_Go g) {P : Option Value → sv_V → Prop} {Vr : sv_V} (hP : P none Vr) {N : Nat} {k7 : Int32 → Int32 → sv_V → Option sv_V} (hk7 : ∀ (l1 : Int32) (l2 : Int32) (V : sv_V), k7 l1 l2 V = some Vr → sv_N g qX10_chooseRow 1 7 [(0, .ref 60), (1, .int l1), (2, .int l2)] [] V P) {l1 : Int32} {l2 : Int32} {V : sv_V} (h : B_X10_chooseRow_97 N k7 l1 l2 V = some Vr) : sv_N g qX10_chooseRow 1 97 [(0, .ref 60), (1, .int l1), (2, .int l2)] [] V P := by
  unfold B_X10_chooseRow_97 at h
  obtain ⟨x1, hx1⟩ : ∃ z : Int32, z = l2 + 1 := ⟨_, rfl⟩
  have h := sx_letE hx1 h
  refine sx_iinc (pc := 97) (v := x1) (lo' := [(2, .int x1), (0, .ref 60), (1, .int l1)]) dX10_chooseRow_97 sx_m2 (by rw [hx1]; rfl) (by decide) rfl ?_
  refine sx_goto (pc := 100) (tgt := 7) dX10_chooseRow_100 (by decide) ?_
  refine sx_wk (sx_s1 sx_m1 (sx_s1 sx_m2 (sx_s1 sx_m0 sx_s0))) ?_
  exact hk7 _ _ _ h
def B_X10_chooseRow_7 (N : Nat) (k7 : Int32 → Int32 → sv_V → Option sv_V) (l1 : Int32) (l2 : Int32) (V : sv_V) : Option sv_V := if (V.1 60 7) ≤ l2 then (some V) else (if sx_in l2 100 = true then if sx_in l2 100 = true then if sx_in l2 100 = true then (F_J9_min_7cf53 (V.1 64 l2.toNatClampNeg) (V.1 66 l2.toNatClampNeg) V).bind (fun (x8, V6) => (F_J9_min_7cf53 (V.1 62 l2.toNatClampNeg) x8 V6).bind (fun (x11, V9) => if sx_in l2 100 = true then if sx_in l2 100 = true then if sx_in l2 100 = true then (F_J9_max_7cf53 (V9.1 64 l2.toNatClampNeg) (V9.1 66 l2.toNatClampNeg) V9).bind (fun (x17, V15) => (F_J9_max_7cf53 (V9.1 62 l2.toNatClampNeg) x17 V15).bind (fun (x20, V18) => if l1 < x11 then (B_X10_chooseRow_97 N k7 l1 l2 V18) else (if x20 < l1 then (B_X10_chooseRow_97 N k7 l1 l2 V18) else (if sx_in (V18.1 60 9) 100 = true then sx_let (sv_I V18 68 (V18.1 60 9).toNatClampNeg l2) (fun V24 => sx_let (sv_I V24 60 9 ((V24.1 60 9) + (1 : Int32))) (fun V25 => B_X10_chooseRow_97 N k7 l1 l2 V25)) else none)))) else none else none else none)) else none else none else none)
set_option maxRecDepth 20000 in
theorem tB_X10_chooseRow_7 {g : sx_G} (hG : sx_Go g) {P : Option Value → sv_V → Prop} {Vr : sv_V} (hP : P none Vr) {N : Nat} {k7 : Int32 → Int32 → sv_V → Option sv_V} (hk7 : ∀ (l1 : Int32) (l2 : Int32) (V : sv_V), k7 l1 l2 V = some Vr → sv_N g qX10_chooseRow 1 7 [(0, .ref 60), (1, .int l1), (2, .int l2)] [] V P) {l1 : Int32} {l2 : Int32} {V : sv_V} (h : B_X10_chooseRow_7 N k7 l1 l2 V = some Vr) : sv_N g qX10_chooseRow 1 7 [(0, .ref 60), (1, .int l1), (2, .int l2)] [] V P := by
  unfold B_X10_chooseRow_7 at h
  refine sx_iload_n (pc := 7) dX10_chooseRow_7 sx_m2 ?_
  refine sx_aload_n (pc := 8) dX10_chooseRow_8 sx_m0 ?_
  refine sv_getI (pc := 9) hG dX10_chooseRow_9 f_10_37 lay_60 rfl ?_
  refine sx_icmp_ge (pc := 12) (tgt := 103) dX10_chooseRow_12 (by decide) (fun c2 => ?_) (fun c2 => ?_)
  · have h := sx_pos c2 h
    exact sv_vret (pc := 103) dX10_chooseRow_103 rfl h hP
  · have h := sx_neg c2 h
    refine sx_aload_n (pc := 15) dX10_chooseRow_15 sx_m0 ?_
    refine sv_getA (pc := 16) hG dX10_chooseRow_16 f_10_15 lay_60 rfl cr_60_1 ?_
    refine sx_iload_n (pc := 19) dX10_chooseRow_19 sx_m2 ?_
    obtain ⟨g3, h⟩ := sx_grd h
    refine sv_iald (pc := 20) hG dX10_chooseRow_20 lay_62 g3 ?_
    refine sx_aload_n (pc := 21) dX10_chooseRow_21 sx_m0 ?_
    refine sv_getA (pc := 22) hG dX10_chooseRow_22 f_10_21 lay_60 rfl cr_60_3 ?_
    refine sx_iload_n (pc := 25) dX10_chooseRow_25 sx_m2 ?_
    obtain ⟨g4, h⟩ := sx_grd h
    refine sv_iald (pc := 26) hG dX10_chooseRow_26 lay_64 g4 ?_
    refine sx_aload_n (pc := 27) dX10_chooseRow_27 sx_m0 ?_
    refine sv_getA (pc := 28) hG dX10_chooseRow_28 f_10_27 lay_60 rfl cr_60_5 ?_
    refine sx_iload_n (pc := 31) dX10_chooseRow_31 sx_m2 ?_
    obtain ⟨g5, h⟩ := sx_grd h
    refine sv_iald (pc := 32) hG dX10_chooseRow_32 lay_66 g5 ?_
    obtain ⟨⟨x8, V6⟩, g7, h⟩ := sx_bnd h
    refine sv_cS (pc := 33) (y := qJ9_min_7cf53) (o := (some (.int x8))) (as := [.int (V.1 64 l2.toNatClampNeg), .int (V.1 66 l2.toNatClampNeg)]) (V1 := V6) dX10_chooseRow_33 l_X10_69 y0J9_min_7cf53 ysJ9_min_7cf53 rfl (Nat.le_of_ble_eq_true rfl) (by decide) (Nat.le_of_ble_eq_true rfl) rfl rfl rfl (t_J9_min_7cf53 hG ⟨rfl, rfl⟩ g7) ?_
    obtain ⟨⟨x11, V9⟩, g10, h⟩ := sx_bnd h
    refine sv_cS (pc := 36) (y := qJ9_min_7cf53) (o := (some (.int x11))) (as := [.int (V.1 62 l2.toNatClampNeg), .int x8]) (V1 := V9) dX10_chooseRow_36 l_X10_69 y0J9_min_7cf53 ysJ9_min_7cf53 rfl (Nat.le_of_ble_eq_true rfl) (by decide) (Nat.le_of_ble_eq_true rfl) rfl rfl rfl (t_J9_min_7cf53 hG ⟨rfl, rfl⟩ g10) ?_
    refine sx_istore_n (pc := 39) (lo' := [(3, .int x11), (0, .ref 60), (1, .int l1), (2, .int l2)]) dX10_chooseRow_39 (by decide) rfl ?_
    refine sx_aload_n (pc := 40) dX10_chooseRow_40 sx_m1 ?_
    refine sv_getA (pc := 41) hG dX10_chooseRow_41 f_10_15 lay_60 rfl cr_60_1 ?_
    refine sx_iload_n (pc := 44) dX10_chooseRow_44 sx_m3 ?_
    obtain ⟨g12, h⟩ := sx_grd h
    refine sv_iald (pc := 45) hG dX10_chooseRow_45 lay_62 g12 ?_
    refine sx_aload_n (pc := 46) dX10_chooseRow_46 sx_m1 ?_
    refine sv_getA (pc := 47) hG dX10_chooseRow_47 f_10_21 lay_60 rfl cr_60_3 ?_
    refine sx_iload_n (pc := 50) dX10_chooseRow_50 sx_m3 ?_
    obtain ⟨g13, h⟩ := sx_grd h
    refine sv_iald (pc := 51) hG dX10_chooseRow_51 lay_64 g13 ?_
    refine sx_aload_n (pc := 52) dX10_chooseRow_52 sx_m1 ?_
    refine sv_getA (pc := 53) hG dX10_chooseRow_53 f_10_27 lay_60 rfl cr_60_5 ?_
    refine sx_iload_n (pc := 56) dX10_chooseRow_56 sx_m3 ?_
    obtain ⟨g14, h⟩ := sx_grd h
    refine sv_iald (pc := 57) hG dX10_chooseRow_57 lay_66 g14 ?_
    obtain ⟨⟨x17, V15⟩, g16, h⟩ := sx_bnd h
    refine sv_cS (pc := 58) (y := qJ9_max_7cf53) (o := (some (.int x17))) (as := [.int (V9.1 64 l2.toNatClampNeg), .int (V9.1 66 l2.toNatClampNeg)]) (V1 := V15) dX10_chooseRow_58 l_X10_75 y0J9_max_7cf53 ysJ9_max_7cf53 rfl (Nat.le_of_ble_eq_true rfl) (by decide) (Nat.le_of_ble_eq_true rfl) rfl rfl rfl (t_J9_max_7cf53 hG ⟨rfl, rfl⟩ g16) ?_
    obtain ⟨⟨x20, V18⟩, g19, h⟩ := sx_bnd h
    refine sv_cS (pc := 61) (y := qJ9_max_7cf53) (o := (some (.int x20))) (as := [.int (V9.1 62 l2.toNatClampNeg), .int x17]) (V1 := V18) dX10_chooseRow_61 l_X10_75 y0J9_max_7cf53 ysJ9_max_7cf53 rfl (Nat.le_of_ble_eq_true rfl) (by decide) (Nat.le_of_ble_eq_true rfl) rfl rfl rfl (t_J9_max_7cf53 hG ⟨rfl, rfl⟩ g19) ?_
    refine sx_istore (pc := 64) (lo' := [(4, .int x20), (3, .int x11), (0, .ref 60), (1, .int l1), (2, .int l2)]) dX10_chooseRow_64 (by decide) rfl ?_
    refine sx_iload_n (pc := 66) dX10_chooseRow_66 sx_m1 ?_
    refine sx_iload_n (pc := 67) dX10_chooseRow_67 sx_m3 ?_
    refine sx_icmp_gt (pc := 68) (tgt := 97) dX10_chooseRow_68 (by decide) (fun c21 => ?_) (fun c21 => ?_)
    · have h := sx_pos c21 h
      refine sx_wk (sx_s1 sx_m2 (sx_s1 sx_m3 (sx_s1 sx_m4 sx_s0))) ?_
      exact tB_X10_chooseRow_97 hG hP hk7 h
    · have h := sx_neg c21 h
      refine sx_iload_n (pc := 71) dX10_chooseRow_71 sx_m3 ?_
      refine sx_iload (pc := 72) dX10_chooseRow_72 sx_m0 ?_
      refine sx_icmp_gt (pc := 74) (tgt := 97) dX10_chooseRow_74 (by decide) (fun c22 => ?_) (fun c22 => ?_)
      · have h := sx_pos c22 h
        refine sx_wk (sx_s1 sx_m2 (sx_s1 sx_m3 (sx_s1 sx_m4 sx_s0))) ?_
        exact tB_X10_chooseRow_97 hG hP hk7 h
      · have h := sx_neg c22 h
        refine sx_aload_n (pc := 77) dX10_chooseRow_77 sx_m2 ?_
        refine sv_getA (pc := 78) hG dX10_chooseRow_78 f_10_34 lay_60 rfl cr_60_8 ?_
        refine sx_aload_n (pc := 81) dX10_chooseRow_81 sx_m2 ?_
        refine sv_getI (pc := 82) hG dX10_chooseRow_82 f_10_91 lay_60 rfl ?_
        refine sx_iload_n (pc := 85) dX10_chooseRow_85 sx_m4 ?_
        obtain ⟨g23, h⟩ := sx_grd h
        obtain ⟨V24, hV24⟩ : ∃ z : sv_V, z = sv_I V18 68 (V18.1 60 9).toNatClampNeg l2 := ⟨_, rfl⟩
        have h := sx_letE hV24 h
        refine sv_iast (pc := 86) hG dX10_chooseRow_86 lay_68 g23 hV24 ?_
        refine sx_aload_n (pc := 87) dX10_chooseRow_87 sx_m2 ?_
        refine sx_dup (pc := 88) dX10_chooseRow_88 rfl ?_
        refine sv_getI (pc := 89) hG dX10_chooseRow_89 f_10_91 lay_60 rfl ?_
        refine sx_iconst (pc := 92) (v := 1) dX10_chooseRow_92 (by decide) ?_
        refine sx_iadd (pc := 93) dX10_chooseRow_93 ?_
        obtain ⟨V25, hV25⟩ : ∃ z : sv_V, z = sv_I V24 60 9 ((V24.1 60 9) + (1 : Int32)) := ⟨_, rfl⟩
        have h := sx_letE hV25 h
        refine sv_putI (pc := 94) hG dX10_chooseRow_94 f_10_91 lay_60 rfl hV25 ?_
        refine sx_wk (sx_s1 sx_m2 (sx_s1 sx_m3 (sx_s1 sx_m4 sx_s0))) ?_
        exact tB_X10_chooseRow_97 hG hP hk7 h
theorem tL_X10_chooseRow_7 {g : sx_G} (hG : sx_Go g) {P : Option Value → sv_V → Prop} {Vr : sv_V} (hP : P none Vr) {N : Nat}   : ∀ (n : Nat) (l1 : Int32) (l2 : Int32) (V : sv_V), sx_lp3 (B_X10_chooseRow_7 N ) n l1 l2 V = some Vr → sv_N g qX10_chooseRow 1 7 [(0, .ref 60), (1, .int l1), (2, .int l2)] [] V P :=
  sx_lp3_ind (fun k0 ih _ _ V h => tB_X10_chooseRow_7 hG hP ih h)
def F_X10_chooseRow (N : Nat) (l1 : Int32) (V : sv_V) : Option sv_V := sx_let (sv_I V 60 9 (0 : Int32)) (fun V26 => sx_lp3 (B_X10_chooseRow_7 N ) N l1 (0 : Int32) V26)
set_option maxRecDepth 20000 in
theorem t_X10_chooseRow {g : sx_G} (hG : sx_Go g) {P : Option Value → sv_V → Prop} {Vr : sv_V} (hP : P none Vr) {N : Nat} {l1 : Int32} {V : sv_V} (h : F_X10_chooseRow N l1 V = some Vr) : sv_N g qX10_chooseRow 1 0 [(0, .ref 60), (1, .int l1)] [] V P := by
  unfold F_X10_chooseRow at h
  refine sx_aload_n (pc := 0) dX10_chooseRow_0 sx_m0 ?_
  refine sx_iconst (pc := 1) (v := 0) dX10_chooseRow_1 (by decide) ?_
  obtain ⟨V26, hV26⟩ : ∃ z : sv_V, z = sv_I V 60 9 (0 : Int32) := ⟨_, rfl⟩
  have h := sx_letE hV26 h
  refine sv_putI (pc := 2) hG dX10_chooseRow_2 f_10_91 lay_60 rfl hV26 ?_
  refine sx_iconst (pc := 5) (v := 0) dX10_chooseRow_5 (by decide) ?_
  refine sx_istore_n (pc := 6) (lo' := [(2, .int (0 : Int32)), (0, .ref 60), (1, .int l1)]) dX10_chooseRow_6 (by decide) rfl ?_
  refine sx_wk (sx_s1 sx_m1 (sx_s1 sx_m2 (sx_s1 sx_m0 sx_s0))) ?_
  exact tL_X10_chooseRow_7 hG hP  N _ _ _ h
theorem dX10_meets_0 : decode cX10_meets 0 = .ok (.aload_n 0, 1) := by decide +kernel
theorem dX10_meets_1 : decode cX10_meets 1 = .ok (.getfield 9, 3) := by decide +kernel
theorem dX10_meets_4 : decode cX10_meets 4 = .ok (.iload_n 1, 1) := by decide +kernel
theorem dX10_meets_5 : decode cX10_meets 5 = .ok (.iaload, 1) := by decide +kernel
theorem dX10_meets_6 : decode cX10_meets 6 = .ok (.iload_n 2, 1) := by decide +kernel
theorem dX10_meets_7 : decode cX10_meets 7 = .ok (.isub, 1) := by decide +kernel
theorem dX10_meets_8 : decode cX10_meets 8 = .ok (.i2l, 1) := by decide +kernel
theorem dX10_meets_9 : decode cX10_meets 9 = .ok (.lstore 4, 2) := by decide +kernel
theorem dX10_meets_11 : decode cX10_meets 11 = .ok (.aload_n 0, 1) := by decide +kernel
theorem dX10_meets_12 : decode cX10_meets 12 = .ok (.getfield 15, 3) := by decide +kernel
theorem dX10_meets_15 : decode cX10_meets 15 = .ok (.iload_n 1, 1) := by decide +kernel
theorem dX10_meets_16 : decode cX10_meets 16 = .ok (.iaload, 1) := by decide +kernel
theorem dX10_meets_17 : decode cX10_meets 17 = .ok (.iload_n 3, 1) := by decide +kernel
theorem dX10_meets_18 : decode cX10_meets 18 = .ok (.isub, 1) := by decide +kernel
theorem dX10_meets_19 : decode cX10_meets 19 = .ok (.i2l, 1) := by decide +kernel
theorem dX10_meets_20 : decode cX10_meets 20 = .ok (.lstore 6, 2) := by decide +kernel
theorem dX10_meets_22 : decode cX10_meets 22 = .ok (.aload_n 0, 1) := by decide +kernel
theorem dX10_meets_23 : decode cX10_meets 23 = .ok (.getfield 24, 3) := by decide +kernel
theorem dX10_meets_26 : decode cX10_meets 26 = .ok (.iload_n 1, 1) := by decide +kernel
theorem dX10_meets_27 : decode cX10_meets 27 = .ok (.iaload, 1) := by decide +kernel
theorem dX10_meets_28 : decode cX10_meets 28 = .ok (.iload_n 2, 1) := by decide +kernel
theorem dX10_meets_29 : decode cX10_meets 29 = .ok (.isub, 1) := by decide +kernel
theorem dX10_meets_30 : decode cX10_meets 30 = .ok (.i2l, 1) := by decide +kernel
theorem dX10_meets_31 : decode cX10_meets 31 = .ok (.lstore 8, 2) := by decide +kernel
theorem dX10_meets_33 : decode cX10_meets 33 = .ok (.aload_n 0, 1) := by decide +kernel
theorem dX10_meets_34 : decode cX10_meets 34 = .ok (.getfield 27, 3) := by decide +kernel
theorem dX10_meets_37 : decode cX10_meets 37 = .ok (.iload_n 1, 1) := by decide +kernel
theorem dX10_meets_38 : decode cX10_meets 38 = .ok (.iaload, 1) := by decide +kernel
theorem dX10_meets_39 : decode cX10_meets 39 = .ok (.iload_n 3, 1) := by decide +kernel
theorem dX10_meets_40 : decode cX10_meets 40 = .ok (.isub, 1) := by decide +kernel
theorem dX10_meets_41 : decode cX10_meets 41 = .ok (.i2l, 1) := by decide +kernel
theorem dX10_meets_42 : decode cX10_meets 42 = .ok (.lstore 10, 2) := by decide +kernel
theorem dX10_meets_44 : decode cX10_meets 44 = .ok (.aload_n 0, 1) := by decide +kernel
theorem dX10_meets_45 : decode cX10_meets 45 = .ok (.dup, 1) := by decide +kernel
theorem dX10_meets_46 : decode cX10_meets 46 = .ok (.getfield 94, 3) := by decide +kernel
theorem dX10_meets_49 : decode cX10_meets 49 = .ok (.lload 4, 2) := by decide +kernel
theorem dX10_meets_51 : decode cX10_meets 51 = .ok (.lload 6, 2) := by decide +kernel
theorem dX10_meets_53 : decode cX10_meets 53 = .ok (.lload 8, 2) := by decide +kernel
theorem dX10_meets_55 : decode cX10_meets 55 = .ok (.lload 10, 2) := by decide +kernel
theorem dX10_meets_57 : decode cX10_meets 57 = .ok (.invokestatic 101, 3) := by decide +kernel
theorem dX10_meets_60 : decode cX10_meets 60 = .ok (.iadd, 1) := by decide +kernel
theorem dX10_meets_61 : decode cX10_meets 61 = .ok (.putfield 94, 3) := by decide +kernel
theorem dX10_meets_64 : decode cX10_meets 64 = .ok (.aload_n 0, 1) := by decide +kernel
theorem dX10_meets_65 : decode cX10_meets 65 = .ok (.getfield 30, 3) := by decide +kernel
theorem dX10_meets_68 : decode cX10_meets 68 = .ok (.iload_n 1, 1) := by decide +kernel
theorem dX10_meets_69 : decode cX10_meets 69 = .ok (.baload, 1) := by decide +kernel
theorem dX10_meets_70 : decode cX10_meets 70 = .ok (.ifCond .ne 47, 3) := by decide +kernel
theorem dX10_meets_73 : decode cX10_meets 73 = .ok (.lload 4, 2) := by decide +kernel
theorem dX10_meets_75 : decode cX10_meets 75 = .ok (.lload 10, 2) := by decide +kernel
theorem dX10_meets_77 : decode cX10_meets 77 = .ok (.lmul, 1) := by decide +kernel
theorem dX10_meets_78 : decode cX10_meets 78 = .ok (.lload 8, 2) := by decide +kernel
theorem dX10_meets_80 : decode cX10_meets 80 = .ok (.lload 6, 2) := by decide +kernel
theorem dX10_meets_82 : decode cX10_meets 82 = .ok (.lmul, 1) := by decide +kernel
theorem dX10_meets_83 : decode cX10_meets 83 = .ok (.lcmp, 1) := by decide +kernel
theorem dX10_meets_84 : decode cX10_meets 84 = .ok (.ifCond .ne 31, 3) := by decide +kernel
theorem dX10_meets_87 : decode cX10_meets 87 = .ok (.lload 4, 2) := by decide +kernel
theorem dX10_meets_89 : decode cX10_meets 89 = .ok (.lload 4, 2) := by decide +kernel
theorem dX10_meets_91 : decode cX10_meets 91 = .ok (.lload 8, 2) := by decide +kernel
theorem dX10_meets_93 : decode cX10_meets 93 = .ok (.invokestatic 105, 3) := by decide +kernel
theorem dX10_meets_96 : decode cX10_meets 96 = .ok (.ifCond .eq 19, 3) := by decide +kernel
theorem dX10_meets_99 : decode cX10_meets 99 = .ok (.lload 6, 2) := by decide +kernel
theorem dX10_meets_101 : decode cX10_meets 101 = .ok (.lload 6, 2) := by decide +kernel
theorem dX10_meets_103 : decode cX10_meets 103 = .ok (.lload 10, 2) := by decide +kernel
theorem dX10_meets_105 : decode cX10_meets 105 = .ok (.invokestatic 105, 3) := by decide +kernel
theorem dX10_meets_108 : decode cX10_meets 108 = .ok (.ifCond .eq 7, 3) := by decide +kernel
theorem dX10_meets_111 : decode cX10_meets 111 = .ok (.iconst 1, 1) := by decide +kernel
theorem dX10_meets_112 : decode cX10_meets 112 = .ok (.goto 4, 3) := by decide +kernel
theorem dX10_meets_115 : decode cX10_meets 115 = .ok (.iconst 0, 1) := by decide +kernel
theorem dX10_meets_116 : decode cX10_meets 116 = .ok (.ireturn, 1) := by decide +kernel
theorem dX10_meets_117 : decode cX10_meets 117 = .ok (.aload_n 0, 1) := by decide +kernel
theorem dX10_meets_118 : decode cX10_meets 118 = .ok (.getfield 18, 3) := by decide +kernel
theorem dX10_meets_121 : decode cX10_meets 121 = .ok (.iload_n 1, 1) := by decide +kernel
theorem dX10_meets_122 : decode cX10_meets 122 = .ok (.iaload, 1) := by decide +kernel
theorem dX10_meets_123 : decode cX10_meets 123 = .ok (.iload_n 2, 1) := by decide +kernel
theorem dX10_meets_124 : decode cX10_meets 124 = .ok (.isub, 1) := by decide +kernel
theorem dX10_meets_125 : decode cX10_meets 125 = .ok (.i2l, 1) := by decide +kernel
theorem dX10_meets_126 : decode cX10_meets 126 = .ok (.lstore 12, 2) := by decide +kernel
theorem dX10_meets_128 : decode cX10_meets 128 = .ok (.aload_n 0, 1) := by decide +kernel
theorem dX10_meets_129 : decode cX10_meets 129 = .ok (.getfield 21, 3) := by decide +kernel
theorem dX10_meets_132 : decode cX10_meets 132 = .ok (.iload_n 1, 1) := by decide +kernel
theorem dX10_meets_133 : decode cX10_meets 133 = .ok (.iaload, 1) := by decide +kernel
theorem dX10_meets_134 : decode cX10_meets 134 = .ok (.iload_n 3, 1) := by decide +kernel
theorem dX10_meets_135 : decode cX10_meets 135 = .ok (.isub, 1) := by decide +kernel
theorem dX10_meets_136 : decode cX10_meets 136 = .ok (.i2l, 1) := by decide +kernel
theorem dX10_meets_137 : decode cX10_meets 137 = .ok (.lstore 14, 2) := by decide +kernel
theorem dX10_meets_139 : decode cX10_meets 139 = .ok (.lload 12, 2) := by decide +kernel
theorem dX10_meets_141 : decode cX10_meets 141 = .ok (.lload 10, 2) := by decide +kernel
theorem dX10_meets_143 : decode cX10_meets 143 = .ok (.lmul, 1) := by decide +kernel
theorem dX10_meets_144 : decode cX10_meets 144 = .ok (.lload 8, 2) := by decide +kernel
theorem dX10_meets_146 : decode cX10_meets 146 = .ok (.lload 14, 2) := by decide +kernel
theorem dX10_meets_148 : decode cX10_meets 148 = .ok (.lmul, 1) := by decide +kernel
theorem dX10_meets_149 : decode cX10_meets 149 = .ok (.lsub, 1) := by decide +kernel
theorem dX10_meets_150 : decode cX10_meets 150 = .ok (.lstore 16, 2) := by decide +kernel
theorem dX10_meets_152 : decode cX10_meets 152 = .ok (.lload 8, 2) := by decide +kernel
theorem dX10_meets_154 : decode cX10_meets 154 = .ok (.lload 6, 2) := by decide +kernel
theorem dX10_meets_156 : decode cX10_meets 156 = .ok (.lmul, 1) := by decide +kernel
theorem dX10_meets_157 : decode cX10_meets 157 = .ok (.lload 4, 2) := by decide +kernel
theorem dX10_meets_159 : decode cX10_meets 159 = .ok (.lload 10, 2) := by decide +kernel
theorem dX10_meets_161 : decode cX10_meets 161 = .ok (.lmul, 1) := by decide +kernel
theorem dX10_meets_162 : decode cX10_meets 162 = .ok (.lsub, 1) := by decide +kernel
theorem dX10_meets_163 : decode cX10_meets 163 = .ok (.lstore 18, 2) := by decide +kernel
theorem dX10_meets_165 : decode cX10_meets 165 = .ok (.lload 4, 2) := by decide +kernel
theorem dX10_meets_167 : decode cX10_meets 167 = .ok (.lload 14, 2) := by decide +kernel
theorem dX10_meets_169 : decode cX10_meets 169 = .ok (.lmul, 1) := by decide +kernel
theorem dX10_meets_170 : decode cX10_meets 170 = .ok (.lload 12, 2) := by decide +kernel
theorem dX10_meets_172 : decode cX10_meets 172 = .ok (.lload 6, 2) := by decide +kernel
theorem dX10_meets_174 : decode cX10_meets 174 = .ok (.lmul, 1) := by decide +kernel
theorem dX10_meets_175 : decode cX10_meets 175 = .ok (.lsub, 1) := by decide +kernel
theorem dX10_meets_176 : decode cX10_meets 176 = .ok (.lstore 20, 2) := by decide +kernel
theorem dX10_meets_178 : decode cX10_meets 178 = .ok (.lload 16, 2) := by decide +kernel
theorem dX10_meets_180 : decode cX10_meets 180 = .ok (.lload 18, 2) := by decide +kernel
theorem dX10_meets_182 : decode cX10_meets 182 = .ok (.ladd, 1) := by decide +kernel
theorem dX10_meets_183 : decode cX10_meets 183 = .ok (.lload 20, 2) := by decide +kernel
theorem dX10_meets_185 : decode cX10_meets 185 = .ok (.ladd, 1) := by decide +kernel
theorem dX10_meets_186 : decode cX10_meets 186 = .ok (.lstore 22, 2) := by decide +kernel
theorem dX10_meets_188 : decode cX10_meets 188 = .ok (.lload 22, 2) := by decide +kernel
theorem dX10_meets_190 : decode cX10_meets 190 = .ok (.lconst 0, 1) := by decide +kernel
theorem dX10_meets_191 : decode cX10_meets 191 = .ok (.lcmp, 1) := by decide +kernel
theorem dX10_meets_192 : decode cX10_meets 192 = .ok (.ifCond .ne 54, 3) := by decide +kernel
theorem dX10_meets_195 : decode cX10_meets 195 = .ok (.lload 16, 2) := by decide +kernel
theorem dX10_meets_197 : decode cX10_meets 197 = .ok (.lconst 0, 1) := by decide +kernel
theorem dX10_meets_198 : decode cX10_meets 198 = .ok (.lcmp, 1) := by decide +kernel
theorem dX10_meets_199 : decode cX10_meets 199 = .ok (.ifCond .ne 45, 3) := by decide +kernel
theorem dX10_meets_202 : decode cX10_meets 202 = .ok (.lload 18, 2) := by decide +kernel
theorem dX10_meets_204 : decode cX10_meets 204 = .ok (.lconst 0, 1) := by decide +kernel
theorem dX10_meets_205 : decode cX10_meets 205 = .ok (.lcmp, 1) := by decide +kernel
theorem dX10_meets_206 : decode cX10_meets 206 = .ok (.ifCond .ne 38, 3) := by decide +kernel
theorem dX10_meets_209 : decode cX10_meets 209 = .ok (.lload 20, 2) := by decide +kernel
theorem dX10_meets_211 : decode cX10_meets 211 = .ok (.lconst 0, 1) := by decide +kernel
theorem dX10_meets_212 : decode cX10_meets 212 = .ok (.lcmp, 1) := by decide +kernel
theorem dX10_meets_213 : decode cX10_meets 213 = .ok (.ifCond .ne 31, 3) := by decide +kernel
theorem dX10_meets_216 : decode cX10_meets 216 = .ok (.lload 4, 2) := by decide +kernel
theorem dX10_meets_218 : decode cX10_meets 218 = .ok (.lload 12, 2) := by decide +kernel
theorem dX10_meets_220 : decode cX10_meets 220 = .ok (.lload 8, 2) := by decide +kernel
theorem dX10_meets_222 : decode cX10_meets 222 = .ok (.invokestatic 105, 3) := by decide +kernel
theorem dX10_meets_225 : decode cX10_meets 225 = .ok (.ifCond .eq 19, 3) := by decide +kernel
theorem dX10_meets_228 : decode cX10_meets 228 = .ok (.lload 6, 2) := by decide +kernel
theorem dX10_meets_230 : decode cX10_meets 230 = .ok (.lload 14, 2) := by decide +kernel
theorem dX10_meets_232 : decode cX10_meets 232 = .ok (.lload 10, 2) := by decide +kernel
theorem dX10_meets_234 : decode cX10_meets 234 = .ok (.invokestatic 105, 3) := by decide +kernel
theorem dX10_meets_237 : decode cX10_meets 237 = .ok (.ifCond .eq 7, 3) := by decide +kernel
theorem dX10_meets_240 : decode cX10_meets 240 = .ok (.iconst 1, 1) := by decide +kernel
theorem dX10_meets_241 : decode cX10_meets 241 = .ok (.goto 4, 3) := by decide +kernel
theorem dX10_meets_244 : decode cX10_meets 244 = .ok (.iconst 0, 1) := by decide +kernel
theorem dX10_meets_245 : decode cX10_meets 245 = .ok (.ireturn, 1) := by decide +kernel
theorem dX10_meets_246 : decode cX10_meets 246 = .ok (.lload 22, 2) := by decide +kernel
theorem dX10_meets_248 : decode cX10_meets 248 = .ok (.lconst 0, 1) := by decide +kernel
theorem dX10_meets_249 : decode cX10_meets 249 = .ok (.lcmp, 1) := by decide +kernel
theorem dX10_meets_250 : decode cX10_meets 250 = .ok (.ifCond .ge 7, 3) := by decide +kernel
theorem dX10_meets_253 : decode cX10_meets 253 = .ok (.iconst (-1), 1) := by decide +kernel
theorem dX10_meets_254 : decode cX10_meets 254 = .ok (.goto 4, 3) := by decide +kernel
theorem dX10_meets_257 : decode cX10_meets 257 = .ok (.iconst 1, 1) := by decide +kernel
theorem dX10_meets_258 : decode cX10_meets 258 = .ok (.istore 24, 2) := by decide +kernel
theorem dX10_meets_260 : decode cX10_meets 260 = .ok (.lload 16, 2) := by decide +kernel
theorem dX10_meets_262 : decode cX10_meets 262 = .ok (.iload 24, 2) := by decide +kernel
theorem dX10_meets_264 : decode cX10_meets 264 = .ok (.i2l, 1) := by decide +kernel
theorem dX10_meets_265 : decode cX10_meets 265 = .ok (.lmul, 1) := by decide +kernel
theorem dX10_meets_266 : decode cX10_meets 266 = .ok (.lconst 0, 1) := by decide +kernel
theorem dX10_meets_267 : decode cX10_meets 267 = .ok (.lcmp, 1) := by decide +kernel
theorem dX10_meets_268 : decode cX10_meets 268 = .ok (.ifCond .lt 25, 3) := by decide +kernel
theorem dX10_meets_271 : decode cX10_meets 271 = .ok (.lload 18, 2) := by decide +kernel
theorem dX10_meets_273 : decode cX10_meets 273 = .ok (.iload 24, 2) := by decide +kernel
theorem dX10_meets_275 : decode cX10_meets 275 = .ok (.i2l, 1) := by decide +kernel
theorem dX10_meets_276 : decode cX10_meets 276 = .ok (.lmul, 1) := by decide +kernel
theorem dX10_meets_277 : decode cX10_meets 277 = .ok (.lconst 0, 1) := by decide +kernel
theorem dX10_meets_278 : decode cX10_meets 278 = .ok (.lcmp, 1) := by decide +kernel
theorem dX10_meets_279 : decode cX10_meets 279 = .ok (.ifCond .lt 14, 3) := by decide +kernel
theorem dX10_meets_282 : decode cX10_meets 282 = .ok (.lload 20, 2) := by decide +kernel
theorem dX10_meets_284 : decode cX10_meets 284 = .ok (.iload 24, 2) := by decide +kernel
theorem dX10_meets_286 : decode cX10_meets 286 = .ok (.i2l, 1) := by decide +kernel
theorem dX10_meets_287 : decode cX10_meets 287 = .ok (.lmul, 1) := by decide +kernel
theorem dX10_meets_288 : decode cX10_meets 288 = .ok (.lconst 0, 1) := by decide +kernel
theorem dX10_meets_289 : decode cX10_meets 289 = .ok (.lcmp, 1) := by decide +kernel
theorem dX10_meets_290 : decode cX10_meets 290 = .ok (.ifCond .ge 5, 3) := by decide +kernel
theorem dX10_meets_293 : decode cX10_meets 293 = .ok (.iconst 0, 1) := by decide +kernel
theorem dX10_meets_294 : decode cX10_meets 294 = .ok (.ireturn, 1) := by decide +kernel
theorem dX10_meets_295 : decode cX10_meets 295 = .ok (.ldc2_w 109, 3) := by decide +kernel
theorem dX10_meets_298 : decode cX10_meets 298 = .ok (.lload 16, 2) := by decide +kernel
theorem dX10_meets_300 : decode cX10_meets 300 = .ok (.lmul, 1) := by decide +kernel
theorem dX10_meets_301 : decode cX10_meets 301 = .ok (.lload 20, 2) := by decide +kernel
theorem dX10_meets_303 : decode cX10_meets 303 = .ok (.lmul, 1) := by decide +kernel
theorem dX10_meets_304 : decode cX10_meets 304 = .ok (.lload 18, 2) := by decide +kernel
theorem dX10_meets_306 : decode cX10_meets 306 = .ok (.lload 18, 2) := by decide +kernel
theorem dX10_meets_308 : decode cX10_meets 308 = .ok (.lmul, 1) := by decide +kernel
theorem dX10_meets_309 : decode cX10_meets 309 = .ok (.lsub, 1) := by decide +kernel
theorem dX10_meets_310 : decode cX10_meets 310 = .ok (.lstore 25, 2) := by decide +kernel
theorem dX10_meets_312 : decode cX10_meets 312 = .ok (.lload 25, 2) := by decide +kernel
theorem dX10_meets_314 : decode cX10_meets 314 = .ok (.lconst 0, 1) := by decide +kernel
theorem dX10_meets_315 : decode cX10_meets 315 = .ok (.lcmp, 1) := by decide +kernel
theorem dX10_meets_316 : decode cX10_meets 316 = .ok (.ifCond .le 38, 3) := by decide +kernel
theorem dX10_meets_319 : decode cX10_meets 319 = .ok (.lload 18, 2) := by decide +kernel
theorem dX10_meets_321 : decode cX10_meets 321 = .ok (.lconst 0, 1) := by decide +kernel
theorem dX10_meets_322 : decode cX10_meets 322 = .ok (.lcmp, 1) := by decide +kernel
theorem dX10_meets_323 : decode cX10_meets 323 = .ok (.ifCond .ne 20, 3) := by decide +kernel
theorem dX10_meets_326 : decode cX10_meets 326 = .ok (.iload 24, 2) := by decide +kernel
theorem dX10_meets_328 : decode cX10_meets 328 = .ok (.lload 8, 2) := by decide +kernel
theorem dX10_meets_330 : decode cX10_meets 330 = .ok (.lload 10, 2) := by decide +kernel
theorem dX10_meets_332 : decode cX10_meets 332 = .ok (.lload 4, 2) := by decide +kernel
theorem dX10_meets_334 : decode cX10_meets 334 = .ok (.lload 6, 2) := by decide +kernel
theorem dX10_meets_336 : decode cX10_meets 336 = .ok (.invokestatic 111, 3) := by decide +kernel
theorem dX10_meets_339 : decode cX10_meets 339 = .ok (.imul, 1) := by decide +kernel
theorem dX10_meets_340 : decode cX10_meets 340 = .ok (.ifCond .le 14, 3) := by decide +kernel
theorem dX10_meets_343 : decode cX10_meets 343 = .ok (.aload_n 0, 1) := by decide +kernel
theorem dX10_meets_344 : decode cX10_meets 344 = .ok (.dup, 1) := by decide +kernel
theorem dX10_meets_345 : decode cX10_meets 345 = .ok (.getfield 94, 3) := by decide +kernel
theorem dX10_meets_348 : decode cX10_meets 348 = .ok (.iload 24, 2) := by decide +kernel
theorem dX10_meets_350 : decode cX10_meets 350 = .ok (.iadd, 1) := by decide +kernel
theorem dX10_meets_351 : decode cX10_meets 351 = .ok (.putfield 94, 3) := by decide +kernel
theorem dX10_meets_354 : decode cX10_meets 354 = .ok (.lload 25, 2) := by decide +kernel
theorem dX10_meets_356 : decode cX10_meets 356 = .ok (.lconst 0, 1) := by decide +kernel
theorem dX10_meets_357 : decode cX10_meets 357 = .ok (.lcmp, 1) := by decide +kernel
theorem dX10_meets_358 : decode cX10_meets 358 = .ok (.ifCond .ne 7, 3) := by decide +kernel
theorem dX10_meets_361 : decode cX10_meets 361 = .ok (.iconst 1, 1) := by decide +kernel
theorem dX10_meets_362 : decode cX10_meets 362 = .ok (.goto 4, 3) := by decide +kernel
theorem dX10_meets_365 : decode cX10_meets 365 = .ok (.iconst 0, 1) := by decide +kernel
theorem dX10_meets_366 : decode cX10_meets 366 = .ok (.ireturn, 1) := by decide +kernel
def B_X10_meets_354  (l25 : Int64) (V : sv_V) : Option (Int32 × sv_V) := if (lg_cmp l25 (0 : Int64)) = 0 then (some ((1 : Int32), V)) else (some ((0 : Int32), V))
set_option maxRecDepth 20000 in
theorem tB_X10_meets_354 {g : sx_G} (hG : sx_Go g) {P : Option Value → sv_V → Prop} {r : Int32} {Vr : sv_V} (hP : P (some (.int r)) Vr)   {l25 : Int64} {V : sv_V} (h : B_X10_meets_354  l25 V = some (r, Vr)) : sv_N g qX10_meets 2 354 [(25, .long l25)] [] V P := by
  unfold B_X10_meets_354 at h
  refine sx_lload (pc := 354) dX10_meets_354 sx_m0 ?_
  refine sx_lconst (pc := 356) (v := 0) dX10_meets_356 rfl ?_
  refine sx_lcmp (pc := 357) dX10_meets_357 ?_
  refine sx_if_ne (pc := 358) (tgt := 365) dX10_meets_358 (by decide) (fun c1 => ?_) (fun c1 => ?_)
  · have h := sx_neg c1 h
    refine sx_iconst (pc := 365) (v := 0) dX10_meets_365 (by decide) ?_
    exact sv_zret (pc := 366) dX10_meets_366 rfl rfl h hP
  · have h := sx_pos c1 h
    refine sx_iconst (pc := 361) (v := 1) dX10_meets_361 (by decide) ?_
    refine sx_goto (pc := 362) (tgt := 366) dX10_meets_362 (by decide) ?_
    exact sv_zret (pc := 366) dX10_meets_366 rfl rfl h hP
def B_X10_meets_343  (l24 : Int32) (l25 : Int64) (V : sv_V) : Option (Int32 × sv_V) := sx_let (sv_I V 60 10 ((V.1 60 10) + l24)) (fun V2 => B_X10_meets_354  l25 V2)
set_option maxRecDepth 20000 in
theorem tB_X10_meets_343 {g : sx_G} (hG : sx_Go g) {P : Option Value → sv_V → Prop} {r : Int32} {Vr : sv_V} (hP : P (some (.int r)) Vr)   {l24 : Int32} {l25 : Int64} {V : sv_V} (h : B_X10_meets_343  l24 l25 V = some (r, Vr)) : sv_N g qX10_meets 2 343 [(0, .ref 60), (24, .int l24), (25, .long l25)] [] V P := by
  unfold B_X10_meets_343 at h
  refine sx_aload_n (pc := 343) dX10_meets_343 sx_m0 ?_
  refine sx_dup (pc := 344) dX10_meets_344 rfl ?_
  refine sv_getI (pc := 345) hG dX10_meets_345 f_10_94 lay_60 rfl ?_
  refine sx_iload (pc := 348) dX10_meets_348 sx_m1 ?_
  refine sx_iadd (pc := 350) dX10_meets_350 ?_
  obtain ⟨V2, hV2⟩ : ∃ z : sv_V, z = sv_I V 60 10 ((V.1 60 10) + l24) := ⟨_, rfl⟩
  have h := sx_letE hV2 h
  refine sv_putI (pc := 351) hG dX10_meets_351 f_10_94 lay_60 rfl hV2 ?_
  refine sx_wk (sx_s1 sx_m2 sx_s0) ?_
  exact tB_X10_meets_354 hG hP  h
def B_X10_meets_258  (l4 : Int64) (l6 : Int64) (l8 : Int64) (l10 : Int64) (l16 : Int64) (l18 : Int64) (l20 : Int64) (s0 : Int32) (V : sv_V) : Option (Int32 × sv_V) := if (lg_cmp (l16 * s0.toInt64) (0 : Int64)) < 0 then (some ((0 : Int32), V)) else (if (lg_cmp (l18 * s0.toInt64) (0 : Int64)) < 0 then (some ((0 : Int32), V)) else (if 0 ≤ (lg_cmp (l20 * s0.toInt64) (0 : Int64)) then (sx_let ((((4 : Int64) * l16) * l20) - (l18 * l18)) (fun x6 => if (lg_cmp x6 (0 : Int64)) ≤ 0 then (B_X10_meets_354  x6 V) else (if (lg_cmp l18 (0 : Int64)) = 0 then ((F_X10_sideOf l8 l10 l4 l6 V).bind (fun (x11, V9) => if (s0 * x11) ≤ 0 then (B_X10_meets_354  x6 V9) else (B_X10_meets_343  s0 x6 V9))) else (B_X10_meets_343  s0 x6 V)))) else (some ((0 : Int32), V))))
set_option maxRecDepth 20000 in
theorem tB_X10_meets_258 {g : sx_G} (hG : sx_Go g) {P : Option Value → sv_V → Prop} {r : Int32} {Vr : sv_V} (hP : P (some (.int r)) Vr)   {l4 : Int64} {l6 : Int64} {l8 : Int64} {l10 : Int64} {l16 : Int64} {l18 : Int64} {l20 : Int64} {s0 : Int32} {V : sv_V} (h : B_X10_meets_258  l4 l6 l8 l10 l16 l18 l20 s0 V = some (r, Vr)) : sv_N g qX10_meets 2 258 [(0, .ref 60), (4, .long l4), (6, .long l6), (8, .long l8), (10, .long l10), (16, .long l16), (18, .long l18), (20, .long l20)] [.int s0] V P := by
  unfold B_X10_meets_258 at h
  refine sx_istore (pc := 258) (lo' := [(24, .int s0), (0, .ref 60), (4, .long l4), (6, .long l6), (8, .long l8), (10, .long l10), (16, .long l16), (18, .long l18), (20, .long l20)]) dX10_meets_258 (by decide) rfl ?_
  refine sx_lload (pc := 260) dX10_meets_260 sx_m6 ?_
  refine sx_iload (pc := 262) dX10_meets_262 sx_m0 ?_
  refine sx_i2l (pc := 264) dX10_meets_264 ?_
  refine sx_lmul (pc := 265) dX10_meets_265 ?_
  refine sx_lconst (pc := 266) (v := 0) dX10_meets_266 rfl ?_
  refine sx_lcmp (pc := 267) dX10_meets_267 ?_
  refine sx_if_lt (pc := 268) (tgt := 293) dX10_meets_268 (by decide) (fun c3 => ?_) (fun c3 => ?_)
  · have h := sx_pos c3 h
    refine sx_iconst (pc := 293) (v := 0) dX10_meets_293 (by decide) ?_
    exact sv_zret (pc := 294) dX10_meets_294 rfl rfl h hP
  · have h := sx_neg c3 h
    refine sx_lload (pc := 271) dX10_meets_271 sx_m7 ?_
    refine sx_iload (pc := 273) dX10_meets_273 sx_m0 ?_
    refine sx_i2l (pc := 275) dX10_meets_275 ?_
    refine sx_lmul (pc := 276) dX10_meets_276 ?_
    refine sx_lconst (pc := 277) (v := 0) dX10_meets_277 rfl ?_
    refine sx_lcmp (pc := 278) dX10_meets_278 ?_
    refine sx_if_lt (pc := 279) (tgt := 293) dX10_meets_279 (by decide) (fun c4 => ?_) (fun c4 => ?_)
    · have h := sx_pos c4 h
      refine sx_iconst (pc := 293) (v := 0) dX10_meets_293 (by decide) ?_
      exact sv_zret (pc := 294) dX10_meets_294 rfl rfl h hP
    · have h := sx_neg c4 h
      refine sx_lload (pc := 282) dX10_meets_282 sx_m8 ?_
      refine sx_iload (pc := 284) dX10_meets_284 sx_m0 ?_
      refine sx_i2l (pc := 286) dX10_meets_286 ?_
      refine sx_lmul (pc := 287) dX10_meets_287 ?_
      refine sx_lconst (pc := 288) (v := 0) dX10_meets_288 rfl ?_
      refine sx_lcmp (pc := 289) dX10_meets_289 ?_
      refine sx_if_ge (pc := 290) (tgt := 295) dX10_meets_290 (by decide) (fun c5 => ?_) (fun c5 => ?_)
      · have h := sx_pos c5 h
        refine sx_ldc2 (pc := 295) dX10_meets_295 k_X10_109 ?_
        refine sx_lload (pc := 298) dX10_meets_298 sx_m6 ?_
        refine sx_lmul (pc := 300) dX10_meets_300 ?_
        refine sx_lload (pc := 301) dX10_meets_301 sx_m8 ?_
        refine sx_lmul (pc := 303) dX10_meets_303 ?_
        refine sx_lload (pc := 304) dX10_meets_304 sx_m7 ?_
        refine sx_lload (pc := 306) dX10_meets_306 sx_m7 ?_
        refine sx_lmul (pc := 308) dX10_meets_308 ?_
        refine sx_lsub (pc := 309) dX10_meets_309 ?_
        refine sv_tJ (fun x6 hx6 => ?_)
        have h := sx_letE hx6 h
        refine sx_lstore (pc := 310) (lo' := [(25, .long x6), (24, .int s0), (0, .ref 60), (4, .long l4), (6, .long l6), (8, .long l8), (10, .long l10), (16, .long l16), (18, .long l18), (20, .long l20)]) dX10_meets_310 (by decide) rfl ?_
        refine sx_lload (pc := 312) dX10_meets_312 sx_m0 ?_
        refine sx_lconst (pc := 314) (v := 0) dX10_meets_314 rfl ?_
        refine sx_lcmp (pc := 315) dX10_meets_315 ?_
        refine sx_if_le (pc := 316) (tgt := 354) dX10_meets_316 (by decide) (fun c7 => ?_) (fun c7 => ?_)
        · have h := sx_pos c7 h
          refine sx_wk (sx_s1 sx_m0 sx_s0) ?_
          exact tB_X10_meets_354 hG hP  h
        · have h := sx_neg c7 h
          refine sx_lload (pc := 319) dX10_meets_319 sx_m8 ?_
          refine sx_lconst (pc := 321) (v := 0) dX10_meets_321 rfl ?_
          refine sx_lcmp (pc := 322) dX10_meets_322 ?_
          refine sx_if_ne (pc := 323) (tgt := 343) dX10_meets_323 (by decide) (fun c8 => ?_) (fun c8 => ?_)
          · have h := sx_neg c8 h
            refine sx_wk (sx_s1 sx_m2 (sx_s1 sx_m1 (sx_s1 sx_m0 sx_s0))) ?_
            exact tB_X10_meets_343 hG hP  h
          · have h := sx_pos c8 h
            refine sx_iload (pc := 326) dX10_meets_326 sx_m1 ?_
            refine sx_lload (pc := 328) dX10_meets_328 sx_m5 ?_
            refine sx_lload (pc := 330) dX10_meets_330 sx_m6 ?_
            refine sx_lload (pc := 332) dX10_meets_332 sx_m3 ?_
            refine sx_lload (pc := 334) dX10_meets_334 sx_m4 ?_
            obtain ⟨⟨x11, V9⟩, g10, h⟩ := sx_bnd h
            refine sv_cS (pc := 336) (y := qX10_sideOf) (o := (some (.int x11))) (as := [.long l8, .long l10, .long l4, .long l6]) (V1 := V9) dX10_meets_336 l_X10_111 y0X10_sideOf ysX10_sideOf rfl (Nat.le_of_ble_eq_true rfl) (by decide) (Nat.le_of_ble_eq_true rfl) rfl rfl rfl (t_X10_sideOf hG ⟨rfl, rfl⟩ g10) ?_
            refine sx_imul (pc := 339) dX10_meets_339 ?_
            refine sx_if_le (pc := 340) (tgt := 354) dX10_meets_340 (by decide) (fun c12 => ?_) (fun c12 => ?_)
            · have h := sx_pos c12 h
              refine sx_wk (sx_s1 sx_m0 sx_s0) ?_
              exact tB_X10_meets_354 hG hP  h
            · have h := sx_neg c12 h
              refine sx_wk (sx_s1 sx_m2 (sx_s1 sx_m1 (sx_s1 sx_m0 sx_s0))) ?_
              exact tB_X10_meets_343 hG hP  h
      · have h := sx_neg c5 h
        refine sx_iconst (pc := 293) (v := 0) dX10_meets_293 (by decide) ?_
        exact sv_zret (pc := 294) dX10_meets_294 rfl rfl h hP
def F_X10_meets (l1 : Int32) (l2 : Int32) (l3 : Int32) (V : sv_V) : Option (Int32 × sv_V) := if sx_in l1 100 = true then sx_let (((V.1 61 l1.toNatClampNeg) - l2).toInt64) (fun x14 => if sx_in l1 100 = true then sx_let (((V.1 62 l1.toNatClampNeg) - l3).toInt64) (fun x16 => if sx_in l1 100 = true then sx_let (((V.1 65 l1.toNatClampNeg) - l2).toInt64) (fun x18 => if sx_in l1 100 = true then sx_let (((V.1 66 l1.toNatClampNeg) - l3).toInt64) (fun x20 => (F_X10_crossing x14 x16 x18 x20 V).bind (fun (x23, V21) => sx_let (sv_I V21 60 10 ((V.1 60 10) + x23)) (fun V24 => if sx_in l1 100 = true then if (V24.1 67 l1.toNatClampNeg) = 0 then (if (lg_cmp (x14 * x20) (x18 * x16)) = 0 then ((F_X10_reaches x14 x14 x18 V24).bind (fun (x51, V49) => if x51 = 0 then (some ((0 : Int32), V49)) else ((F_X10_reaches x16 x16 x20 V49).bind (fun (x55, V53) => if x55 = 0 then (some ((0 : Int32), V53)) else (some ((1 : Int32), V53)))))) else (some ((0 : Int32), V24))) else (if sx_in l1 100 = true then sx_let (((V24.1 63 l1.toNatClampNeg) - l2).toInt64) (fun x28 => if sx_in l1 100 = true then sx_let (((V24.1 64 l1.toNatClampNeg) - l3).toInt64) (fun x30 => sx_let ((x28 * x20) - (x18 * x30)) (fun x31 => sx_let ((x18 * x16) - (x14 * x20)) (fun x32 => sx_let ((x14 * x30) - (x28 * x16)) (fun x33 => sx_let ((x31 + x32) + x33) (fun x34 => if (lg_cmp x34 (0 : Int64)) = 0 then (if (lg_cmp x31 (0 : Int64)) = 0 then (if (lg_cmp x32 (0 : Int64)) = 0 then (if (lg_cmp x33 (0 : Int64)) = 0 then ((F_X10_reaches x14 x28 x18 V24).bind (fun (x42, V40) => if x42 = 0 then (some ((0 : Int32), V40)) else ((F_X10_reaches x16 x30 x20 V40).bind (fun (x46, V44) => if x46 = 0 then (some ((0 : Int32), V44)) else (some ((1 : Int32), V44)))))) else (some ((0 : Int32), V24))) else (some ((0 : Int32), V24))) else (some ((0 : Int32), V24))) else (if 0 ≤ (lg_cmp x34 (0 : Int64)) then (B_X10_meets_258  x14 x16 x18 x20 x31 x32 x33 (1 : Int32) V24) else (B_X10_meets_258  x14 x16 x18 x20 x31 x32 x33 (-1 : Int32) V24))))))) else none) else none) else none))) else none) else none) else none) else none
set_option maxRecDepth 20000 in
theorem t_X10_meets {g : sx_G} (hG : sx_Go g) {P : Option Value → sv_V → Prop} {r : Int32} {Vr : sv_V} (hP : P (some (.int r)) Vr) {l1 : Int32} {l2 : Int32} {l3 : Int32} {V : sv_V} (h : F_X10_meets l1 l2 l3 V = some (r, Vr)) : sv_N g qX10_meets 2 0 [(0, .ref 60), (1, .int l1), (2, .int l2), (3, .int l3)] [] V P := by
  unfold F_X10_meets at h
  refine sx_aload_n (pc := 0) dX10_meets_0 sx_m0 ?_
  refine sv_getA (pc := 1) hG dX10_meets_1 f_10_9 lay_60 rfl cr_60_0 ?_
  refine sx_iload_n (pc := 4) dX10_meets_4 sx_m1 ?_
  obtain ⟨g13, h⟩ := sx_grd h
  refine sv_iald (pc := 5) hG dX10_meets_5 lay_61 g13 ?_
  refine sx_iload_n (pc := 6) dX10_meets_6 sx_m2 ?_
  refine sx_isub (pc := 7) dX10_meets_7 ?_
  refine sx_i2l (pc := 8) dX10_meets_8 ?_
  refine sv_tJ (fun x14 hx14 => ?_)
  have h := sx_letE hx14 h
  refine sx_lstore (pc := 9) (lo' := [(4, .long x14), (0, .ref 60), (1, .int l1), (2, .int l2), (3, .int l3)]) dX10_meets_9 (by decide) rfl ?_
  refine sx_aload_n (pc := 11) dX10_meets_11 sx_m1 ?_
  refine sv_getA (pc := 12) hG dX10_meets_12 f_10_15 lay_60 rfl cr_60_1 ?_
  refine sx_iload_n (pc := 15) dX10_meets_15 sx_m2 ?_
  obtain ⟨g15, h⟩ := sx_grd h
  refine sv_iald (pc := 16) hG dX10_meets_16 lay_62 g15 ?_
  refine sx_iload_n (pc := 17) dX10_meets_17 sx_m4 ?_
  refine sx_isub (pc := 18) dX10_meets_18 ?_
  refine sx_i2l (pc := 19) dX10_meets_19 ?_
  refine sv_tJ (fun x16 hx16 => ?_)
  have h := sx_letE hx16 h
  refine sx_lstore (pc := 20) (lo' := [(6, .long x16), (4, .long x14), (0, .ref 60), (1, .int l1), (2, .int l2), (3, .int l3)]) dX10_meets_20 (by decide) rfl ?_
  refine sx_aload_n (pc := 22) dX10_meets_22 sx_m2 ?_
  refine sv_getA (pc := 23) hG dX10_meets_23 f_10_24 lay_60 rfl cr_60_4 ?_
  refine sx_iload_n (pc := 26) dX10_meets_26 sx_m3 ?_
  obtain ⟨g17, h⟩ := sx_grd h
  refine sv_iald (pc := 27) hG dX10_meets_27 lay_65 g17 ?_
  refine sx_iload_n (pc := 28) dX10_meets_28 sx_m4 ?_
  refine sx_isub (pc := 29) dX10_meets_29 ?_
  refine sx_i2l (pc := 30) dX10_meets_30 ?_
  refine sv_tJ (fun x18 hx18 => ?_)
  have h := sx_letE hx18 h
  refine sx_lstore (pc := 31) (lo' := [(8, .long x18), (6, .long x16), (4, .long x14), (0, .ref 60), (1, .int l1), (2, .int l2), (3, .int l3)]) dX10_meets_31 (by decide) rfl ?_
  refine sx_aload_n (pc := 33) dX10_meets_33 sx_m3 ?_
  refine sv_getA (pc := 34) hG dX10_meets_34 f_10_27 lay_60 rfl cr_60_5 ?_
  refine sx_iload_n (pc := 37) dX10_meets_37 sx_m4 ?_
  obtain ⟨g19, h⟩ := sx_grd h
  refine sv_iald (pc := 38) hG dX10_meets_38 lay_66 g19 ?_
  refine sx_iload_n (pc := 39) dX10_meets_39 sx_m6 ?_
  refine sx_isub (pc := 40) dX10_meets_40 ?_
  refine sx_i2l (pc := 41) dX10_meets_41 ?_
  refine sv_tJ (fun x20 hx20 => ?_)
  have h := sx_letE hx20 h
  refine sx_lstore (pc := 42) (lo' := [(10, .long x20), (8, .long x18), (6, .long x16), (4, .long x14), (0, .ref 60), (1, .int l1), (2, .int l2), (3, .int l3)]) dX10_meets_42 (by decide) rfl ?_
  refine sx_aload_n (pc := 44) dX10_meets_44 sx_m4 ?_
  refine sx_dup (pc := 45) dX10_meets_45 rfl ?_
  refine sv_getI (pc := 46) hG dX10_meets_46 f_10_94 lay_60 rfl ?_
  refine sx_lload (pc := 49) dX10_meets_49 sx_m3 ?_
  refine sx_lload (pc := 51) dX10_meets_51 sx_m2 ?_
  refine sx_lload (pc := 53) dX10_meets_53 sx_m1 ?_
  refine sx_lload (pc := 55) dX10_meets_55 sx_m0 ?_
  obtain ⟨⟨x23, V21⟩, g22, h⟩ := sx_bnd h
  refine sv_cS (pc := 57) (y := qX10_crossing) (o := (some (.int x23))) (as := [.long x14, .long x16, .long x18, .long x20]) (V1 := V21) dX10_meets_57 l_X10_101 y0X10_crossing ysX10_crossing rfl (Nat.le_of_ble_eq_true rfl) (by decide) (Nat.le_of_ble_eq_true rfl) rfl rfl rfl (t_X10_crossing hG ⟨rfl, rfl⟩ g22) ?_
  refine sx_iadd (pc := 60) dX10_meets_60 ?_
  obtain ⟨V24, hV24⟩ : ∃ z : sv_V, z = sv_I V21 60 10 ((V.1 60 10) + x23) := ⟨_, rfl⟩
  have h := sx_letE hV24 h
  refine sv_putI (pc := 61) hG dX10_meets_61 f_10_94 lay_60 rfl hV24 ?_
  refine sx_aload_n (pc := 64) dX10_meets_64 sx_m4 ?_
  refine sv_getA (pc := 65) hG dX10_meets_65 f_10_30 lay_60 rfl cr_60_6 ?_
  refine sx_iload_n (pc := 68) dX10_meets_68 sx_m5 ?_
  obtain ⟨g25, h⟩ := sx_grd h
  refine sv_zald (pc := 69) hG dX10_meets_69 lay_67 g25 ?_
  refine sx_if_ne (pc := 70) (tgt := 117) dX10_meets_70 (by decide) (fun c26 => ?_) (fun c26 => ?_)
  · have h := sx_neg c26 h
    refine sx_aload_n (pc := 117) dX10_meets_117 sx_m4 ?_
    refine sv_getA (pc := 118) hG dX10_meets_118 f_10_18 lay_60 rfl cr_60_2 ?_
    refine sx_iload_n (pc := 121) dX10_meets_121 sx_m5 ?_
    obtain ⟨g27, h⟩ := sx_grd h
    refine sv_iald (pc := 122) hG dX10_meets_122 lay_63 g27 ?_
    refine sx_iload_n (pc := 123) dX10_meets_123 sx_m6 ?_
    refine sx_isub (pc := 124) dX10_meets_124 ?_
    refine sx_i2l (pc := 125) dX10_meets_125 ?_
    refine sv_tJ (fun x28 hx28 => ?_)
    have h := sx_letE hx28 h
    refine sx_lstore (pc := 126) (lo' := [(12, .long x28), (10, .long x20), (8, .long x18), (6, .long x16), (4, .long x14), (0, .ref 60), (1, .int l1), (2, .int l2), (3, .int l3)]) dX10_meets_126 (by decide) rfl ?_
    refine sx_aload_n (pc := 128) dX10_meets_128 sx_m5 ?_
    refine sv_getA (pc := 129) hG dX10_meets_129 f_10_21 lay_60 rfl cr_60_3 ?_
    refine sx_iload_n (pc := 132) dX10_meets_132 sx_m6 ?_
    obtain ⟨g29, h⟩ := sx_grd h
    refine sv_iald (pc := 133) hG dX10_meets_133 lay_64 g29 ?_
    refine sx_iload_n (pc := 134) dX10_meets_134 sx_m8 ?_
    refine sx_isub (pc := 135) dX10_meets_135 ?_
    refine sx_i2l (pc := 136) dX10_meets_136 ?_
    refine sv_tJ (fun x30 hx30 => ?_)
    have h := sx_letE hx30 h
    refine sx_lstore (pc := 137) (lo' := [(14, .long x30), (12, .long x28), (10, .long x20), (8, .long x18), (6, .long x16), (4, .long x14), (0, .ref 60), (1, .int l1), (2, .int l2), (3, .int l3)]) dX10_meets_137 (by decide) rfl ?_
    refine sx_lload (pc := 139) dX10_meets_139 sx_m1 ?_
    refine sx_lload (pc := 141) dX10_meets_141 sx_m2 ?_
    refine sx_lmul (pc := 143) dX10_meets_143 ?_
    refine sx_lload (pc := 144) dX10_meets_144 sx_m3 ?_
    refine sx_lload (pc := 146) dX10_meets_146 sx_m0 ?_
    refine sx_lmul (pc := 148) dX10_meets_148 ?_
    refine sx_lsub (pc := 149) dX10_meets_149 ?_
    refine sv_tJ (fun x31 hx31 => ?_)
    have h := sx_letE hx31 h
    refine sx_lstore (pc := 150) (lo' := [(16, .long x31), (14, .long x30), (12, .long x28), (10, .long x20), (8, .long x18), (6, .long x16), (4, .long x14), (0, .ref 60), (1, .int l1), (2, .int l2), (3, .int l3)]) dX10_meets_150 (by decide) rfl ?_
    refine sx_lload (pc := 152) dX10_meets_152 sx_m4 ?_
    refine sx_lload (pc := 154) dX10_meets_154 sx_m5 ?_
    refine sx_lmul (pc := 156) dX10_meets_156 ?_
    refine sx_lload (pc := 157) dX10_meets_157 sx_m6 ?_
    refine sx_lload (pc := 159) dX10_meets_159 sx_m3 ?_
    refine sx_lmul (pc := 161) dX10_meets_161 ?_
    refine sx_lsub (pc := 162) dX10_meets_162 ?_
    refine sv_tJ (fun x32 hx32 => ?_)
    have h := sx_letE hx32 h
    refine sx_lstore (pc := 163) (lo' := [(18, .long x32), (16, .long x31), (14, .long x30), (12, .long x28), (10, .long x20), (8, .long x18), (6, .long x16), (4, .long x14), (0, .ref 60), (1, .int l1), (2, .int l2), (3, .int l3)]) dX10_meets_163 (by decide) rfl ?_
    refine sx_lload (pc := 165) dX10_meets_165 sx_m7 ?_
    refine sx_lload (pc := 167) dX10_meets_167 sx_m2 ?_
    refine sx_lmul (pc := 169) dX10_meets_169 ?_
    refine sx_lload (pc := 170) dX10_meets_170 sx_m3 ?_
    refine sx_lload (pc := 172) dX10_meets_172 sx_m6 ?_
    refine sx_lmul (pc := 174) dX10_meets_174 ?_
    refine sx_lsub (pc := 175) dX10_meets_175 ?_
    refine sv_tJ (fun x33 hx33 => ?_)
    have h := sx_letE hx33 h
    refine sx_lstore (pc := 176) (lo' := [(20, .long x33), (18, .long x32), (16, .long x31), (14, .long x30), (12, .long x28), (10, .long x20), (8, .long x18), (6, .long x16), (4, .long x14), (0, .ref 60), (1, .int l1), (2, .int l2), (3, .int l3)]) dX10_meets_176 (by decide) rfl ?_
    refine sx_lload (pc := 178) dX10_meets_178 sx_m2 ?_
    refine sx_lload (pc := 180) dX10_meets_180 sx_m1 ?_
    refine sx_ladd (pc := 182) dX10_meets_182 ?_
    refine sx_lload (pc := 183) dX10_meets_183 sx_m0 ?_
    refine sx_ladd (pc := 185) dX10_meets_185 ?_
    refine sv_tJ (fun x34 hx34 => ?_)
    have h := sx_letE hx34 h
    refine sx_lstore (pc := 186) (lo' := [(22, .long x34), (20, .long x33), (18, .long x32), (16, .long x31), (14, .long x30), (12, .long x28), (10, .long x20), (8, .long x18), (6, .long x16), (4, .long x14), (0, .ref 60), (1, .int l1), (2, .int l2), (3, .int l3)]) dX10_meets_186 (by decide) rfl ?_
    refine sx_lload (pc := 188) dX10_meets_188 sx_m0 ?_
    refine sx_lconst (pc := 190) (v := 0) dX10_meets_190 rfl ?_
    refine sx_lcmp (pc := 191) dX10_meets_191 ?_
    refine sx_if_ne (pc := 192) (tgt := 246) dX10_meets_192 (by decide) (fun c35 => ?_) (fun c35 => ?_)
    · have h := sx_neg c35 h
      refine sx_lload (pc := 246) dX10_meets_246 sx_m0 ?_
      refine sx_lconst (pc := 248) (v := 0) dX10_meets_248 rfl ?_
      refine sx_lcmp (pc := 249) dX10_meets_249 ?_
      refine sx_if_ge (pc := 250) (tgt := 257) dX10_meets_250 (by decide) (fun c36 => ?_) (fun c36 => ?_)
      · have h := sx_pos c36 h
        refine sx_iconst (pc := 257) (v := 1) dX10_meets_257 (by decide) ?_
        refine sx_wk (sx_s1 sx_m10 (sx_s1 sx_m9 (sx_s1 sx_m8 (sx_s1 sx_m7 (sx_s1 sx_m6 (sx_s1 sx_m3 (sx_s1 sx_m2 (sx_s1 sx_m1 sx_s0)))))))) ?_
        exact tB_X10_meets_258 hG hP  h
      · have h := sx_neg c36 h
        refine sx_iconst (pc := 253) (v := (-1)) dX10_meets_253 (by decide) ?_
        refine sx_goto (pc := 254) (tgt := 258) dX10_meets_254 (by decide) ?_
        refine sx_wk (sx_s1 sx_m10 (sx_s1 sx_m9 (sx_s1 sx_m8 (sx_s1 sx_m7 (sx_s1 sx_m6 (sx_s1 sx_m3 (sx_s1 sx_m2 (sx_s1 sx_m1 sx_s0)))))))) ?_
        exact tB_X10_meets_258 hG hP  h
    · have h := sx_pos c35 h
      refine sx_lload (pc := 195) dX10_meets_195 sx_m3 ?_
      refine sx_lconst (pc := 197) (v := 0) dX10_meets_197 rfl ?_
      refine sx_lcmp (pc := 198) dX10_meets_198 ?_
      refine sx_if_ne (pc := 199) (tgt := 244) dX10_meets_199 (by decide) (fun c37 => ?_) (fun c37 => ?_)
      · have h := sx_neg c37 h
        refine sx_iconst (pc := 244) (v := 0) dX10_meets_244 (by decide) ?_
        exact sv_zret (pc := 245) dX10_meets_245 rfl rfl h hP
      · have h := sx_pos c37 h
        refine sx_lload (pc := 202) dX10_meets_202 sx_m2 ?_
        refine sx_lconst (pc := 204) (v := 0) dX10_meets_204 rfl ?_
        refine sx_lcmp (pc := 205) dX10_meets_205 ?_
        refine sx_if_ne (pc := 206) (tgt := 244) dX10_meets_206 (by decide) (fun c38 => ?_) (fun c38 => ?_)
        · have h := sx_neg c38 h
          refine sx_iconst (pc := 244) (v := 0) dX10_meets_244 (by decide) ?_
          exact sv_zret (pc := 245) dX10_meets_245 rfl rfl h hP
        · have h := sx_pos c38 h
          refine sx_lload (pc := 209) dX10_meets_209 sx_m1 ?_
          refine sx_lconst (pc := 211) (v := 0) dX10_meets_211 rfl ?_
          refine sx_lcmp (pc := 212) dX10_meets_212 ?_
          refine sx_if_ne (pc := 213) (tgt := 244) dX10_meets_213 (by decide) (fun c39 => ?_) (fun c39 => ?_)
          · have h := sx_neg c39 h
            refine sx_iconst (pc := 244) (v := 0) dX10_meets_244 (by decide) ?_
            exact sv_zret (pc := 245) dX10_meets_245 rfl rfl h hP
          · have h := sx_pos c39 h
            refine sx_lload (pc := 216) dX10_meets_216 sx_m9 ?_
            refine sx_lload (pc := 218) dX10_meets_218 sx_m5 ?_
            refine sx_lload (pc := 220) dX10_meets_220 sx_m7 ?_
            obtain ⟨⟨x42, V40⟩, g41, h⟩ := sx_bnd h
            refine sv_cS (pc := 222) (y := qX10_reaches) (o := (some (.int x42))) (as := [.long x14, .long x28, .long x18]) (V1 := V40) dX10_meets_222 l_X10_105 y0X10_reaches ysX10_reaches rfl (Nat.le_of_ble_eq_true rfl) (by decide) (Nat.le_of_ble_eq_true rfl) rfl rfl rfl (t_X10_reaches hG ⟨rfl, rfl⟩ g41) ?_
            refine sx_if_eq (pc := 225) (tgt := 244) dX10_meets_225 (by decide) (fun c43 => ?_) (fun c43 => ?_)
            · have h := sx_pos c43 h
              refine sx_iconst (pc := 244) (v := 0) dX10_meets_244 (by decide) ?_
              exact sv_zret (pc := 245) dX10_meets_245 rfl rfl h hP
            · have h := sx_neg c43 h
              refine sx_lload (pc := 228) dX10_meets_228 sx_m8 ?_
              refine sx_lload (pc := 230) dX10_meets_230 sx_m4 ?_
              refine sx_lload (pc := 232) dX10_meets_232 sx_m6 ?_
              obtain ⟨⟨x46, V44⟩, g45, h⟩ := sx_bnd h
              refine sv_cS (pc := 234) (y := qX10_reaches) (o := (some (.int x46))) (as := [.long x16, .long x30, .long x20]) (V1 := V44) dX10_meets_234 l_X10_105 y0X10_reaches ysX10_reaches rfl (Nat.le_of_ble_eq_true rfl) (by decide) (Nat.le_of_ble_eq_true rfl) rfl rfl rfl (t_X10_reaches hG ⟨rfl, rfl⟩ g45) ?_
              refine sx_if_eq (pc := 237) (tgt := 244) dX10_meets_237 (by decide) (fun c47 => ?_) (fun c47 => ?_)
              · have h := sx_pos c47 h
                refine sx_iconst (pc := 244) (v := 0) dX10_meets_244 (by decide) ?_
                exact sv_zret (pc := 245) dX10_meets_245 rfl rfl h hP
              · have h := sx_neg c47 h
                refine sx_iconst (pc := 240) (v := 1) dX10_meets_240 (by decide) ?_
                refine sx_goto (pc := 241) (tgt := 245) dX10_meets_241 (by decide) ?_
                exact sv_zret (pc := 245) dX10_meets_245 rfl rfl h hP
  · have h := sx_pos c26 h
    refine sx_lload (pc := 73) dX10_meets_73 sx_m3 ?_
    refine sx_lload (pc := 75) dX10_meets_75 sx_m0 ?_
    refine sx_lmul (pc := 77) dX10_meets_77 ?_
    refine sx_lload (pc := 78) dX10_meets_78 sx_m1 ?_
    refine sx_lload (pc := 80) dX10_meets_80 sx_m2 ?_
    refine sx_lmul (pc := 82) dX10_meets_82 ?_
    refine sx_lcmp (pc := 83) dX10_meets_83 ?_
    refine sx_if_ne (pc := 84) (tgt := 115) dX10_meets_84 (by decide) (fun c48 => ?_) (fun c48 => ?_)
    · have h := sx_neg c48 h
      refine sx_iconst (pc := 115) (v := 0) dX10_meets_115 (by decide) ?_
      exact sv_zret (pc := 116) dX10_meets_116 rfl rfl h hP
    · have h := sx_pos c48 h
      refine sx_lload (pc := 87) dX10_meets_87 sx_m3 ?_
      refine sx_lload (pc := 89) dX10_meets_89 sx_m3 ?_
      refine sx_lload (pc := 91) dX10_meets_91 sx_m1 ?_
      obtain ⟨⟨x51, V49⟩, g50, h⟩ := sx_bnd h
      refine sv_cS (pc := 93) (y := qX10_reaches) (o := (some (.int x51))) (as := [.long x14, .long x14, .long x18]) (V1 := V49) dX10_meets_93 l_X10_105 y0X10_reaches ysX10_reaches rfl (Nat.le_of_ble_eq_true rfl) (by decide) (Nat.le_of_ble_eq_true rfl) rfl rfl rfl (t_X10_reaches hG ⟨rfl, rfl⟩ g50) ?_
      refine sx_if_eq (pc := 96) (tgt := 115) dX10_meets_96 (by decide) (fun c52 => ?_) (fun c52 => ?_)
      · have h := sx_pos c52 h
        refine sx_iconst (pc := 115) (v := 0) dX10_meets_115 (by decide) ?_
        exact sv_zret (pc := 116) dX10_meets_116 rfl rfl h hP
      · have h := sx_neg c52 h
        refine sx_lload (pc := 99) dX10_meets_99 sx_m2 ?_
        refine sx_lload (pc := 101) dX10_meets_101 sx_m2 ?_
        refine sx_lload (pc := 103) dX10_meets_103 sx_m0 ?_
        obtain ⟨⟨x55, V53⟩, g54, h⟩ := sx_bnd h
        refine sv_cS (pc := 105) (y := qX10_reaches) (o := (some (.int x55))) (as := [.long x16, .long x16, .long x20]) (V1 := V53) dX10_meets_105 l_X10_105 y0X10_reaches ysX10_reaches rfl (Nat.le_of_ble_eq_true rfl) (by decide) (Nat.le_of_ble_eq_true rfl) rfl rfl rfl (t_X10_reaches hG ⟨rfl, rfl⟩ g54) ?_
        refine sx_if_eq (pc := 108) (tgt := 115) dX10_meets_108 (by decide) (fun c56 => ?_) (fun c56 => ?_)
        · have h := sx_pos c56 h
          refine sx_iconst (pc := 115) (v := 0) dX10_meets_115 (by decide) ?_
          exact sv_zret (pc := 116) dX10_meets_116 rfl rfl h hP
        · have h := sx_neg c56 h
          refine sx_iconst (pc := 111) (v := 1) dX10_meets_111 (by decide) ?_
          refine sx_goto (pc := 112) (tgt := 116) dX10_meets_112 (by decide) ?_
          exact sv_zret (pc := 116) dX10_meets_116 rfl rfl h hP
theorem dX11_glyph_0 : decode cX11_glyph 0 = .ok (.aload_n 0, 1) := by decide +kernel
theorem dX11_glyph_1 : decode cX11_glyph 1 = .ok (.getfield 16, 3) := by decide +kernel
theorem dX11_glyph_4 : decode cX11_glyph 4 = .ok (.getfield 67, 3) := by decide +kernel
theorem dX11_glyph_7 : decode cX11_glyph 7 = .ok (.ifCond .ne 6, 3) := by decide +kernel
theorem dX11_glyph_10 : decode cX11_glyph 10 = .ok (.bipush (-3), 2) := by decide +kernel
theorem dX11_glyph_12 : decode cX11_glyph 12 = .ok (.ireturn, 1) := by decide +kernel
theorem dX11_glyph_13 : decode cX11_glyph 13 = .ok (.aload_n 0, 1) := by decide +kernel
theorem dX11_glyph_14 : decode cX11_glyph 14 = .ok (.getfield 16, 3) := by decide +kernel
theorem dX11_glyph_17 : decode cX11_glyph 17 = .ok (.iload_n 1, 1) := by decide +kernel
theorem dX11_glyph_18 : decode cX11_glyph 18 = .ok (.invokevirtual 116, 3) := by decide +kernel
theorem dX11_glyph_21 : decode cX11_glyph 21 = .ok (.ifCond .ne 5, 3) := by decide +kernel
theorem dX11_glyph_24 : decode cX11_glyph 24 = .ok (.iconst (-1), 1) := by decide +kernel
theorem dX11_glyph_25 : decode cX11_glyph 25 = .ok (.ireturn, 1) := by decide +kernel
theorem dX11_glyph_26 : decode cX11_glyph 26 = .ok (.iload_n 2, 1) := by decide +kernel
theorem dX11_glyph_27 : decode cX11_glyph 27 = .ok (.tableswitch 136 0 7 #[45, 54, 63, 75, 87, 99, 111, 123], 45) := by decide +kernel
theorem dX11_glyph_72 : decode cX11_glyph 72 = .ok (.aload_n 0, 1) := by decide +kernel
theorem dX11_glyph_73 : decode cX11_glyph 73 = .ok (.getfield 16, 3) := by decide +kernel
theorem dX11_glyph_76 : decode cX11_glyph 76 = .ok (.iload_n 1, 1) := by decide +kernel
theorem dX11_glyph_77 : decode cX11_glyph 77 = .ok (.invokevirtual 120, 3) := by decide +kernel
theorem dX11_glyph_80 : decode cX11_glyph 80 = .ok (.ireturn, 1) := by decide +kernel
theorem dX11_glyph_81 : decode cX11_glyph 81 = .ok (.aload_n 0, 1) := by decide +kernel
theorem dX11_glyph_82 : decode cX11_glyph 82 = .ok (.getfield 16, 3) := by decide +kernel
theorem dX11_glyph_85 : decode cX11_glyph 85 = .ok (.iload_n 1, 1) := by decide +kernel
theorem dX11_glyph_86 : decode cX11_glyph 86 = .ok (.invokevirtual 123, 3) := by decide +kernel
theorem dX11_glyph_89 : decode cX11_glyph 89 = .ok (.ireturn, 1) := by decide +kernel
theorem dX11_glyph_90 : decode cX11_glyph 90 = .ok (.aload_n 0, 1) := by decide +kernel
theorem dX11_glyph_91 : decode cX11_glyph 91 = .ok (.getfield 16, 3) := by decide +kernel
theorem dX11_glyph_94 : decode cX11_glyph 94 = .ok (.getfield 126, 3) := by decide +kernel
theorem dX11_glyph_97 : decode cX11_glyph 97 = .ok (.iconst 1, 1) := by decide +kernel
theorem dX11_glyph_98 : decode cX11_glyph 98 = .ok (.aaload, 1) := by decide +kernel
theorem dX11_glyph_99 : decode cX11_glyph 99 = .ok (.iload_n 1, 1) := by decide +kernel
theorem dX11_glyph_100 : decode cX11_glyph 100 = .ok (.iaload, 1) := by decide +kernel
theorem dX11_glyph_101 : decode cX11_glyph 101 = .ok (.ireturn, 1) := by decide +kernel
theorem dX11_glyph_102 : decode cX11_glyph 102 = .ok (.aload_n 0, 1) := by decide +kernel
theorem dX11_glyph_103 : decode cX11_glyph 103 = .ok (.getfield 16, 3) := by decide +kernel
theorem dX11_glyph_106 : decode cX11_glyph 106 = .ok (.getfield 126, 3) := by decide +kernel
theorem dX11_glyph_109 : decode cX11_glyph 109 = .ok (.iconst 2, 1) := by decide +kernel
theorem dX11_glyph_110 : decode cX11_glyph 110 = .ok (.aaload, 1) := by decide +kernel
theorem dX11_glyph_111 : decode cX11_glyph 111 = .ok (.iload_n 1, 1) := by decide +kernel
theorem dX11_glyph_112 : decode cX11_glyph 112 = .ok (.iaload, 1) := by decide +kernel
theorem dX11_glyph_113 : decode cX11_glyph 113 = .ok (.ireturn, 1) := by decide +kernel
theorem dX11_glyph_114 : decode cX11_glyph 114 = .ok (.aload_n 0, 1) := by decide +kernel
theorem dX11_glyph_115 : decode cX11_glyph 115 = .ok (.getfield 16, 3) := by decide +kernel
theorem dX11_glyph_118 : decode cX11_glyph 118 = .ok (.getfield 126, 3) := by decide +kernel
theorem dX11_glyph_121 : decode cX11_glyph 121 = .ok (.iconst 3, 1) := by decide +kernel
theorem dX11_glyph_122 : decode cX11_glyph 122 = .ok (.aaload, 1) := by decide +kernel
theorem dX11_glyph_123 : decode cX11_glyph 123 = .ok (.iload_n 1, 1) := by decide +kernel
theorem dX11_glyph_124 : decode cX11_glyph 124 = .ok (.iaload, 1) := by decide +kernel
theorem dX11_glyph_125 : decode cX11_glyph 125 = .ok (.ireturn, 1) := by decide +kernel
theorem dX11_glyph_126 : decode cX11_glyph 126 = .ok (.aload_n 0, 1) := by decide +kernel
theorem dX11_glyph_127 : decode cX11_glyph 127 = .ok (.getfield 16, 3) := by decide +kernel
theorem dX11_glyph_130 : decode cX11_glyph 130 = .ok (.getfield 126, 3) := by decide +kernel
theorem dX11_glyph_133 : decode cX11_glyph 133 = .ok (.iconst 4, 1) := by decide +kernel
theorem dX11_glyph_134 : decode cX11_glyph 134 = .ok (.aaload, 1) := by decide +kernel
theorem dX11_glyph_135 : decode cX11_glyph 135 = .ok (.iload_n 1, 1) := by decide +kernel
theorem dX11_glyph_136 : decode cX11_glyph 136 = .ok (.iaload, 1) := by decide +kernel
theorem dX11_glyph_137 : decode cX11_glyph 137 = .ok (.ireturn, 1) := by decide +kernel
theorem dX11_glyph_138 : decode cX11_glyph 138 = .ok (.aload_n 0, 1) := by decide +kernel
theorem dX11_glyph_139 : decode cX11_glyph 139 = .ok (.getfield 16, 3) := by decide +kernel
theorem dX11_glyph_142 : decode cX11_glyph 142 = .ok (.getfield 126, 3) := by decide +kernel
theorem dX11_glyph_145 : decode cX11_glyph 145 = .ok (.iconst 5, 1) := by decide +kernel
theorem dX11_glyph_146 : decode cX11_glyph 146 = .ok (.aaload, 1) := by decide +kernel
theorem dX11_glyph_147 : decode cX11_glyph 147 = .ok (.iload_n 1, 1) := by decide +kernel
theorem dX11_glyph_148 : decode cX11_glyph 148 = .ok (.iaload, 1) := by decide +kernel
theorem dX11_glyph_149 : decode cX11_glyph 149 = .ok (.ireturn, 1) := by decide +kernel
theorem dX11_glyph_150 : decode cX11_glyph 150 = .ok (.aload_n 0, 1) := by decide +kernel
theorem dX11_glyph_151 : decode cX11_glyph 151 = .ok (.getfield 16, 3) := by decide +kernel
theorem dX11_glyph_154 : decode cX11_glyph 154 = .ok (.getfield 126, 3) := by decide +kernel
theorem dX11_glyph_157 : decode cX11_glyph 157 = .ok (.bipush 7, 2) := by decide +kernel
theorem dX11_glyph_159 : decode cX11_glyph 159 = .ok (.aaload, 1) := by decide +kernel
theorem dX11_glyph_160 : decode cX11_glyph 160 = .ok (.iload_n 1, 1) := by decide +kernel
theorem dX11_glyph_161 : decode cX11_glyph 161 = .ok (.iaload, 1) := by decide +kernel
theorem dX11_glyph_162 : decode cX11_glyph 162 = .ok (.ireturn, 1) := by decide +kernel
theorem dX11_glyph_163 : decode cX11_glyph 163 = .ok (.bipush (-2), 2) := by decide +kernel
theorem dX11_glyph_165 : decode cX11_glyph 165 = .ok (.ireturn, 1) := by decide +kernel
def F_X11_glyph (l1 : Int32) (l2 : Int32) (V : sv_V) : Option (Int32 × sv_V) := if (V.1 2 2) = 0 then (some ((-3 : Int32), V)) else ((F_X2_hasGlyph l1 V).bind (fun (x4, V2) => if x4 = 0 then (some ((-1 : Int32), V2)) else (if l2 = 0 then ((F_X2_advanceOf l1 V2).bind (fun (x9, V7) => some (x9, V7))) else (if l2 = 1 then ((F_X2_bearingOf l1 V2).bind (fun (x13, V11) => some (x13, V11))) else (if l2 = 2 then ((cr 7 (1 : Int32).toNatClampNeg).bind (fun b15 => (sv_len 0 b15).bind (fun n17 => if sx_in l1 n17 = true then some (V2.1 b15 l1.toNatClampNeg, V2) else none))) else (if l2 = 3 then ((cr 7 (2 : Int32).toNatClampNeg).bind (fun b21 => (sv_len 0 b21).bind (fun n23 => if sx_in l1 n23 = true then some (V2.1 b21 l1.toNatClampNeg, V2) else none))) else (if l2 = 4 then ((cr 7 (3 : Int32).toNatClampNeg).bind (fun b27 => (sv_len 0 b27).bind (fun n29 => if sx_in l1 n29 = true then some (V2.1 b27 l1.toNatClampNeg, V2) else none))) else (if l2 = 5 then ((cr 7 (4 : Int32).toNatClampNeg).bind (fun b33 => (sv_len 0 b33).bind (fun n35 => if sx_in l1 n35 = true then some (V2.1 b33 l1.toNatClampNeg, V2) else none))) else (if l2 = 6 then ((cr 7 (5 : Int32).toNatClampNeg).bind (fun b39 => (sv_len 0 b39).bind (fun n41 => if sx_in l1 n41 = true then some (V2.1 b39 l1.toNatClampNeg, V2) else none))) else (if l2 = 7 then ((cr 7 (7 : Int32).toNatClampNeg).bind (fun b45 => (sv_len 0 b45).bind (fun n47 => if sx_in l1 n47 = true then some (V2.1 b45 l1.toNatClampNeg, V2) else none))) else (some ((-2 : Int32), V2))))))))))))
set_option maxRecDepth 20000 in
theorem t_X11_glyph {g : sx_G} (hG : sx_Go g) {P : Option Value → sv_V → Prop} {r : Int32} {Vr : sv_V} (hP : P (some (.int r)) Vr) {l1 : Int32} {l2 : Int32} {V : sv_V} (h : F_X11_glyph l1 l2 V = some (r, Vr)) : sv_N g qX11_glyph 2 0 [(0, .ref 0), (1, .int l1), (2, .int l2)] [] V P := by
  unfold F_X11_glyph at h
  refine sx_aload_n (pc := 0) dX11_glyph_0 sx_m0 ?_
  refine sv_getO (pc := 1) hG dX11_glyph_1 f_11_16 lay_0 rfl cr_0_2 ?_
  refine sv_getZ (pc := 4) hG dX11_glyph_4 f_11_67 lay_2 rfl ?_
  refine sx_if_ne (pc := 7) (tgt := 13) dX11_glyph_7 (by decide) (fun c1 => ?_) (fun c1 => ?_)
  · have h := sx_neg c1 h
    refine sx_aload_n (pc := 13) dX11_glyph_13 sx_m0 ?_
    refine sv_getO (pc := 14) hG dX11_glyph_14 f_11_16 lay_0 rfl cr_0_2 ?_
    refine sx_iload_n (pc := 17) dX11_glyph_17 sx_m1 ?_
    obtain ⟨⟨x4, V2⟩, g3, h⟩ := sx_bnd h
    refine sv_cV (pc := 18) (y := qX2_hasGlyph) (o := (some (.int x4))) (as := [.int l1]) (V1 := V2) hG dX11_glyph_18 l_X11_116 y0X2_hasGlyph yvX2_hasGlyph rfl (Nat.le_of_ble_eq_true rfl) lay_2 kr_2 (by decide) (Nat.le_of_ble_eq_true rfl) rfl rfl rfl (t_X2_hasGlyph hG ⟨rfl, rfl⟩ g3) ?_
    refine sx_if_ne (pc := 21) (tgt := 26) dX11_glyph_21 (by decide) (fun c5 => ?_) (fun c5 => ?_)
    · have h := sx_neg c5 h
      refine sx_iload_n (pc := 26) dX11_glyph_26 sx_m2 ?_
      by_cases c6 : l2 = 0
      · have h := sx_pos c6 h
        refine sx_tabI (pc := 27) (off := 45) (tgt := 72) dX11_glyph_27 (by rw [c6]; decide) (by rw [c6]; decide) (by rw [c6]; rfl) (by decide) ?_
        refine sx_aload_n (pc := 72) dX11_glyph_72 sx_m0 ?_
        refine sv_getO (pc := 73) hG dX11_glyph_73 f_11_16 lay_0 rfl cr_0_2 ?_
        refine sx_iload_n (pc := 76) dX11_glyph_76 sx_m1 ?_
        obtain ⟨⟨x9, V7⟩, g8, h⟩ := sx_bnd h
        refine sv_cV (pc := 77) (y := qX2_advanceOf) (o := (some (.int x9))) (as := [.int l1]) (V1 := V7) hG dX11_glyph_77 l_X11_120 y0X2_advanceOf yvX2_advanceOf rfl (Nat.le_of_ble_eq_true rfl) lay_2 kr_2 (by decide) (Nat.le_of_ble_eq_true rfl) rfl rfl rfl (t_X2_advanceOf hG ⟨rfl, rfl⟩ g8) ?_
        exact sv_iret (pc := 80) dX11_glyph_80 rfl h hP
      have h := sx_neg c6 h
      by_cases c10 : l2 = 1
      · have h := sx_pos c10 h
        refine sx_tabI (pc := 27) (off := 54) (tgt := 81) dX11_glyph_27 (by rw [c10]; decide) (by rw [c10]; decide) (by rw [c10]; rfl) (by decide) ?_
        refine sx_aload_n (pc := 81) dX11_glyph_81 sx_m0 ?_
        refine sv_getO (pc := 82) hG dX11_glyph_82 f_11_16 lay_0 rfl cr_0_2 ?_
        refine sx_iload_n (pc := 85) dX11_glyph_85 sx_m1 ?_
        obtain ⟨⟨x13, V11⟩, g12, h⟩ := sx_bnd h
        refine sv_cV (pc := 86) (y := qX2_bearingOf) (o := (some (.int x13))) (as := [.int l1]) (V1 := V11) hG dX11_glyph_86 l_X11_123 y0X2_bearingOf yvX2_bearingOf rfl (Nat.le_of_ble_eq_true rfl) lay_2 kr_2 (by decide) (Nat.le_of_ble_eq_true rfl) rfl rfl rfl (t_X2_bearingOf hG ⟨rfl, rfl⟩ g12) ?_
        exact sv_iret (pc := 89) dX11_glyph_89 rfl h hP
      have h := sx_neg c10 h
      by_cases c14 : l2 = 2
      · have h := sx_pos c14 h
        refine sx_tabI (pc := 27) (off := 63) (tgt := 90) dX11_glyph_27 (by rw [c14]; decide) (by rw [c14]; decide) (by rw [c14]; rfl) (by decide) ?_
        refine sx_aload_n (pc := 90) dX11_glyph_90 sx_m0 ?_
        refine sv_getO (pc := 91) hG dX11_glyph_91 f_11_16 lay_0 rfl cr_0_2 ?_
        refine sv_getA (pc := 94) hG dX11_glyph_94 f_11_126 lay_2 rfl cr_2_16 ?_
        refine sx_iconst (pc := 97) (v := 1) dX11_glyph_97 (by decide) ?_
        obtain ⟨b15, g16, h⟩ := sx_bnd h
        refine sv_aald (pc := 98) hG dX11_glyph_98 (by decide) lay_7 (by decide) g16 ?_
        refine sx_iload_n (pc := 99) dX11_glyph_99 sx_m1 ?_
        obtain ⟨n17, g18, h⟩ := sx_bnd h
        obtain ⟨g19, h⟩ := sx_grd h
        refine sv_iald (pc := 100) hG dX11_glyph_100 (sv_len_e g18) g19 ?_
        exact sv_iret (pc := 101) dX11_glyph_101 rfl h hP
      have h := sx_neg c14 h
      by_cases c20 : l2 = 3
      · have h := sx_pos c20 h
        refine sx_tabI (pc := 27) (off := 75) (tgt := 102) dX11_glyph_27 (by rw [c20]; decide) (by rw [c20]; decide) (by rw [c20]; rfl) (by decide) ?_
        refine sx_aload_n (pc := 102) dX11_glyph_102 sx_m0 ?_
        refine sv_getO (pc := 103) hG dX11_glyph_103 f_11_16 lay_0 rfl cr_0_2 ?_
        refine sv_getA (pc := 106) hG dX11_glyph_106 f_11_126 lay_2 rfl cr_2_16 ?_
        refine sx_iconst (pc := 109) (v := 2) dX11_glyph_109 (by decide) ?_
        obtain ⟨b21, g22, h⟩ := sx_bnd h
        refine sv_aald (pc := 110) hG dX11_glyph_110 (by decide) lay_7 (by decide) g22 ?_
        refine sx_iload_n (pc := 111) dX11_glyph_111 sx_m1 ?_
        obtain ⟨n23, g24, h⟩ := sx_bnd h
        obtain ⟨g25, h⟩ := sx_grd h
        refine sv_iald (pc := 112) hG dX11_glyph_112 (sv_len_e g24) g25 ?_
        exact sv_iret (pc := 113) dX11_glyph_113 rfl h hP
      have h := sx_neg c20 h
      by_cases c26 : l2 = 4
      · have h := sx_pos c26 h
        refine sx_tabI (pc := 27) (off := 87) (tgt := 114) dX11_glyph_27 (by rw [c26]; decide) (by rw [c26]; decide) (by rw [c26]; rfl) (by decide) ?_
        refine sx_aload_n (pc := 114) dX11_glyph_114 sx_m0 ?_
        refine sv_getO (pc := 115) hG dX11_glyph_115 f_11_16 lay_0 rfl cr_0_2 ?_
        refine sv_getA (pc := 118) hG dX11_glyph_118 f_11_126 lay_2 rfl cr_2_16 ?_
        refine sx_iconst (pc := 121) (v := 3) dX11_glyph_121 (by decide) ?_
        obtain ⟨b27, g28, h⟩ := sx_bnd h
        refine sv_aald (pc := 122) hG dX11_glyph_122 (by decide) lay_7 (by decide) g28 ?_
        refine sx_iload_n (pc := 123) dX11_glyph_123 sx_m1 ?_
        obtain ⟨n29, g30, h⟩ := sx_bnd h
        obtain ⟨g31, h⟩ := sx_grd h
        refine sv_iald (pc := 124) hG dX11_glyph_124 (sv_len_e g30) g31 ?_
        exact sv_iret (pc := 125) dX11_glyph_125 rfl h hP
      have h := sx_neg c26 h
      by_cases c32 : l2 = 5
      · have h := sx_pos c32 h
        refine sx_tabI (pc := 27) (off := 99) (tgt := 126) dX11_glyph_27 (by rw [c32]; decide) (by rw [c32]; decide) (by rw [c32]; rfl) (by decide) ?_
        refine sx_aload_n (pc := 126) dX11_glyph_126 sx_m0 ?_
        refine sv_getO (pc := 127) hG dX11_glyph_127 f_11_16 lay_0 rfl cr_0_2 ?_
        refine sv_getA (pc := 130) hG dX11_glyph_130 f_11_126 lay_2 rfl cr_2_16 ?_
        refine sx_iconst (pc := 133) (v := 4) dX11_glyph_133 (by decide) ?_
        obtain ⟨b33, g34, h⟩ := sx_bnd h
        refine sv_aald (pc := 134) hG dX11_glyph_134 (by decide) lay_7 (by decide) g34 ?_
        refine sx_iload_n (pc := 135) dX11_glyph_135 sx_m1 ?_
        obtain ⟨n35, g36, h⟩ := sx_bnd h
        obtain ⟨g37, h⟩ := sx_grd h
        refine sv_iald (pc := 136) hG dX11_glyph_136 (sv_len_e g36) g37 ?_
        exact sv_iret (pc := 137) dX11_glyph_137 rfl h hP
      have h := sx_neg c32 h
      by_cases c38 : l2 = 6
      · have h := sx_pos c38 h
        refine sx_tabI (pc := 27) (off := 111) (tgt := 138) dX11_glyph_27 (by rw [c38]; decide) (by rw [c38]; decide) (by rw [c38]; rfl) (by decide) ?_
        refine sx_aload_n (pc := 138) dX11_glyph_138 sx_m0 ?_
        refine sv_getO (pc := 139) hG dX11_glyph_139 f_11_16 lay_0 rfl cr_0_2 ?_
        refine sv_getA (pc := 142) hG dX11_glyph_142 f_11_126 lay_2 rfl cr_2_16 ?_
        refine sx_iconst (pc := 145) (v := 5) dX11_glyph_145 (by decide) ?_
        obtain ⟨b39, g40, h⟩ := sx_bnd h
        refine sv_aald (pc := 146) hG dX11_glyph_146 (by decide) lay_7 (by decide) g40 ?_
        refine sx_iload_n (pc := 147) dX11_glyph_147 sx_m1 ?_
        obtain ⟨n41, g42, h⟩ := sx_bnd h
        obtain ⟨g43, h⟩ := sx_grd h
        refine sv_iald (pc := 148) hG dX11_glyph_148 (sv_len_e g42) g43 ?_
        exact sv_iret (pc := 149) dX11_glyph_149 rfl h hP
      have h := sx_neg c38 h
      by_cases c44 : l2 = 7
      · have h := sx_pos c44 h
        refine sx_tabI (pc := 27) (off := 123) (tgt := 150) dX11_glyph_27 (by rw [c44]; decide) (by rw [c44]; decide) (by rw [c44]; rfl) (by decide) ?_
        refine sx_aload_n (pc := 150) dX11_glyph_150 sx_m0 ?_
        refine sv_getO (pc := 151) hG dX11_glyph_151 f_11_16 lay_0 rfl cr_0_2 ?_
        refine sv_getA (pc := 154) hG dX11_glyph_154 f_11_126 lay_2 rfl cr_2_16 ?_
        refine sx_bipush (pc := 157) (v := 7) dX11_glyph_157 (by decide) ?_
        obtain ⟨b45, g46, h⟩ := sx_bnd h
        refine sv_aald (pc := 159) hG dX11_glyph_159 (by decide) lay_7 (by decide) g46 ?_
        refine sx_iload_n (pc := 160) dX11_glyph_160 sx_m1 ?_
        obtain ⟨n47, g48, h⟩ := sx_bnd h
        obtain ⟨g49, h⟩ := sx_grd h
        refine sv_iald (pc := 161) hG dX11_glyph_161 (sv_len_e g48) g49 ?_
        exact sv_iret (pc := 162) dX11_glyph_162 rfl h hP
      have h := sx_neg c44 h
      refine sx_tabO (pc := 27) (tgt := 163) dX11_glyph_27 (by have ec6 := lv_neT (a := 0) c6 rfl; have ec10 := lv_neT (a := 1) c10 rfl; have ec14 := lv_neT (a := 2) c14 rfl; have ec20 := lv_neT (a := 3) c20 rfl; have ec26 := lv_neT (a := 4) c26 rfl; have ec32 := lv_neT (a := 5) c32 rfl; have ec38 := lv_neT (a := 6) c38 rfl; have ec44 := lv_neT (a := 7) c44 rfl; omega) (by decide) ?_
      refine sx_bipush (pc := 163) (v := (-2)) dX11_glyph_163 (by decide) ?_
      exact sv_iret (pc := 165) dX11_glyph_165 rfl h hP
    · have h := sx_pos c5 h
      refine sx_iconst (pc := 24) (v := (-1)) dX11_glyph_24 (by decide) ?_
      exact sv_iret (pc := 25) dX11_glyph_25 rfl h hP
  · have h := sx_pos c1 h
    refine sx_bipush (pc := 10) (v := (-3)) dX11_glyph_10 (by decide) ?_
    exact sv_iret (pc := 12) dX11_glyph_12 rfl h hP
