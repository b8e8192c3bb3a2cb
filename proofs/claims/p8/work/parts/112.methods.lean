section
/-! methods: X6_beginOutline, X6_takeOutline, X6_append, X6_match, X7_copyFrom, X8_clearTo, X8_liesWithin, X9_goAlong, X9_findWay, X9_rounded, X10_traceContour, X10_chooseRow, X10_meets, X11_glyph -/
def ncX6_beginOutline : Nat := 227702036597445069327290623069169562257681927187539680327148952608561874409305235148912346062222686969365881723268623981173188846578053995416060011077924550163955579744839019475026396208241243336477390239236908
theorem kcX6_beginOutline : CK cX6_beginOutline ncX6_beginOutline 87 := ⟨by decide +kernel, by decide +kernel⟩
theorem dX6_beginOutline_0 : decode cX6_beginOutline 0 = .ok (.aload_n 2, 1) := dl_o44 kcX6_beginOutline (by decide +kernel)
theorem dX6_beginOutline_1 : decode cX6_beginOutline 1 = .ok (.iconst 0, 1) := dl_o3 kcX6_beginOutline (by decide +kernel)
theorem dX6_beginOutline_2 : decode cX6_beginOutline 2 = .ok (.putfield 136, 3) := dl_o181 kcX6_beginOutline (by decide +kernel)
theorem dX6_beginOutline_5 : decode cX6_beginOutline 5 = .ok (.aload_n 2, 1) := dl_o44 kcX6_beginOutline (by decide +kernel)
theorem dX6_beginOutline_6 : decode cX6_beginOutline 6 = .ok (.iconst 0, 1) := dl_o3 kcX6_beginOutline (by decide +kernel)
theorem dX6_beginOutline_7 : decode cX6_beginOutline 7 = .ok (.putfield 167, 3) := dl_o181 kcX6_beginOutline (by decide +kernel)
theorem dX6_beginOutline_10 : decode cX6_beginOutline 10 = .ok (.aload_n 0, 1) := dl_o42 kcX6_beginOutline (by decide +kernel)
theorem dX6_beginOutline_11 : decode cX6_beginOutline 11 = .ok (.getfield 34, 3) := dl_o180 kcX6_beginOutline (by decide +kernel)
theorem dX6_beginOutline_14 : decode cX6_beginOutline 14 = .ok (.getfield 111, 3) := dl_o180 kcX6_beginOutline (by decide +kernel)
theorem dX6_beginOutline_17 : decode cX6_beginOutline 17 = .ok (.iconst 3, 1) := dl_o6 kcX6_beginOutline (by decide +kernel)
theorem dX6_beginOutline_18 : decode cX6_beginOutline 18 = .ok (.aaload, 1) := dl_o50 kcX6_beginOutline (by decide +kernel)
theorem dX6_beginOutline_19 : decode cX6_beginOutline 19 = .ok (.iload_n 1, 1) := dl_o27 kcX6_beginOutline (by decide +kernel)
theorem dX6_beginOutline_20 : decode cX6_beginOutline 20 = .ok (.iaload, 1) := dl_o46 kcX6_beginOutline (by decide +kernel)
theorem dX6_beginOutline_21 : decode cX6_beginOutline 21 = .ok (.aload_n 0, 1) := dl_o42 kcX6_beginOutline (by decide +kernel)
theorem dX6_beginOutline_22 : decode cX6_beginOutline 22 = .ok (.getfield 34, 3) := dl_o180 kcX6_beginOutline (by decide +kernel)
theorem dX6_beginOutline_25 : decode cX6_beginOutline 25 = .ok (.iload_n 1, 1) := dl_o27 kcX6_beginOutline (by decide +kernel)
theorem dX6_beginOutline_26 : decode cX6_beginOutline 26 = .ok (.invokevirtual 170, 3) := dl_o182 kcX6_beginOutline (by decide +kernel)
theorem dX6_beginOutline_29 : decode cX6_beginOutline 29 = .ok (.isub, 1) := dl_o100 kcX6_beginOutline (by decide +kernel)
theorem dX6_beginOutline_30 : decode cX6_beginOutline 30 = .ok (.istore_n 3, 1) := dl_o62 kcX6_beginOutline (by decide +kernel)
theorem dX6_beginOutline_31 : decode cX6_beginOutline 31 = .ok (.aload_n 2, 1) := dl_o44 kcX6_beginOutline (by decide +kernel)
theorem dX6_beginOutline_32 : decode cX6_beginOutline 32 = .ok (.getfield 115, 3) := dl_o180 kcX6_beginOutline (by decide +kernel)
theorem dX6_beginOutline_35 : decode cX6_beginOutline 35 = .ok (.iconst 0, 1) := dl_o3 kcX6_beginOutline (by decide +kernel)
theorem dX6_beginOutline_36 : decode cX6_beginOutline 36 = .ok (.aload_n 0, 1) := dl_o42 kcX6_beginOutline (by decide +kernel)
theorem dX6_beginOutline_37 : decode cX6_beginOutline 37 = .ok (.getfield 47, 3) := dl_o180 kcX6_beginOutline (by decide +kernel)
theorem dX6_beginOutline_40 : decode cX6_beginOutline 40 = .ok (.iload_n 3, 1) := dl_o29 kcX6_beginOutline (by decide +kernel)
theorem dX6_beginOutline_41 : decode cX6_beginOutline 41 = .ok (.i2l, 1) := dl_o133 kcX6_beginOutline (by decide +kernel)
theorem dX6_beginOutline_42 : decode cX6_beginOutline 42 = .ok (.invokevirtual 174, 3) := dl_o182 kcX6_beginOutline (by decide +kernel)
theorem dX6_beginOutline_45 : decode cX6_beginOutline 45 = .ok (.l2i, 1) := dl_o136 kcX6_beginOutline (by decide +kernel)
theorem dX6_beginOutline_46 : decode cX6_beginOutline 46 = .ok (.iastore, 1) := dl_o79 kcX6_beginOutline (by decide +kernel)
theorem dX6_beginOutline_47 : decode cX6_beginOutline 47 = .ok (.aload_n 2, 1) := dl_o44 kcX6_beginOutline (by decide +kernel)
theorem dX6_beginOutline_48 : decode cX6_beginOutline 48 = .ok (.getfield 115, 3) := dl_o180 kcX6_beginOutline (by decide +kernel)
theorem dX6_beginOutline_51 : decode cX6_beginOutline 51 = .ok (.iconst 1, 1) := dl_o4 kcX6_beginOutline (by decide +kernel)
theorem dX6_beginOutline_52 : decode cX6_beginOutline 52 = .ok (.aload_n 0, 1) := dl_o42 kcX6_beginOutline (by decide +kernel)
theorem dX6_beginOutline_53 : decode cX6_beginOutline 53 = .ok (.getfield 47, 3) := dl_o180 kcX6_beginOutline (by decide +kernel)
theorem dX6_beginOutline_56 : decode cX6_beginOutline 56 = .ok (.iload_n 3, 1) := dl_o29 kcX6_beginOutline (by decide +kernel)
theorem dX6_beginOutline_57 : decode cX6_beginOutline 57 = .ok (.aload_n 0, 1) := dl_o42 kcX6_beginOutline (by decide +kernel)
theorem dX6_beginOutline_58 : decode cX6_beginOutline 58 = .ok (.getfield 34, 3) := dl_o180 kcX6_beginOutline (by decide +kernel)
theorem dX6_beginOutline_61 : decode cX6_beginOutline 61 = .ok (.iload_n 1, 1) := dl_o27 kcX6_beginOutline (by decide +kernel)
theorem dX6_beginOutline_62 : decode cX6_beginOutline 62 = .ok (.invokevirtual 178, 3) := dl_o182 kcX6_beginOutline (by decide +kernel)
theorem dX6_beginOutline_65 : decode cX6_beginOutline 65 = .ok (.iadd, 1) := dl_o96 kcX6_beginOutline (by decide +kernel)
theorem dX6_beginOutline_66 : decode cX6_beginOutline 66 = .ok (.i2l, 1) := dl_o133 kcX6_beginOutline (by decide +kernel)
theorem dX6_beginOutline_67 : decode cX6_beginOutline 67 = .ok (.invokevirtual 174, 3) := dl_o182 kcX6_beginOutline (by decide +kernel)
theorem dX6_beginOutline_70 : decode cX6_beginOutline 70 = .ok (.l2i, 1) := dl_o136 kcX6_beginOutline (by decide +kernel)
theorem dX6_beginOutline_71 : decode cX6_beginOutline 71 = .ok (.iastore, 1) := dl_o79 kcX6_beginOutline (by decide +kernel)
theorem dX6_beginOutline_72 : decode cX6_beginOutline 72 = .ok (.aload_n 2, 1) := dl_o44 kcX6_beginOutline (by decide +kernel)
theorem dX6_beginOutline_73 : decode cX6_beginOutline 73 = .ok (.getfield 181, 3) := dl_o180 kcX6_beginOutline (by decide +kernel)
theorem dX6_beginOutline_76 : decode cX6_beginOutline 76 = .ok (.iconst 0, 1) := dl_o3 kcX6_beginOutline (by decide +kernel)
theorem dX6_beginOutline_77 : decode cX6_beginOutline 77 = .ok (.iconst 0, 1) := dl_o3 kcX6_beginOutline (by decide +kernel)
theorem dX6_beginOutline_78 : decode cX6_beginOutline 78 = .ok (.iastore, 1) := dl_o79 kcX6_beginOutline (by decide +kernel)
theorem dX6_beginOutline_79 : decode cX6_beginOutline 79 = .ok (.aload_n 2, 1) := dl_o44 kcX6_beginOutline (by decide +kernel)
theorem dX6_beginOutline_80 : decode cX6_beginOutline 80 = .ok (.getfield 181, 3) := dl_o180 kcX6_beginOutline (by decide +kernel)
theorem dX6_beginOutline_83 : decode cX6_beginOutline 83 = .ok (.iconst 1, 1) := dl_o4 kcX6_beginOutline (by decide +kernel)
theorem dX6_beginOutline_84 : decode cX6_beginOutline 84 = .ok (.iconst 0, 1) := dl_o3 kcX6_beginOutline (by decide +kernel)
theorem dX6_beginOutline_85 : decode cX6_beginOutline 85 = .ok (.iastore, 1) := dl_o79 kcX6_beginOutline (by decide +kernel)
theorem dX6_beginOutline_86 : decode cX6_beginOutline 86 = .ok (.return_, 1) := dl_o177 kcX6_beginOutline (by decide +kernel)
def F_X6_beginOutline (l1 : Int32) (l2 : Nat) (V : sv_V) : Option sv_V := if lay l2 = .inl 8 then sx_let (sv_I V l2 9 (0 : Int32)) (fun V2 => sx_let (sv_I V2 l2 10 (0 : Int32)) (fun V3 => (cr 7 (3 : Int32).toNatClampNeg).bind (fun b4 => (sv_len 0 b4).bind (fun n6 => if sx_in l1 n6 = true then (F_X2_bearingOf l1 V3).bind (fun (x11, V9) => sx_let ((V3.1 b4 l1.toNatClampNeg) - x11) (fun x12 => (cr l2 7).bind (fun b13 => (F_X5_scaled x12.toInt64 V9).bind (fun (x17, V15) => (sv_len 0 b13).bind (fun n18 => if sx_in (0 : Int32) n18 = true then sx_let (sv_I V15 b13 (0 : Int32).toNatClampNeg x17.toInt32) (fun V21 => (F_X2_advanceOf l1 V21).bind (fun (x24, V22) => (F_X5_scaled ((x12 + x24).toInt64) V22).bind (fun (x27, V25) => if sx_in (1 : Int32) n18 = true then sx_let (sv_I V25 b13 (1 : Int32).toNatClampNeg x27.toInt32) (fun V29 => (cr l2 8).bind (fun b30 => (sv_len 0 b30).bind (fun n32 => if sx_in (0 : Int32) n32 = true then sx_let (sv_I V29 b30 (0 : Int32).toNatClampNeg (0 : Int32)) (fun V35 => if sx_in (1 : Int32) n32 = true then sx_let (sv_I V35 b30 (1 : Int32).toNatClampNeg (0 : Int32)) (fun V37 => some V37) else none) else none))) else none))) else none))))) else none)))) else none
set_option maxRecDepth 20000 in
theorem t_X6_beginOutline {g : sx_G} (hG : sx_Go g) {P : Option Value → sv_V → Prop} {Vr : sv_V} (hP : P none Vr) {l1 : Int32} {l2 : Nat} {V : sv_V} (h : F_X6_beginOutline l1 l2 V = some Vr) : sv_N g qX6_beginOutline 2 0 [(0, .ref 30), (1, .int l1), (2, .ref l2)] [] V P := by
  unfold F_X6_beginOutline at h
  refine sx_aload_n (pc := 0) dX6_beginOutline_0 sx_m2 ?_
  refine sx_iconst (pc := 1) (v := 0) dX6_beginOutline_1 (by decide) ?_
  obtain ⟨g1, h⟩ := sx_grd h
  obtain ⟨V2, hV2⟩ : ∃ z : sv_V, z = sv_I V l2 9 (0 : Int32) := ⟨_, rfl⟩
  have h := sx_letE hV2 h
  refine sv_putI (pc := 2) hG dX6_beginOutline_2 f_6_136 g1 rfl hV2 ?_
  refine sx_aload_n (pc := 5) dX6_beginOutline_5 sx_m2 ?_
  refine sx_iconst (pc := 6) (v := 0) dX6_beginOutline_6 (by decide) ?_
  obtain ⟨V3, hV3⟩ : ∃ z : sv_V, z = sv_I V2 l2 10 (0 : Int32) := ⟨_, rfl⟩
  have h := sx_letE hV3 h
  refine sv_putI (pc := 7) hG dX6_beginOutline_7 f_6_167 g1 rfl hV3 ?_
  refine sx_aload_n (pc := 10) dX6_beginOutline_10 sx_m0 ?_
  refine sv_getO (pc := 11) hG dX6_beginOutline_11 f_6_34 lay_30 rfl cr_30_0 ?_
  refine sv_getA (pc := 14) hG dX6_beginOutline_14 f_6_111 lay_2 rfl cr_2_16 ?_
  refine sx_iconst (pc := 17) (v := 3) dX6_beginOutline_17 (by decide) ?_
  obtain ⟨b4, g5, h⟩ := sx_bnd h
  refine sv_aald (pc := 18) hG dX6_beginOutline_18 (by decide) lay_7 (by decide) g5 ?_
  refine sx_iload_n (pc := 19) dX6_beginOutline_19 sx_m1 ?_
  obtain ⟨n6, g7, h⟩ := sx_bnd h
  obtain ⟨g8, h⟩ := sx_grd h
  refine sv_iald (pc := 20) hG dX6_beginOutline_20 (sv_len_e g7) g8 ?_
  refine sx_aload_n (pc := 21) dX6_beginOutline_21 sx_m0 ?_
  refine sv_getO (pc := 22) hG dX6_beginOutline_22 f_6_34 lay_30 rfl cr_30_0 ?_
  refine sx_iload_n (pc := 25) dX6_beginOutline_25 sx_m1 ?_
  obtain ⟨⟨x11, V9⟩, g10, h⟩ := sx_bnd h
  refine sv_cV (pc := 26) (y := qX2_bearingOf) (o := (some (.int x11))) (as := [.int l1]) (V1 := V9) hG dX6_beginOutline_26 l_X6_170 y0X2_bearingOf yvX2_bearingOf rfl (Nat.le_of_ble_eq_true rfl) lay_2 kr_2 (by decide) (Nat.le_of_ble_eq_true rfl) rfl rfl rfl (t_X2_bearingOf hG ⟨rfl, rfl⟩ g10) ?_
  refine sx_isub (pc := 29) dX6_beginOutline_29 ?_
  refine sv_tI (fun x12 hx12 => ?_)
  have h := sx_letE hx12 h
  refine sx_istore_n (pc := 30) (lo' := [(3, .int x12), (0, .ref 30), (1, .int l1), (2, .ref l2)]) dX6_beginOutline_30 (by decide) rfl ?_
  refine sx_aload_n (pc := 31) dX6_beginOutline_31 sx_m3 ?_
  obtain ⟨b13, g14, h⟩ := sx_bnd h
  refine sv_getA (pc := 32) hG dX6_beginOutline_32 f_6_115 g1 rfl g14 ?_
  refine sx_iconst (pc := 35) (v := 0) dX6_beginOutline_35 (by decide) ?_
  refine sx_aload_n (pc := 36) dX6_beginOutline_36 sx_m1 ?_
  refine sv_getO (pc := 37) hG dX6_beginOutline_37 f_6_47 lay_30 rfl cr_30_2 ?_
  refine sx_iload_n (pc := 40) dX6_beginOutline_40 sx_m0 ?_
  refine sx_i2l (pc := 41) dX6_beginOutline_41 ?_
  obtain ⟨⟨x17, V15⟩, g16, h⟩ := sx_bnd h
  refine sv_cV (pc := 42) (y := qX5_scaled) (o := (some (.long x17))) (as := [.long x12.toInt64]) (V1 := V15) hG dX6_beginOutline_42 l_X6_174 y0X5_scaled yvX5_scaled rfl (Nat.le_of_ble_eq_true rfl) lay_69 kr_5 (by decide) (Nat.le_of_ble_eq_true rfl) rfl rfl rfl (t_X5_scaled hG ⟨rfl, rfl⟩ g16) ?_
  refine sx_l2i (pc := 45) dX6_beginOutline_45 ?_
  obtain ⟨n18, g19, h⟩ := sx_bnd h
  obtain ⟨g20, h⟩ := sx_grd h
  obtain ⟨V21, hV21⟩ : ∃ z : sv_V, z = sv_I V15 b13 (0 : Int32).toNatClampNeg x17.toInt32 := ⟨_, rfl⟩
  have h := sx_letE hV21 h
  refine sv_iast (pc := 46) hG dX6_beginOutline_46 (sv_len_e g19) g20 hV21 ?_
  refine sx_aload_n (pc := 47) dX6_beginOutline_47 sx_m3 ?_
  refine sv_getA (pc := 48) hG dX6_beginOutline_48 f_6_115 g1 rfl g14 ?_
  refine sx_iconst (pc := 51) (v := 1) dX6_beginOutline_51 (by decide) ?_
  refine sx_aload_n (pc := 52) dX6_beginOutline_52 sx_m1 ?_
  refine sv_getO (pc := 53) hG dX6_beginOutline_53 f_6_47 lay_30 rfl cr_30_2 ?_
  refine sx_iload_n (pc := 56) dX6_beginOutline_56 sx_m0 ?_
  refine sx_aload_n (pc := 57) dX6_beginOutline_57 sx_m1 ?_
  refine sv_getO (pc := 58) hG dX6_beginOutline_58 f_6_34 lay_30 rfl cr_30_0 ?_
  refine sx_iload_n (pc := 61) dX6_beginOutline_61 sx_m2 ?_
  obtain ⟨⟨x24, V22⟩, g23, h⟩ := sx_bnd h
  refine sv_cV (pc := 62) (y := qX2_advanceOf) (o := (some (.int x24))) (as := [.int l1]) (V1 := V22) hG dX6_beginOutline_62 l_X6_178 y0X2_advanceOf yvX2_advanceOf rfl (Nat.le_of_ble_eq_true rfl) lay_2 kr_2 (by decide) (Nat.le_of_ble_eq_true rfl) rfl rfl rfl (t_X2_advanceOf hG ⟨rfl, rfl⟩ g23) ?_
  refine sx_iadd (pc := 65) dX6_beginOutline_65 ?_
  refine sx_i2l (pc := 66) dX6_beginOutline_66 ?_
  obtain ⟨⟨x27, V25⟩, g26, h⟩ := sx_bnd h
  refine sv_cV (pc := 67) (y := qX5_scaled) (o := (some (.long x27))) (as := [.long ((x12 + x24).toInt64)]) (V1 := V25) hG dX6_beginOutline_67 l_X6_174 y0X5_scaled yvX5_scaled rfl (Nat.le_of_ble_eq_true rfl) lay_69 kr_5 (by decide) (Nat.le_of_ble_eq_true rfl) rfl rfl rfl (t_X5_scaled hG ⟨rfl, rfl⟩ g26) ?_
  refine sx_l2i (pc := 70) dX6_beginOutline_70 ?_
  obtain ⟨g28, h⟩ := sx_grd h
  obtain ⟨V29, hV29⟩ : ∃ z : sv_V, z = sv_I V25 b13 (1 : Int32).toNatClampNeg x27.toInt32 := ⟨_, rfl⟩
  have h := sx_letE hV29 h
  refine sv_iast (pc := 71) hG dX6_beginOutline_71 (sv_len_e g19) g28 hV29 ?_
  refine sx_aload_n (pc := 72) dX6_beginOutline_72 sx_m3 ?_
  obtain ⟨b30, g31, h⟩ := sx_bnd h
  refine sv_getA (pc := 73) hG dX6_beginOutline_73 f_6_181 g1 rfl g31 ?_
  refine sx_iconst (pc := 76) (v := 0) dX6_beginOutline_76 (by decide) ?_
  refine sx_iconst (pc := 77) (v := 0) dX6_beginOutline_77 (by decide) ?_
  obtain ⟨n32, g33, h⟩ := sx_bnd h
  obtain ⟨g34, h⟩ := sx_grd h
  obtain ⟨V35, hV35⟩ : ∃ z : sv_V, z = sv_I V29 b30 (0 : Int32).toNatClampNeg (0 : Int32) := ⟨_, rfl⟩
  have h := sx_letE hV35 h
  refine sv_iast (pc := 78) hG dX6_beginOutline_78 (sv_len_e g33) g34 hV35 ?_
  refine sx_aload_n (pc := 79) dX6_beginOutline_79 sx_m3 ?_
  refine sv_getA (pc := 80) hG dX6_beginOutline_80 f_6_181 g1 rfl g31 ?_
  refine sx_iconst (pc := 83) (v := 1) dX6_beginOutline_83 (by decide) ?_
  refine sx_iconst (pc := 84) (v := 0) dX6_beginOutline_84 (by decide) ?_
  obtain ⟨g36, h⟩ := sx_grd h
  obtain ⟨V37, hV37⟩ : ∃ z : sv_V, z = sv_I V35 b30 (1 : Int32).toNatClampNeg (0 : Int32) := ⟨_, rfl⟩
  have h := sx_letE hV37 h
  refine sv_iast (pc := 85) hG dX6_beginOutline_85 (sv_len_e g33) g36 hV37 ?_
  exact sv_vret (pc := 86) dX6_beginOutline_86 rfl h hP
def ncX6_takeOutline : Nat := 10238627708151502451900650306039999280648037206172809673118952887374114264890557895329217129523549204122346961648614218131714273003566136914007230800247160010470110250
theorem kcX6_takeOutline : CK cX6_takeOutline ncX6_takeOutline 69 := ⟨by decide +kernel, by decide +kernel⟩
theorem dX6_takeOutline_0 : decode cX6_takeOutline 0 = .ok (.aload_n 0, 1) := dl_o42 kcX6_takeOutline (by decide +kernel)
theorem dX6_takeOutline_1 : decode cX6_takeOutline 1 = .ok (.getfield 38, 3) := dl_o180 kcX6_takeOutline (by decide +kernel)
theorem dX6_takeOutline_4 : decode cX6_takeOutline 4 = .ok (.iload_n 1, 1) := dl_o27 kcX6_takeOutline (by decide +kernel)
theorem dX6_takeOutline_5 : decode cX6_takeOutline 5 = .ok (.aload_n 2, 1) := dl_o44 kcX6_takeOutline (by decide +kernel)
theorem dX6_takeOutline_6 : decode cX6_takeOutline 6 = .ok (.invokevirtual 184, 3) := dl_o182 kcX6_takeOutline (by decide +kernel)
theorem dX6_takeOutline_9 : decode cX6_takeOutline 9 = .ok (.pop, 1) := dl_o87 kcX6_takeOutline (by decide +kernel)
theorem dX6_takeOutline_10 : decode cX6_takeOutline 10 = .ok (.iconst 0, 1) := dl_o3 kcX6_takeOutline (by decide +kernel)
theorem dX6_takeOutline_11 : decode cX6_takeOutline 11 = .ok (.istore_n 3, 1) := dl_o62 kcX6_takeOutline (by decide +kernel)
theorem dX6_takeOutline_12 : decode cX6_takeOutline 12 = .ok (.iload_n 3, 1) := dl_o29 kcX6_takeOutline (by decide +kernel)
theorem dX6_takeOutline_13 : decode cX6_takeOutline 13 = .ok (.aload_n 2, 1) := dl_o44 kcX6_takeOutline (by decide +kernel)
theorem dX6_takeOutline_14 : decode cX6_takeOutline 14 = .ok (.getfield 136, 3) := dl_o180 kcX6_takeOutline (by decide +kernel)
theorem dX6_takeOutline_17 : decode cX6_takeOutline 17 = .ok (.if_icmp .ge 51, 3) := dl_o162 kcX6_takeOutline 51 (by decide +kernel) (by decide +kernel)
theorem dX6_takeOutline_20 : decode cX6_takeOutline 20 = .ok (.aload_n 2, 1) := dl_o44 kcX6_takeOutline (by decide +kernel)
theorem dX6_takeOutline_21 : decode cX6_takeOutline 21 = .ok (.getfield 190, 3) := dl_o180 kcX6_takeOutline (by decide +kernel)
theorem dX6_takeOutline_24 : decode cX6_takeOutline 24 = .ok (.iload_n 3, 1) := dl_o29 kcX6_takeOutline (by decide +kernel)
theorem dX6_takeOutline_25 : decode cX6_takeOutline 25 = .ok (.aload_n 0, 1) := dl_o42 kcX6_takeOutline (by decide +kernel)
theorem dX6_takeOutline_26 : decode cX6_takeOutline 26 = .ok (.getfield 47, 3) := dl_o180 kcX6_takeOutline (by decide +kernel)
theorem dX6_takeOutline_29 : decode cX6_takeOutline 29 = .ok (.aload_n 2, 1) := dl_o44 kcX6_takeOutline (by decide +kernel)
theorem dX6_takeOutline_30 : decode cX6_takeOutline 30 = .ok (.getfield 190, 3) := dl_o180 kcX6_takeOutline (by decide +kernel)
theorem dX6_takeOutline_33 : decode cX6_takeOutline 33 = .ok (.iload_n 3, 1) := dl_o29 kcX6_takeOutline (by decide +kernel)
theorem dX6_takeOutline_34 : decode cX6_takeOutline 34 = .ok (.iaload, 1) := dl_o46 kcX6_takeOutline (by decide +kernel)
theorem dX6_takeOutline_35 : decode cX6_takeOutline 35 = .ok (.i2l, 1) := dl_o133 kcX6_takeOutline (by decide +kernel)
theorem dX6_takeOutline_36 : decode cX6_takeOutline 36 = .ok (.invokevirtual 174, 3) := dl_o182 kcX6_takeOutline (by decide +kernel)
theorem dX6_takeOutline_39 : decode cX6_takeOutline 39 = .ok (.l2i, 1) := dl_o136 kcX6_takeOutline (by decide +kernel)
theorem dX6_takeOutline_40 : decode cX6_takeOutline 40 = .ok (.iastore, 1) := dl_o79 kcX6_takeOutline (by decide +kernel)
theorem dX6_takeOutline_41 : decode cX6_takeOutline 41 = .ok (.aload_n 2, 1) := dl_o44 kcX6_takeOutline (by decide +kernel)
theorem dX6_takeOutline_42 : decode cX6_takeOutline 42 = .ok (.getfield 193, 3) := dl_o180 kcX6_takeOutline (by decide +kernel)
theorem dX6_takeOutline_45 : decode cX6_takeOutline 45 = .ok (.iload_n 3, 1) := dl_o29 kcX6_takeOutline (by decide +kernel)
theorem dX6_takeOutline_46 : decode cX6_takeOutline 46 = .ok (.aload_n 0, 1) := dl_o42 kcX6_takeOutline (by decide +kernel)
theorem dX6_takeOutline_47 : decode cX6_takeOutline 47 = .ok (.getfield 47, 3) := dl_o180 kcX6_takeOutline (by decide +kernel)
theorem dX6_takeOutline_50 : decode cX6_takeOutline 50 = .ok (.aload_n 2, 1) := dl_o44 kcX6_takeOutline (by decide +kernel)
theorem dX6_takeOutline_51 : decode cX6_takeOutline 51 = .ok (.getfield 193, 3) := dl_o180 kcX6_takeOutline (by decide +kernel)
theorem dX6_takeOutline_54 : decode cX6_takeOutline 54 = .ok (.iload_n 3, 1) := dl_o29 kcX6_takeOutline (by decide +kernel)
theorem dX6_takeOutline_55 : decode cX6_takeOutline 55 = .ok (.iaload, 1) := dl_o46 kcX6_takeOutline (by decide +kernel)
theorem dX6_takeOutline_56 : decode cX6_takeOutline 56 = .ok (.i2l, 1) := dl_o133 kcX6_takeOutline (by decide +kernel)
theorem dX6_takeOutline_57 : decode cX6_takeOutline 57 = .ok (.invokevirtual 174, 3) := dl_o182 kcX6_takeOutline (by decide +kernel)
theorem dX6_takeOutline_60 : decode cX6_takeOutline 60 = .ok (.l2i, 1) := dl_o136 kcX6_takeOutline (by decide +kernel)
theorem dX6_takeOutline_61 : decode cX6_takeOutline 61 = .ok (.iastore, 1) := dl_o79 kcX6_takeOutline (by decide +kernel)
theorem dX6_takeOutline_62 : decode cX6_takeOutline 62 = .ok (.iinc 3 1, 3) := by decide +kernel
theorem dX6_takeOutline_65 : decode cX6_takeOutline 65 = .ok (.goto (-53), 3) := dl_o167 kcX6_takeOutline 65483 (by decide +kernel) (by decide +kernel)
theorem dX6_takeOutline_68 : decode cX6_takeOutline 68 = .ok (.return_, 1) := dl_o177 kcX6_takeOutline (by decide +kernel)
def B_X6_takeOutline_12 (N : Nat) (k12 : Nat → Int32 → sv_V → Option sv_V) (l2 : Nat) (l3 : Int32) (V : sv_V) : Option sv_V := if lay l2 = .inl 8 then if (V.1 l2 9) ≤ l3 then (some V) else ((cr l2 0).bind (fun b3 => (sv_len 0 b3).bind (fun n5 => if sx_in l3 n5 = true then (F_X5_scaled ((V.1 b3 l3.toNatClampNeg).toInt64) V).bind (fun (x10, V8) => if sx_in l3 n5 = true then sx_let (sv_I V8 b3 l3.toNatClampNeg x10.toInt32) (fun V12 => (cr l2 1).bind (fun b13 => (sv_len 0 b13).bind (fun n15 => if sx_in l3 n15 = true then (F_X5_scaled ((V12.1 b13 l3.toNatClampNeg).toInt64) V12).bind (fun (x20, V18) => if sx_in l3 n15 = true then sx_let (sv_I V18 b13 l3.toNatClampNeg x20.toInt32) (fun V22 => sx_let (l3 + 1) (fun x23 => k12 l2 x23 V22)) else none) else none))) else none) else none))) else none
set_option maxRecDepth 20000 in
theorem tB_X6_takeOutline_12 {g : sx_G} (hG : sx_Go g) {P : Option Value → sv_V → Prop} {Vr : sv_V} (hP : P none Vr) {N : Nat} {k12 : Nat → Int32 → sv_V → Option sv_V} (hk12 : ∀ (l2 : Nat) (l3 : Int32) (V : sv_V), k12 l2 l3 V = some Vr → sv_N g qX6_takeOutline 4 12 [(0, .ref 30), (2, .ref l2), (3, .int l3)] [] V P) {l2 : Nat} {l3 : Int32} {V : sv_V} (h : B_X6_takeOutline_12 N k12 l2 l3 V = some Vr) : sv_N g qX6_takeOutline 4 12 [(0, .ref 30), (2, .ref l2), (3, .int l3)] [] V P := by
  unfold B_X6_takeOutline_12 at h
  refine sx_iload_n (pc := 12) dX6_takeOutline_12 sx_m2 ?_
  refine sx_aload_n (pc := 13) dX6_takeOutline_13 sx_m1 ?_
  obtain ⟨g1, h⟩ := sx_grd h
  refine sv_getI (pc := 14) hG dX6_takeOutline_14 f_6_136 g1 rfl ?_
  refine sx_icmp_ge (pc := 17) (tgt := 68) dX6_takeOutline_17 (by decide) (fun c2 => ?_) (fun c2 => ?_)
  · have h := sx_pos c2 h
    exact sv_vret (pc := 68) dX6_takeOutline_68 rfl h hP
  · have h := sx_neg c2 h
    refine sx_aload_n (pc := 20) dX6_takeOutline_20 sx_m1 ?_
    obtain ⟨b3, g4, h⟩ := sx_bnd h
    refine sv_getA (pc := 21) hG dX6_takeOutline_21 f_6_190 g1 rfl g4 ?_
    refine sx_iload_n (pc := 24) dX6_takeOutline_24 sx_m2 ?_
    refine sx_aload_n (pc := 25) dX6_takeOutline_25 sx_m0 ?_
    refine sv_getO (pc := 26) hG dX6_takeOutline_26 f_6_47 lay_30 rfl cr_30_2 ?_
    refine sx_aload_n (pc := 29) dX6_takeOutline_29 sx_m1 ?_
    refine sv_getA (pc := 30) hG dX6_takeOutline_30 f_6_190 g1 rfl g4 ?_
    refine sx_iload_n (pc := 33) dX6_takeOutline_33 sx_m2 ?_
    obtain ⟨n5, g6, h⟩ := sx_bnd h
    obtain ⟨g7, h⟩ := sx_grd h
    refine sv_iald (pc := 34) hG dX6_takeOutline_34 (sv_len_e g6) g7 ?_
    refine sx_i2l (pc := 35) dX6_takeOutline_35 ?_
    obtain ⟨⟨x10, V8⟩, g9, h⟩ := sx_bnd h
    refine sv_cV (pc := 36) (y := qX5_scaled) (o := (some (.long x10))) (as := [.long ((V.1 b3 l3.toNatClampNeg).toInt64)]) (V1 := V8) hG dX6_takeOutline_36 l_X6_174 y0X5_scaled yvX5_scaled rfl (Nat.le_of_ble_eq_true rfl) lay_69 kr_5 (by decide) (Nat.le_of_ble_eq_true rfl) rfl rfl rfl (t_X5_scaled hG ⟨rfl, rfl⟩ g9) ?_
    refine sx_l2i (pc := 39) dX6_takeOutline_39 ?_
    obtain ⟨g11, h⟩ := sx_grd h
    obtain ⟨V12, hV12⟩ : ∃ z : sv_V, z = sv_I V8 b3 l3.toNatClampNeg x10.toInt32 := ⟨_, rfl⟩
    have h := sx_letE hV12 h
    refine sv_iast (pc := 40) hG dX6_takeOutline_40 (sv_len_e g6) g11 hV12 ?_
    refine sx_aload_n (pc := 41) dX6_takeOutline_41 sx_m1 ?_
    obtain ⟨b13, g14, h⟩ := sx_bnd h
    refine sv_getA (pc := 42) hG dX6_takeOutline_42 f_6_193 g1 rfl g14 ?_
    refine sx_iload_n (pc := 45) dX6_takeOutline_45 sx_m2 ?_
    refine sx_aload_n (pc := 46) dX6_takeOutline_46 sx_m0 ?_
    refine sv_getO (pc := 47) hG dX6_takeOutline_47 f_6_47 lay_30 rfl cr_30_2 ?_
    refine sx_aload_n (pc := 50) dX6_takeOutline_50 sx_m1 ?_
    refine sv_getA (pc := 51) hG dX6_takeOutline_51 f_6_193 g1 rfl g14 ?_
    refine sx_iload_n (pc := 54) dX6_takeOutline_54 sx_m2 ?_
    obtain ⟨n15, g16, h⟩ := sx_bnd h
    obtain ⟨g17, h⟩ := sx_grd h
    refine sv_iald (pc := 55) hG dX6_takeOutline_55 (sv_len_e g16) g17 ?_
    refine sx_i2l (pc := 56) dX6_takeOutline_56 ?_
    obtain ⟨⟨x20, V18⟩, g19, h⟩ := sx_bnd h
    refine sv_cV (pc := 57) (y := qX5_scaled) (o := (some (.long x20))) (as := [.long ((V12.1 b13 l3.toNatClampNeg).toInt64)]) (V1 := V18) hG dX6_takeOutline_57 l_X6_174 y0X5_scaled yvX5_scaled rfl (Nat.le_of_ble_eq_true rfl) lay_69 kr_5 (by decide) (Nat.le_of_ble_eq_true rfl) rfl rfl rfl (t_X5_scaled hG ⟨rfl, rfl⟩ g19) ?_
    refine sx_l2i (pc := 60) dX6_takeOutline_60 ?_
    obtain ⟨g21, h⟩ := sx_grd h
    obtain ⟨V22, hV22⟩ : ∃ z : sv_V, z = sv_I V18 b13 l3.toNatClampNeg x20.toInt32 := ⟨_, rfl⟩
    have h := sx_letE hV22 h
    refine sv_iast (pc := 61) hG dX6_takeOutline_61 (sv_len_e g16) g21 hV22 ?_
    obtain ⟨x23, hx23⟩ : ∃ z : Int32, z = l3 + 1 := ⟨_, rfl⟩
    have h := sx_letE hx23 h
    refine sx_iinc (pc := 62) (v := x23) (lo' := [(3, .int x23), (0, .ref 30), (2, .ref l2)]) dX6_takeOutline_62 sx_m2 (by rw [hx23]; rfl) (by decide) rfl ?_
    refine sx_goto (pc := 65) (tgt := 12) dX6_takeOutline_65 (by decide) ?_
    refine sx_wk (sx_s1 sx_m1 (sx_s1 sx_m2 (sx_s1 sx_m0 sx_s0))) ?_
    exact hk12 _ _ _ h
theorem tL_X6_takeOutline_12 {g : sx_G} (hG : sx_Go g) {P : Option Value → sv_V → Prop} {Vr : sv_V} (hP : P none Vr) {N : Nat}   : ∀ (n : Nat) (l2 : Nat) (l3 : Int32) (V : sv_V), sx_lp3 (B_X6_takeOutline_12 N ) n l2 l3 V = some Vr → sv_N g qX6_takeOutline 4 12 [(0, .ref 30), (2, .ref l2), (3, .int l3)] [] V P :=
  sx_lp3_ind (fun k0 ih _ _ V h => tB_X6_takeOutline_12 hG hP ih h)
def F_X6_takeOutline (N : Nat) (l1 : Int32) (l2 : Nat) (V : sv_V) : Option sv_V := (F_X3_readOutline N l1 l2 V).bind (fun (x26, V24) => sx_lp3 (B_X6_takeOutline_12 N ) N l2 (0 : Int32) V24)
set_option maxRecDepth 20000 in
theorem t_X6_takeOutline {g : sx_G} (hG : sx_Go g) {P : Option Value → sv_V → Prop} {Vr : sv_V} (hP : P none Vr) {N : Nat} {l1 : Int32} {l2 : Nat} {V : sv_V} (h : F_X6_takeOutline N l1 l2 V = some Vr) : sv_N g qX6_takeOutline 4 0 [(0, .ref 30), (1, .int l1), (2, .ref l2)] [] V P := by
  unfold F_X6_takeOutline at h
  refine sx_aload_n (pc := 0) dX6_takeOutline_0 sx_m0 ?_
  refine sv_getO (pc := 1) hG dX6_takeOutline_1 f_6_38 lay_30 rfl cr_30_1 ?_
  refine sx_iload_n (pc := 4) dX6_takeOutline_4 sx_m1 ?_
  refine sx_aload_n (pc := 5) dX6_takeOutline_5 sx_m2 ?_
  obtain ⟨⟨x26, V24⟩, g25, h⟩ := sx_bnd h
  refine sv_cV (pc := 6) (y := qX3_readOutline) (o := (some (.int x26))) (as := [.int l1, .ref l2]) (V1 := V24) hG dX6_takeOutline_6 l_X6_184 y0X3_readOutline yvX3_readOutline rfl (Nat.le_of_ble_eq_true rfl) lay_16 kr_3 (by decide) (Nat.le_of_ble_eq_true rfl) rfl rfl rfl (t_X3_readOutline hG ⟨rfl, rfl⟩ g25) ?_
  refine sx_pop (pc := 9) dX6_takeOutline_9 rfl ?_
  refine sx_iconst (pc := 10) (v := 0) dX6_takeOutline_10 (by decide) ?_
  refine sx_istore_n (pc := 11) (lo' := [(3, .int (0 : Int32)), (0, .ref 30), (1, .int l1), (2, .ref l2)]) dX6_takeOutline_11 (by decide) rfl ?_
  refine sx_wk (sx_s1 sx_m1 (sx_s1 sx_m3 (sx_s1 sx_m0 sx_s0))) ?_
  exact tL_X6_takeOutline_12 hG hP  N _ _ _ h
def ncX6_append : Nat := 30854894439941737172304047578494114370170806644616035952371237189286159061359639124256799432803567284086939398616190972686432849152746155211719764518873501451786595181408616457831215755287193836738156618458901385379202181678892064613927241488009878607950341041960133596983706643604729069371569344964452754244753498762095030913442360532046155700791915617015845615787844860534467483323695444684805041127731205332784797613936794575019345877871709041844873088479550266309887499891160107
theorem kcX6_append : CK cX6_append ncX6_append 200 := ⟨by decide +kernel, by decide +kernel⟩
theorem dX6_append_0 : decode cX6_append 0 = .ok (.aload_n 1, 1) := dl_o43 kcX6_append (by decide +kernel)
theorem dX6_append_1 : decode cX6_append 1 = .ok (.getfield 136, 3) := dl_o180 kcX6_append (by decide +kernel)
theorem dX6_append_4 : decode cX6_append 4 = .ok (.istore_n 3, 1) := dl_o62 kcX6_append (by decide +kernel)
theorem dX6_append_5 : decode cX6_append 5 = .ok (.iconst 0, 1) := dl_o3 kcX6_append (by decide +kernel)
theorem dX6_append_6 : decode cX6_append 6 = .ok (.istore 4, 2) := dl_o54 kcX6_append (by decide +kernel)
theorem dX6_append_8 : decode cX6_append 8 = .ok (.iload 4, 2) := dl_o21 kcX6_append (by decide +kernel)
theorem dX6_append_10 : decode cX6_append 10 = .ok (.aload_n 2, 1) := dl_o44 kcX6_append (by decide +kernel)
theorem dX6_append_11 : decode cX6_append 11 = .ok (.getfield 136, 3) := dl_o180 kcX6_append (by decide +kernel)
theorem dX6_append_14 : decode cX6_append 14 = .ok (.if_icmp .ge 123, 3) := dl_o162 kcX6_append 123 (by decide +kernel) (by decide +kernel)
theorem dX6_append_17 : decode cX6_append 17 = .ok (.aload_n 2, 1) := dl_o44 kcX6_append (by decide +kernel)
theorem dX6_append_18 : decode cX6_append 18 = .ok (.getfield 190, 3) := dl_o180 kcX6_append (by decide +kernel)
theorem dX6_append_21 : decode cX6_append 21 = .ok (.iload 4, 2) := dl_o21 kcX6_append (by decide +kernel)
theorem dX6_append_23 : decode cX6_append 23 = .ok (.iaload, 1) := dl_o46 kcX6_append (by decide +kernel)
theorem dX6_append_24 : decode cX6_append 24 = .ok (.i2l, 1) := dl_o133 kcX6_append (by decide +kernel)
theorem dX6_append_25 : decode cX6_append 25 = .ok (.lstore 5, 2) := dl_o55 kcX6_append (by decide +kernel)
theorem dX6_append_27 : decode cX6_append 27 = .ok (.aload_n 2, 1) := dl_o44 kcX6_append (by decide +kernel)
theorem dX6_append_28 : decode cX6_append 28 = .ok (.getfield 193, 3) := dl_o180 kcX6_append (by decide +kernel)
theorem dX6_append_31 : decode cX6_append 31 = .ok (.iload 4, 2) := dl_o21 kcX6_append (by decide +kernel)
theorem dX6_append_33 : decode cX6_append 33 = .ok (.iaload, 1) := dl_o46 kcX6_append (by decide +kernel)
theorem dX6_append_34 : decode cX6_append 34 = .ok (.i2l, 1) := dl_o133 kcX6_append (by decide +kernel)
theorem dX6_append_35 : decode cX6_append 35 = .ok (.lstore 7, 2) := dl_o55 kcX6_append (by decide +kernel)
theorem dX6_append_37 : decode cX6_append 37 = .ok (.aload_n 1, 1) := dl_o43 kcX6_append (by decide +kernel)
theorem dX6_append_38 : decode cX6_append 38 = .ok (.getfield 190, 3) := dl_o180 kcX6_append (by decide +kernel)
theorem dX6_append_41 : decode cX6_append 41 = .ok (.iload_n 3, 1) := dl_o29 kcX6_append (by decide +kernel)
theorem dX6_append_42 : decode cX6_append 42 = .ok (.iload 4, 2) := dl_o21 kcX6_append (by decide +kernel)
theorem dX6_append_44 : decode cX6_append 44 = .ok (.iadd, 1) := dl_o96 kcX6_append (by decide +kernel)
theorem dX6_append_45 : decode cX6_append 45 = .ok (.lload 5, 2) := dl_o22 kcX6_append (by decide +kernel)
theorem dX6_append_47 : decode cX6_append 47 = .ok (.aload_n 0, 1) := dl_o42 kcX6_append (by decide +kernel)
theorem dX6_append_48 : decode cX6_append 48 = .ok (.getfield 38, 3) := dl_o180 kcX6_append (by decide +kernel)
theorem dX6_append_51 : decode cX6_append 51 = .ok (.getfield 231, 3) := dl_o180 kcX6_append (by decide +kernel)
theorem dX6_append_54 : decode cX6_append 54 = .ok (.i2l, 1) := dl_o133 kcX6_append (by decide +kernel)
theorem dX6_append_55 : decode cX6_append 55 = .ok (.lmul, 1) := dl_o105 kcX6_append (by decide +kernel)
theorem dX6_append_56 : decode cX6_append 56 = .ok (.lload 7, 2) := dl_o22 kcX6_append (by decide +kernel)
theorem dX6_append_58 : decode cX6_append 58 = .ok (.aload_n 0, 1) := dl_o42 kcX6_append (by decide +kernel)
theorem dX6_append_59 : decode cX6_append 59 = .ok (.getfield 38, 3) := dl_o180 kcX6_append (by decide +kernel)
theorem dX6_append_62 : decode cX6_append 62 = .ok (.getfield 234, 3) := dl_o180 kcX6_append (by decide +kernel)
theorem dX6_append_65 : decode cX6_append 65 = .ok (.i2l, 1) := dl_o133 kcX6_append (by decide +kernel)
theorem dX6_append_66 : decode cX6_append 66 = .ok (.lmul, 1) := dl_o105 kcX6_append (by decide +kernel)
theorem dX6_append_67 : decode cX6_append 67 = .ok (.ladd, 1) := dl_o97 kcX6_append (by decide +kernel)
theorem dX6_append_68 : decode cX6_append 68 = .ok (.ldc2_w 237, 3) := dl_o20 kcX6_append (by decide +kernel)
theorem dX6_append_71 : decode cX6_append 71 = .ok (.invokestatic 239, 3) := dl_o184 kcX6_append (by decide +kernel)
theorem dX6_append_74 : decode cX6_append 74 = .ok (.l2i, 1) := dl_o136 kcX6_append (by decide +kernel)
theorem dX6_append_75 : decode cX6_append 75 = .ok (.iastore, 1) := dl_o79 kcX6_append (by decide +kernel)
theorem dX6_append_76 : decode cX6_append 76 = .ok (.aload_n 1, 1) := dl_o43 kcX6_append (by decide +kernel)
theorem dX6_append_77 : decode cX6_append 77 = .ok (.getfield 193, 3) := dl_o180 kcX6_append (by decide +kernel)
theorem dX6_append_80 : decode cX6_append 80 = .ok (.iload_n 3, 1) := dl_o29 kcX6_append (by decide +kernel)
theorem dX6_append_81 : decode cX6_append 81 = .ok (.iload 4, 2) := dl_o21 kcX6_append (by decide +kernel)
theorem dX6_append_83 : decode cX6_append 83 = .ok (.iadd, 1) := dl_o96 kcX6_append (by decide +kernel)
theorem dX6_append_84 : decode cX6_append 84 = .ok (.lload 5, 2) := dl_o22 kcX6_append (by decide +kernel)
theorem dX6_append_86 : decode cX6_append 86 = .ok (.aload_n 0, 1) := dl_o42 kcX6_append (by decide +kernel)
theorem dX6_append_87 : decode cX6_append 87 = .ok (.getfield 38, 3) := dl_o180 kcX6_append (by decide +kernel)
theorem dX6_append_90 : decode cX6_append 90 = .ok (.getfield 243, 3) := dl_o180 kcX6_append (by decide +kernel)
theorem dX6_append_93 : decode cX6_append 93 = .ok (.i2l, 1) := dl_o133 kcX6_append (by decide +kernel)
theorem dX6_append_94 : decode cX6_append 94 = .ok (.lmul, 1) := dl_o105 kcX6_append (by decide +kernel)
theorem dX6_append_95 : decode cX6_append 95 = .ok (.lload 7, 2) := dl_o22 kcX6_append (by decide +kernel)
theorem dX6_append_97 : decode cX6_append 97 = .ok (.aload_n 0, 1) := dl_o42 kcX6_append (by decide +kernel)
theorem dX6_append_98 : decode cX6_append 98 = .ok (.getfield 38, 3) := dl_o180 kcX6_append (by decide +kernel)
theorem dX6_append_101 : decode cX6_append 101 = .ok (.getfield 246, 3) := dl_o180 kcX6_append (by decide +kernel)
theorem dX6_append_104 : decode cX6_append 104 = .ok (.i2l, 1) := dl_o133 kcX6_append (by decide +kernel)
theorem dX6_append_105 : decode cX6_append 105 = .ok (.lmul, 1) := dl_o105 kcX6_append (by decide +kernel)
theorem dX6_append_106 : decode cX6_append 106 = .ok (.ladd, 1) := dl_o97 kcX6_append (by decide +kernel)
theorem dX6_append_107 : decode cX6_append 107 = .ok (.ldc2_w 237, 3) := dl_o20 kcX6_append (by decide +kernel)
theorem dX6_append_110 : decode cX6_append 110 = .ok (.invokestatic 239, 3) := dl_o184 kcX6_append (by decide +kernel)
theorem dX6_append_113 : decode cX6_append 113 = .ok (.l2i, 1) := dl_o136 kcX6_append (by decide +kernel)
theorem dX6_append_114 : decode cX6_append 114 = .ok (.iastore, 1) := dl_o79 kcX6_append (by decide +kernel)
theorem dX6_append_115 : decode cX6_append 115 = .ok (.aload_n 1, 1) := dl_o43 kcX6_append (by decide +kernel)
theorem dX6_append_116 : decode cX6_append 116 = .ok (.getfield 249, 3) := dl_o180 kcX6_append (by decide +kernel)
theorem dX6_append_119 : decode cX6_append 119 = .ok (.iload_n 3, 1) := dl_o29 kcX6_append (by decide +kernel)
theorem dX6_append_120 : decode cX6_append 120 = .ok (.iload 4, 2) := dl_o21 kcX6_append (by decide +kernel)
theorem dX6_append_122 : decode cX6_append 122 = .ok (.iadd, 1) := dl_o96 kcX6_append (by decide +kernel)
theorem dX6_append_123 : decode cX6_append 123 = .ok (.aload_n 2, 1) := dl_o44 kcX6_append (by decide +kernel)
theorem dX6_append_124 : decode cX6_append 124 = .ok (.getfield 249, 3) := dl_o180 kcX6_append (by decide +kernel)
theorem dX6_append_127 : decode cX6_append 127 = .ok (.iload 4, 2) := dl_o21 kcX6_append (by decide +kernel)
theorem dX6_append_129 : decode cX6_append 129 = .ok (.iaload, 1) := dl_o46 kcX6_append (by decide +kernel)
theorem dX6_append_130 : decode cX6_append 130 = .ok (.iastore, 1) := dl_o79 kcX6_append (by decide +kernel)
theorem dX6_append_131 : decode cX6_append 131 = .ok (.iinc 4 1, 3) := by decide +kernel
theorem dX6_append_134 : decode cX6_append 134 = .ok (.goto (-126), 3) := dl_o167 kcX6_append 65410 (by decide +kernel) (by decide +kernel)
theorem dX6_append_137 : decode cX6_append 137 = .ok (.iconst 0, 1) := dl_o3 kcX6_append (by decide +kernel)
theorem dX6_append_138 : decode cX6_append 138 = .ok (.istore 4, 2) := dl_o54 kcX6_append (by decide +kernel)
theorem dX6_append_140 : decode cX6_append 140 = .ok (.iload 4, 2) := dl_o21 kcX6_append (by decide +kernel)
theorem dX6_append_142 : decode cX6_append 142 = .ok (.aload_n 2, 1) := dl_o44 kcX6_append (by decide +kernel)
theorem dX6_append_143 : decode cX6_append 143 = .ok (.getfield 167, 3) := dl_o180 kcX6_append (by decide +kernel)
theorem dX6_append_146 : decode cX6_append 146 = .ok (.if_icmp .ge 30, 3) := dl_o162 kcX6_append 30 (by decide +kernel) (by decide +kernel)
theorem dX6_append_149 : decode cX6_append 149 = .ok (.aload_n 1, 1) := dl_o43 kcX6_append (by decide +kernel)
theorem dX6_append_150 : decode cX6_append 150 = .ok (.getfield 252, 3) := dl_o180 kcX6_append (by decide +kernel)
theorem dX6_append_153 : decode cX6_append 153 = .ok (.aload_n 1, 1) := dl_o43 kcX6_append (by decide +kernel)
theorem dX6_append_154 : decode cX6_append 154 = .ok (.getfield 167, 3) := dl_o180 kcX6_append (by decide +kernel)
theorem dX6_append_157 : decode cX6_append 157 = .ok (.iload 4, 2) := dl_o21 kcX6_append (by decide +kernel)
theorem dX6_append_159 : decode cX6_append 159 = .ok (.iadd, 1) := dl_o96 kcX6_append (by decide +kernel)
theorem dX6_append_160 : decode cX6_append 160 = .ok (.iload_n 3, 1) := dl_o29 kcX6_append (by decide +kernel)
theorem dX6_append_161 : decode cX6_append 161 = .ok (.aload_n 2, 1) := dl_o44 kcX6_append (by decide +kernel)
theorem dX6_append_162 : decode cX6_append 162 = .ok (.getfield 252, 3) := dl_o180 kcX6_append (by decide +kernel)
theorem dX6_append_165 : decode cX6_append 165 = .ok (.iload 4, 2) := dl_o21 kcX6_append (by decide +kernel)
theorem dX6_append_167 : decode cX6_append 167 = .ok (.iaload, 1) := dl_o46 kcX6_append (by decide +kernel)
theorem dX6_append_168 : decode cX6_append 168 = .ok (.iadd, 1) := dl_o96 kcX6_append (by decide +kernel)
theorem dX6_append_169 : decode cX6_append 169 = .ok (.iastore, 1) := dl_o79 kcX6_append (by decide +kernel)
theorem dX6_append_170 : decode cX6_append 170 = .ok (.iinc 4 1, 3) := by decide +kernel
theorem dX6_append_173 : decode cX6_append 173 = .ok (.goto (-33), 3) := dl_o167 kcX6_append 65503 (by decide +kernel) (by decide +kernel)
theorem dX6_append_176 : decode cX6_append 176 = .ok (.aload_n 1, 1) := dl_o43 kcX6_append (by decide +kernel)
theorem dX6_append_177 : decode cX6_append 177 = .ok (.iload_n 3, 1) := dl_o29 kcX6_append (by decide +kernel)
theorem dX6_append_178 : decode cX6_append 178 = .ok (.aload_n 2, 1) := dl_o44 kcX6_append (by decide +kernel)
theorem dX6_append_179 : decode cX6_append 179 = .ok (.getfield 136, 3) := dl_o180 kcX6_append (by decide +kernel)
theorem dX6_append_182 : decode cX6_append 182 = .ok (.iadd, 1) := dl_o96 kcX6_append (by decide +kernel)
theorem dX6_append_183 : decode cX6_append 183 = .ok (.putfield 136, 3) := dl_o181 kcX6_append (by decide +kernel)
theorem dX6_append_186 : decode cX6_append 186 = .ok (.aload_n 1, 1) := dl_o43 kcX6_append (by decide +kernel)
theorem dX6_append_187 : decode cX6_append 187 = .ok (.dup, 1) := dl_o89 kcX6_append (by decide +kernel)
theorem dX6_append_188 : decode cX6_append 188 = .ok (.getfield 167, 3) := dl_o180 kcX6_append (by decide +kernel)
theorem dX6_append_191 : decode cX6_append 191 = .ok (.aload_n 2, 1) := dl_o44 kcX6_append (by decide +kernel)
theorem dX6_append_192 : decode cX6_append 192 = .ok (.getfield 167, 3) := dl_o180 kcX6_append (by decide +kernel)
theorem dX6_append_195 : decode cX6_append 195 = .ok (.iadd, 1) := dl_o96 kcX6_append (by decide +kernel)
theorem dX6_append_196 : decode cX6_append 196 = .ok (.putfield 167, 3) := dl_o181 kcX6_append (by decide +kernel)
theorem dX6_append_199 : decode cX6_append 199 = .ok (.return_, 1) := dl_o177 kcX6_append (by decide +kernel)
def B_X6_append_140 (N : Nat) (k140 : Nat → Nat → Int32 → Int32 → sv_V → Option sv_V) (l1 : Nat) (l2 : Nat) (l3 : Int32) (l4 : Int32) (V : sv_V) : Option sv_V := if lay l2 = .inl 8 then if (V.1 l2 10) ≤ l4 then (if lay l1 = .inl 8 then sx_let (sv_I V l1 9 (l3 + (V.1 l2 9))) (fun V4 => sx_let (sv_I V4 l1 10 ((V4.1 l1 10) + (V4.1 l2 10))) (fun V5 => some V5)) else none) else (if lay l1 = .inl 8 then (cr l1 6).bind (fun b7 => (cr l2 6).bind (fun b9 => (sv_len 0 b9).bind (fun n11 => if sx_in l4 n11 = true then (sv_len 0 b7).bind (fun n14 => if sx_in ((V.1 l1 10) + l4) n14 = true then sx_let (sv_I V b7 ((V.1 l1 10) + l4).toNatClampNeg (l3 + (V.1 b9 l4.toNatClampNeg))) (fun V17 => sx_let (l4 + 1) (fun x18 => k140 l1 l2 l3 x18 V17)) else none) else none))) else none) else none
set_option maxRecDepth 20000 in
theorem tB_X6_append_140 {g : sx_G} (hG : sx_Go g) {P : Option Value → sv_V → Prop} {Vr : sv_V} (hP : P none Vr) {N : Nat} {k140 : Nat → Nat → Int32 → Int32 → sv_V → Option sv_V} (hk140 : ∀ (l1 : Nat) (l2 : Nat) (l3 : Int32) (l4 : Int32) (V : sv_V), k140 l1 l2 l3 l4 V = some Vr → sv_N g qX6_append 1 140 [(1, .ref l1), (2, .ref l2), (3, .int l3), (4, .int l4)] [] V P) {l1 : Nat} {l2 : Nat} {l3 : Int32} {l4 : Int32} {V : sv_V} (h : B_X6_append_140 N k140 l1 l2 l3 l4 V = some Vr) : sv_N g qX6_append 1 140 [(1, .ref l1), (2, .ref l2), (3, .int l3), (4, .int l4)] [] V P := by
  unfold B_X6_append_140 at h
  refine sx_iload (pc := 140) dX6_append_140 sx_m3 ?_
  refine sx_aload_n (pc := 142) dX6_append_142 sx_m1 ?_
  obtain ⟨g1, h⟩ := sx_grd h
  refine sv_getI (pc := 143) hG dX6_append_143 f_6_167 g1 rfl ?_
  refine sx_icmp_ge (pc := 146) (tgt := 176) dX6_append_146 (by decide) (fun c2 => ?_) (fun c2 => ?_)
  · have h := sx_pos c2 h
    refine sx_aload_n (pc := 176) dX6_append_176 sx_m0 ?_
    refine sx_iload_n (pc := 177) dX6_append_177 sx_m2 ?_
    refine sx_aload_n (pc := 178) dX6_append_178 sx_m1 ?_
    refine sv_getI (pc := 179) hG dX6_append_179 f_6_136 g1 rfl ?_
    refine sx_iadd (pc := 182) dX6_append_182 ?_
    obtain ⟨g3, h⟩ := sx_grd h
    obtain ⟨V4, hV4⟩ : ∃ z : sv_V, z = sv_I V l1 9 (l3 + (V.1 l2 9)) := ⟨_, rfl⟩
    have h := sx_letE hV4 h
    refine sv_putI (pc := 183) hG dX6_append_183 f_6_136 g3 rfl hV4 ?_
    refine sx_aload_n (pc := 186) dX6_append_186 sx_m0 ?_
    refine sx_dup (pc := 187) dX6_append_187 rfl ?_
    refine sv_getI (pc := 188) hG dX6_append_188 f_6_167 g3 rfl ?_
    refine sx_aload_n (pc := 191) dX6_append_191 sx_m1 ?_
    refine sv_getI (pc := 192) hG dX6_append_192 f_6_167 g1 rfl ?_
    refine sx_iadd (pc := 195) dX6_append_195 ?_
    obtain ⟨V5, hV5⟩ : ∃ z : sv_V, z = sv_I V4 l1 10 ((V4.1 l1 10) + (V4.1 l2 10)) := ⟨_, rfl⟩
    have h := sx_letE hV5 h
    refine sv_putI (pc := 196) hG dX6_append_196 f_6_167 g3 rfl hV5 ?_
    exact sv_vret (pc := 199) dX6_append_199 rfl h hP
  · have h := sx_neg c2 h
    refine sx_aload_n (pc := 149) dX6_append_149 sx_m0 ?_
    obtain ⟨g6, h⟩ := sx_grd h
    obtain ⟨b7, g8, h⟩ := sx_bnd h
    refine sv_getA (pc := 150) hG dX6_append_150 f_6_252 g6 rfl g8 ?_
    refine sx_aload_n (pc := 153) dX6_append_153 sx_m0 ?_
    refine sv_getI (pc := 154) hG dX6_append_154 f_6_167 g6 rfl ?_
    refine sx_iload (pc := 157) dX6_append_157 sx_m3 ?_
    refine sx_iadd (pc := 159) dX6_append_159 ?_
    refine sx_iload_n (pc := 160) dX6_append_160 sx_m2 ?_
    refine sx_aload_n (pc := 161) dX6_append_161 sx_m1 ?_
    obtain ⟨b9, g10, h⟩ := sx_bnd h
    refine sv_getA (pc := 162) hG dX6_append_162 f_6_252 g1 rfl g10 ?_
    refine sx_iload (pc := 165) dX6_append_165 sx_m3 ?_
    obtain ⟨n11, g12, h⟩ := sx_bnd h
    obtain ⟨g13, h⟩ := sx_grd h
    refine sv_iald (pc := 167) hG dX6_append_167 (sv_len_e g12) g13 ?_
    refine sx_iadd (pc := 168) dX6_append_168 ?_
    obtain ⟨n14, g15, h⟩ := sx_bnd h
    obtain ⟨g16, h⟩ := sx_grd h
    obtain ⟨V17, hV17⟩ : ∃ z : sv_V, z = sv_I V b7 ((V.1 l1 10) + l4).toNatClampNeg (l3 + (V.1 b9 l4.toNatClampNeg)) := ⟨_, rfl⟩
    have h := sx_letE hV17 h
    refine sv_iast (pc := 169) hG dX6_append_169 (sv_len_e g15) g16 hV17 ?_
    obtain ⟨x18, hx18⟩ : ∃ z : Int32, z = l4 + 1 := ⟨_, rfl⟩
    have h := sx_letE hx18 h
    refine sx_iinc (pc := 170) (v := x18) (lo' := [(4, .int x18), (1, .ref l1), (2, .ref l2), (3, .int l3)]) dX6_append_170 sx_m3 (by rw [hx18]; rfl) (by decide) rfl ?_
    refine sx_goto (pc := 173) (tgt := 140) dX6_append_173 (by decide) ?_
    refine sx_wk (sx_s1 sx_m1 (sx_s1 sx_m2 (sx_s1 sx_m3 (sx_s1 sx_m0 sx_s0)))) ?_
    exact hk140 _ _ _ _ _ h
theorem tL_X6_append_140 {g : sx_G} (hG : sx_Go g) {P : Option Value → sv_V → Prop} {Vr : sv_V} (hP : P none Vr) {N : Nat}   : ∀ (n : Nat) (l1 : Nat) (l2 : Nat) (l3 : Int32) (l4 : Int32) (V : sv_V), sx_lp5 (B_X6_append_140 N ) n l1 l2 l3 l4 V = some Vr → sv_N g qX6_append 1 140 [(1, .ref l1), (2, .ref l2), (3, .int l3), (4, .int l4)] [] V P :=
  sx_lp5_ind (fun k0 ih _ _ _ _ V h => tB_X6_append_140 hG hP ih h)
def B_X6_append_8 (N : Nat) (k8 : Nat → Nat → Int32 → Int32 → sv_V → Option sv_V) (l1 : Nat) (l2 : Nat) (l3 : Int32) (l4 : Int32) (V : sv_V) : Option sv_V := if lay l2 = .inl 8 then if (V.1 l2 9) ≤ l4 then (sx_lp5 (B_X6_append_140 N ) N l1 l2 l3 (0 : Int32) V) else ((cr l2 0).bind (fun b21 => (sv_len 0 b21).bind (fun n23 => if sx_in l4 n23 = true then sx_let ((V.1 b21 l4.toNatClampNeg).toInt64) (fun x26 => (cr l2 1).bind (fun b27 => (sv_len 0 b27).bind (fun n29 => if sx_in l4 n29 = true then sx_let ((V.1 b27 l4.toNatClampNeg).toInt64) (fun x32 => if lay l1 = .inl 8 then (cr l1 0).bind (fun b34 => (F_X11_nearest ((x26 * ((V.1 16 11).toInt64)) + (x32 * ((V.1 16 13).toInt64))) (16384 : Int64) V).bind (fun (x38, V36) => (sv_len 0 b34).bind (fun n39 => if sx_in (l3 + l4) n39 = true then sx_let (sv_I V36 b34 (l3 + l4).toNatClampNeg x38.toInt32) (fun V42 => (cr l1 1).bind (fun b43 => (F_X11_nearest ((x26 * ((V42.1 16 12).toInt64)) + (x32 * ((V42.1 16 14).toInt64))) (16384 : Int64) V42).bind (fun (x47, V45) => (sv_len 0 b43).bind (fun n48 => if sx_in (l3 + l4) n48 = true then sx_let (sv_I V45 b43 (l3 + l4).toNatClampNeg x47.toInt32) (fun V51 => (cr l1 5).bind (fun b52 => (cr l2 5).bind (fun b54 => (sv_len 0 b54).bind (fun n56 => if sx_in l4 n56 = true then (sv_len 0 b52).bind (fun n59 => if sx_in (l3 + l4) n59 = true then sx_let (sv_I V51 b52 (l3 + l4).toNatClampNeg (V51.1 b54 l4.toNatClampNeg)) (fun V62 => sx_let (l4 + 1) (fun x63 => k8 l1 l2 l3 x63 V62)) else none) else none)))) else none)))) else none))) else none) else none))) else none))) else none
set_option maxRecDepth 20000 in
theorem tB_X6_append_8 {g : sx_G} (hG : sx_Go g) {P : Option Value → sv_V → Prop} {Vr : sv_V} (hP : P none Vr) {N : Nat} {k8 : Nat → Nat → Int32 → Int32 → sv_V → Option sv_V} (hk8 : ∀ (l1 : Nat) (l2 : Nat) (l3 : Int32) (l4 : Int32) (V : sv_V), k8 l1 l2 l3 l4 V = some Vr → sv_N g qX6_append 1 8 [(0, .ref 30), (1, .ref l1), (2, .ref l2), (3, .int l3), (4, .int l4)] [] V P) {l1 : Nat} {l2 : Nat} {l3 : Int32} {l4 : Int32} {V : sv_V} (h : B_X6_append_8 N k8 l1 l2 l3 l4 V = some Vr) : sv_N g qX6_append 1 8 [(0, .ref 30), (1, .ref l1), (2, .ref l2), (3, .int l3), (4, .int l4)] [] V P := by
  unfold B_X6_append_8 at h
  refine sx_iload (pc := 8) dX6_append_8 sx_m4 ?_
  refine sx_aload_n (pc := 10) dX6_append_10 sx_m2 ?_
  obtain ⟨g19, h⟩ := sx_grd h
  refine sv_getI (pc := 11) hG dX6_append_11 f_6_136 g19 rfl ?_
  refine sx_icmp_ge (pc := 14) (tgt := 137) dX6_append_14 (by decide) (fun c20 => ?_) (fun c20 => ?_)
  · have h := sx_pos c20 h
    refine sx_iconst (pc := 137) (v := 0) dX6_append_137 (by decide) ?_
    refine sx_istore (pc := 138) (lo' := [(4, .int (0 : Int32)), (0, .ref 30), (1, .ref l1), (2, .ref l2), (3, .int l3)]) dX6_append_138 (by decide) rfl ?_
    refine sx_wk (sx_s1 sx_m2 (sx_s1 sx_m3 (sx_s1 sx_m4 (sx_s1 sx_m0 sx_s0)))) ?_
    exact tL_X6_append_140 hG hP  N _ _ _ _ _ h
  · have h := sx_neg c20 h
    refine sx_aload_n (pc := 17) dX6_append_17 sx_m2 ?_
    obtain ⟨b21, g22, h⟩ := sx_bnd h
    refine sv_getA (pc := 18) hG dX6_append_18 f_6_190 g19 rfl g22 ?_
    refine sx_iload (pc := 21) dX6_append_21 sx_m4 ?_
    obtain ⟨n23, g24, h⟩ := sx_bnd h
    obtain ⟨g25, h⟩ := sx_grd h
    refine sv_iald (pc := 23) hG dX6_append_23 (sv_len_e g24) g25 ?_
    refine sx_i2l (pc := 24) dX6_append_24 ?_
    refine sv_tJ (fun x26 hx26 => ?_)
    have h := sx_letE hx26 h
    refine sx_lstore (pc := 25) (lo' := [(5, .long x26), (0, .ref 30), (1, .ref l1), (2, .ref l2), (3, .int l3), (4, .int l4)]) dX6_append_25 (by decide) rfl ?_
    refine sx_aload_n (pc := 27) dX6_append_27 sx_m3 ?_
    obtain ⟨b27, g28, h⟩ := sx_bnd h
    refine sv_getA (pc := 28) hG dX6_append_28 f_6_193 g19 rfl g28 ?_
    refine sx_iload (pc := 31) dX6_append_31 sx_m5 ?_
    obtain ⟨n29, g30, h⟩ := sx_bnd h
    obtain ⟨g31, h⟩ := sx_grd h
    refine sv_iald (pc := 33) hG dX6_append_33 (sv_len_e g30) g31 ?_
    refine sx_i2l (pc := 34) dX6_append_34 ?_
    refine sv_tJ (fun x32 hx32 => ?_)
    have h := sx_letE hx32 h
    refine sx_lstore (pc := 35) (lo' := [(7, .long x32), (5, .long x26), (0, .ref 30), (1, .ref l1), (2, .ref l2), (3, .int l3), (4, .int l4)]) dX6_append_35 (by decide) rfl ?_
    refine sx_aload_n (pc := 37) dX6_append_37 sx_m3 ?_
    obtain ⟨g33, h⟩ := sx_grd h
    obtain ⟨b34, g35, h⟩ := sx_bnd h
    refine sv_getA (pc := 38) hG dX6_append_38 f_6_190 g33 rfl g35 ?_
    refine sx_iload_n (pc := 41) dX6_append_41 sx_m5 ?_
    refine sx_iload (pc := 42) dX6_append_42 sx_m6 ?_
    refine sx_iadd (pc := 44) dX6_append_44 ?_
    refine sx_lload (pc := 45) dX6_append_45 sx_m1 ?_
    refine sx_aload_n (pc := 47) dX6_append_47 sx_m2 ?_
    refine sv_getO (pc := 48) hG dX6_append_48 f_6_38 lay_30 rfl cr_30_1 ?_
    refine sv_getI (pc := 51) hG dX6_append_51 f_6_231 lay_16 rfl ?_
    refine sx_i2l (pc := 54) dX6_append_54 ?_
    refine sx_lmul (pc := 55) dX6_append_55 ?_
    refine sx_lload (pc := 56) dX6_append_56 sx_m0 ?_
    refine sx_aload_n (pc := 58) dX6_append_58 sx_m2 ?_
    refine sv_getO (pc := 59) hG dX6_append_59 f_6_38 lay_30 rfl cr_30_1 ?_
    refine sv_getI (pc := 62) hG dX6_append_62 f_6_234 lay_16 rfl ?_
    refine sx_i2l (pc := 65) dX6_append_65 ?_
    refine sx_lmul (pc := 66) dX6_append_66 ?_
    refine sx_ladd (pc := 67) dX6_append_67 ?_
    refine sx_ldc2 (pc := 68) dX6_append_68 k_X6_237 ?_
    obtain ⟨⟨x38, V36⟩, g37, h⟩ := sx_bnd h
    refine sv_cN (pc := 71) (y := qX11_nearest) (o := (some (.long x38))) (as := [.long ((x26 * ((V.1 16 11).toInt64)) + (x32 * ((V.1 16 13).toInt64))), .long (16384 : Int64)]) (V1 := V36) dX6_append_71 n_X6_239 y0X11_nearest ysX11_nearest rfl (Nat.le_of_ble_eq_true rfl) (by decide) (Nat.le_of_ble_eq_true rfl) rfl rfl rfl (t_X11_nearest hG ⟨rfl, rfl⟩ g37) ?_
    refine sx_l2i (pc := 74) dX6_append_74 ?_
    obtain ⟨n39, g40, h⟩ := sx_bnd h
    obtain ⟨g41, h⟩ := sx_grd h
    obtain ⟨V42, hV42⟩ : ∃ z : sv_V, z = sv_I V36 b34 (l3 + l4).toNatClampNeg x38.toInt32 := ⟨_, rfl⟩
    have h := sx_letE hV42 h
    refine sv_iast (pc := 75) hG dX6_append_75 (sv_len_e g40) g41 hV42 ?_
    refine sx_aload_n (pc := 76) dX6_append_76 sx_m3 ?_
    obtain ⟨b43, g44, h⟩ := sx_bnd h
    refine sv_getA (pc := 77) hG dX6_append_77 f_6_193 g33 rfl g44 ?_
    refine sx_iload_n (pc := 80) dX6_append_80 sx_m5 ?_
    refine sx_iload (pc := 81) dX6_append_81 sx_m6 ?_
    refine sx_iadd (pc := 83) dX6_append_83 ?_
    refine sx_lload (pc := 84) dX6_append_84 sx_m1 ?_
    refine sx_aload_n (pc := 86) dX6_append_86 sx_m2 ?_
    refine sv_getO (pc := 87) hG dX6_append_87 f_6_38 lay_30 rfl cr_30_1 ?_
    refine sv_getI (pc := 90) hG dX6_append_90 f_6_243 lay_16 rfl ?_
    refine sx_i2l (pc := 93) dX6_append_93 ?_
    refine sx_lmul (pc := 94) dX6_append_94 ?_
    refine sx_lload (pc := 95) dX6_append_95 sx_m0 ?_
    refine sx_aload_n (pc := 97) dX6_append_97 sx_m2 ?_
    refine sv_getO (pc := 98) hG dX6_append_98 f_6_38 lay_30 rfl cr_30_1 ?_
    refine sv_getI (pc := 101) hG dX6_append_101 f_6_246 lay_16 rfl ?_
    refine sx_i2l (pc := 104) dX6_append_104 ?_
    refine sx_lmul (pc := 105) dX6_append_105 ?_
    refine sx_ladd (pc := 106) dX6_append_106 ?_
    refine sx_ldc2 (pc := 107) dX6_append_107 k_X6_237 ?_
    obtain ⟨⟨x47, V45⟩, g46, h⟩ := sx_bnd h
    refine sv_cN (pc := 110) (y := qX11_nearest) (o := (some (.long x47))) (as := [.long ((x26 * ((V42.1 16 12).toInt64)) + (x32 * ((V42.1 16 14).toInt64))), .long (16384 : Int64)]) (V1 := V45) dX6_append_110 n_X6_239 y0X11_nearest ysX11_nearest rfl (Nat.le_of_ble_eq_true rfl) (by decide) (Nat.le_of_ble_eq_true rfl) rfl rfl rfl (t_X11_nearest hG ⟨rfl, rfl⟩ g46) ?_
    refine sx_l2i (pc := 113) dX6_append_113 ?_
    obtain ⟨n48, g49, h⟩ := sx_bnd h
    obtain ⟨g50, h⟩ := sx_grd h
    obtain ⟨V51, hV51⟩ : ∃ z : sv_V, z = sv_I V45 b43 (l3 + l4).toNatClampNeg x47.toInt32 := ⟨_, rfl⟩
    have h := sx_letE hV51 h
    refine sv_iast (pc := 114) hG dX6_append_114 (sv_len_e g49) g50 hV51 ?_
    refine sx_aload_n (pc := 115) dX6_append_115 sx_m3 ?_
    obtain ⟨b52, g53, h⟩ := sx_bnd h
    refine sv_getA (pc := 116) hG dX6_append_116 f_6_249 g33 rfl g53 ?_
    refine sx_iload_n (pc := 119) dX6_append_119 sx_m5 ?_
    refine sx_iload (pc := 120) dX6_append_120 sx_m6 ?_
    refine sx_iadd (pc := 122) dX6_append_122 ?_
    refine sx_aload_n (pc := 123) dX6_append_123 sx_m4 ?_
    obtain ⟨b54, g55, h⟩ := sx_bnd h
    refine sv_getA (pc := 124) hG dX6_append_124 f_6_249 g19 rfl g55 ?_
    refine sx_iload (pc := 127) dX6_append_127 sx_m6 ?_
    obtain ⟨n56, g57, h⟩ := sx_bnd h
    obtain ⟨g58, h⟩ := sx_grd h
    refine sv_iald (pc := 129) hG dX6_append_129 (sv_len_e g57) g58 ?_
    obtain ⟨n59, g60, h⟩ := sx_bnd h
    obtain ⟨g61, h⟩ := sx_grd h
    obtain ⟨V62, hV62⟩ : ∃ z : sv_V, z = sv_I V51 b52 (l3 + l4).toNatClampNeg (V51.1 b54 l4.toNatClampNeg) := ⟨_, rfl⟩
    have h := sx_letE hV62 h
    refine sv_iast (pc := 130) hG dX6_append_130 (sv_len_e g60) g61 hV62 ?_
    obtain ⟨x63, hx63⟩ : ∃ z : Int32, z = l4 + 1 := ⟨_, rfl⟩
    have h := sx_letE hx63 h
    refine sx_iinc (pc := 131) (v := x63) (lo' := [(4, .int x63), (7, .long x32), (5, .long x26), (0, .ref 30), (1, .ref l1), (2, .ref l2), (3, .int l3)]) dX6_append_131 sx_m6 (by rw [hx63]; rfl) (by decide) rfl ?_
    refine sx_goto (pc := 134) (tgt := 8) dX6_append_134 (by decide) ?_
    refine sx_wk (sx_s1 sx_m3 (sx_s1 sx_m4 (sx_s1 sx_m5 (sx_s1 sx_m6 (sx_s1 sx_m0 sx_s0))))) ?_
    exact hk8 _ _ _ _ _ h
theorem tL_X6_append_8 {g : sx_G} (hG : sx_Go g) {P : Option Value → sv_V → Prop} {Vr : sv_V} (hP : P none Vr) {N : Nat}   : ∀ (n : Nat) (l1 : Nat) (l2 : Nat) (l3 : Int32) (l4 : Int32) (V : sv_V), sx_lp5 (B_X6_append_8 N ) n l1 l2 l3 l4 V = some Vr → sv_N g qX6_append 1 8 [(0, .ref 30), (1, .ref l1), (2, .ref l2), (3, .int l3), (4, .int l4)] [] V P :=
  sx_lp5_ind (fun k0 ih _ _ _ _ V h => tB_X6_append_8 hG hP ih h)
def F_X6_append (N : Nat) (l1 : Nat) (l2 : Nat) (V : sv_V) : Option sv_V := if lay l1 = .inl 8 then sx_let (V.1 l1 9) (fun x65 => sx_lp5 (B_X6_append_8 N ) N l1 l2 x65 (0 : Int32) V) else none
set_option maxRecDepth 20000 in
theorem t_X6_append {g : sx_G} (hG : sx_Go g) {P : Option Value → sv_V → Prop} {Vr : sv_V} (hP : P none Vr) {N : Nat} {l1 : Nat} {l2 : Nat} {V : sv_V} (h : F_X6_append N l1 l2 V = some Vr) : sv_N g qX6_append 1 0 [(0, .ref 30), (1, .ref l1), (2, .ref l2)] [] V P := by
  unfold F_X6_append at h
  refine sx_aload_n (pc := 0) dX6_append_0 sx_m1 ?_
  obtain ⟨g64, h⟩ := sx_grd h
  refine sv_getI (pc := 1) hG dX6_append_1 f_6_136 g64 rfl ?_
  refine sv_tI (fun x65 hx65 => ?_)
  have h := sx_letE hx65 h
  refine sx_istore_n (pc := 4) (lo' := [(3, .int x65), (0, .ref 30), (1, .ref l1), (2, .ref l2)]) dX6_append_4 (by decide) rfl ?_
  refine sx_iconst (pc := 5) (v := 0) dX6_append_5 (by decide) ?_
  refine sx_istore (pc := 6) (lo' := [(4, .int (0 : Int32)), (3, .int x65), (0, .ref 30), (1, .ref l1), (2, .ref l2)]) dX6_append_6 (by decide) rfl ?_
  refine sx_wk (sx_s1 sx_m2 (sx_s1 sx_m3 (sx_s1 sx_m4 (sx_s1 sx_m1 (sx_s1 sx_m0 sx_s0))))) ?_
  exact tL_X6_append_8 hG hP  N _ _ _ _ _ h
def ncX6_match : Nat := 2535888567617750471946310220997703150824667648215723548803478524106916696467418369673653304708697746854432917797350211945780949763041993741131192109789583168291794367530
theorem kcX6_match : CK cX6_match ncX6_match 70 := ⟨by decide +kernel, by decide +kernel⟩
theorem dX6_match_0 : decode cX6_match 0 = .ok (.aload_n 0, 1) := dl_o42 kcX6_match (by decide +kernel)
theorem dX6_match_1 : decode cX6_match 1 = .ok (.getfield 38, 3) := dl_o180 kcX6_match (by decide +kernel)
theorem dX6_match_4 : decode cX6_match 4 = .ok (.getfield 212, 3) := dl_o180 kcX6_match (by decide +kernel)
theorem dX6_match_7 : decode cX6_match 7 = .ok (.istore_n 3, 1) := dl_o62 kcX6_match (by decide +kernel)
theorem dX6_match_8 : decode cX6_match 8 = .ok (.iload_n 2, 1) := dl_o28 kcX6_match (by decide +kernel)
theorem dX6_match_9 : decode cX6_match 9 = .ok (.aload_n 0, 1) := dl_o42 kcX6_match (by decide +kernel)
theorem dX6_match_10 : decode cX6_match 10 = .ok (.getfield 38, 3) := dl_o180 kcX6_match (by decide +kernel)
theorem dX6_match_13 : decode cX6_match 13 = .ok (.getfield 218, 3) := dl_o180 kcX6_match (by decide +kernel)
theorem dX6_match_16 : decode cX6_match 16 = .ok (.iadd, 1) := dl_o96 kcX6_match (by decide +kernel)
theorem dX6_match_17 : decode cX6_match 17 = .ok (.istore 4, 2) := dl_o54 kcX6_match (by decide +kernel)
theorem dX6_match_19 : decode cX6_match 19 = .ok (.iload_n 3, 1) := dl_o29 kcX6_match (by decide +kernel)
theorem dX6_match_20 : decode cX6_match 20 = .ok (.iload_n 2, 1) := dl_o28 kcX6_match (by decide +kernel)
theorem dX6_match_21 : decode cX6_match 21 = .ok (.if_icmp .ge 12, 3) := dl_o162 kcX6_match 12 (by decide +kernel) (by decide +kernel)
theorem dX6_match_24 : decode cX6_match 24 = .ok (.iload 4, 2) := dl_o21 kcX6_match (by decide +kernel)
theorem dX6_match_26 : decode cX6_match 26 = .ok (.aload_n 1, 1) := dl_o43 kcX6_match (by decide +kernel)
theorem dX6_match_27 : decode cX6_match 27 = .ok (.getfield 136, 3) := dl_o180 kcX6_match (by decide +kernel)
theorem dX6_match_30 : decode cX6_match 30 = .ok (.if_icmp .lt 5, 3) := dl_o161 kcX6_match 5 (by decide +kernel) (by decide +kernel)
theorem dX6_match_33 : decode cX6_match 33 = .ok (.iconst 0, 1) := dl_o3 kcX6_match (by decide +kernel)
theorem dX6_match_34 : decode cX6_match 34 = .ok (.ireturn, 1) := dl_o172 kcX6_match (by decide +kernel)
theorem dX6_match_35 : decode cX6_match 35 = .ok (.aload_n 1, 1) := dl_o43 kcX6_match (by decide +kernel)
theorem dX6_match_36 : decode cX6_match 36 = .ok (.iload_n 2, 1) := dl_o28 kcX6_match (by decide +kernel)
theorem dX6_match_37 : decode cX6_match 37 = .ok (.aload_n 1, 1) := dl_o43 kcX6_match (by decide +kernel)
theorem dX6_match_38 : decode cX6_match 38 = .ok (.getfield 190, 3) := dl_o180 kcX6_match (by decide +kernel)
theorem dX6_match_41 : decode cX6_match 41 = .ok (.iload_n 3, 1) := dl_o29 kcX6_match (by decide +kernel)
theorem dX6_match_42 : decode cX6_match 42 = .ok (.iaload, 1) := dl_o46 kcX6_match (by decide +kernel)
theorem dX6_match_43 : decode cX6_match 43 = .ok (.aload_n 1, 1) := dl_o43 kcX6_match (by decide +kernel)
theorem dX6_match_44 : decode cX6_match 44 = .ok (.getfield 190, 3) := dl_o180 kcX6_match (by decide +kernel)
theorem dX6_match_47 : decode cX6_match 47 = .ok (.iload 4, 2) := dl_o21 kcX6_match (by decide +kernel)
theorem dX6_match_49 : decode cX6_match 49 = .ok (.iaload, 1) := dl_o46 kcX6_match (by decide +kernel)
theorem dX6_match_50 : decode cX6_match 50 = .ok (.isub, 1) := dl_o100 kcX6_match (by decide +kernel)
theorem dX6_match_51 : decode cX6_match 51 = .ok (.aload_n 1, 1) := dl_o43 kcX6_match (by decide +kernel)
theorem dX6_match_52 : decode cX6_match 52 = .ok (.getfield 193, 3) := dl_o180 kcX6_match (by decide +kernel)
theorem dX6_match_55 : decode cX6_match 55 = .ok (.iload_n 3, 1) := dl_o29 kcX6_match (by decide +kernel)
theorem dX6_match_56 : decode cX6_match 56 = .ok (.iaload, 1) := dl_o46 kcX6_match (by decide +kernel)
theorem dX6_match_57 : decode cX6_match 57 = .ok (.aload_n 1, 1) := dl_o43 kcX6_match (by decide +kernel)
theorem dX6_match_58 : decode cX6_match 58 = .ok (.getfield 193, 3) := dl_o180 kcX6_match (by decide +kernel)
theorem dX6_match_61 : decode cX6_match 61 = .ok (.iload 4, 2) := dl_o21 kcX6_match (by decide +kernel)
theorem dX6_match_63 : decode cX6_match 63 = .ok (.iaload, 1) := dl_o46 kcX6_match (by decide +kernel)
theorem dX6_match_64 : decode cX6_match 64 = .ok (.isub, 1) := dl_o100 kcX6_match (by decide +kernel)
theorem dX6_match_65 : decode cX6_match 65 = .ok (.invokevirtual 121, 3) := dl_o182 kcX6_match (by decide +kernel)
theorem dX6_match_68 : decode cX6_match 68 = .ok (.iconst 1, 1) := dl_o4 kcX6_match (by decide +kernel)
theorem dX6_match_69 : decode cX6_match 69 = .ok (.ireturn, 1) := dl_o172 kcX6_match (by decide +kernel)
def F_X6_match (N : Nat) (l1 : Nat) (l2 : Int32) (V : sv_V) : Option (Int32 × sv_V) := sx_let (V.1 16 9) (fun x1 => sx_let (l2 + (V.1 16 10)) (fun x2 => if l2 ≤ x1 then (some ((0 : Int32), V)) else (if lay l1 = .inl 8 then if x2 < (V.1 l1 9) then ((cr l1 0).bind (fun b6 => (sv_len 0 b6).bind (fun n8 => if sx_in x1 n8 = true then if sx_in x2 n8 = true then (cr l1 1).bind (fun b12 => (sv_len 0 b12).bind (fun n14 => if sx_in x1 n14 = true then if sx_in x2 n14 = true then (F_X8_shift N l1 l2 ((V.1 b6 x1.toNatClampNeg) - (V.1 b6 x2.toNatClampNeg)) ((V.1 b12 x1.toNatClampNeg) - (V.1 b12 x2.toNatClampNeg)) V).bind (fun V18 => some ((1 : Int32), V18)) else none else none)) else none else none))) else (some ((0 : Int32), V)) else none)))
set_option maxRecDepth 20000 in
theorem t_X6_match {g : sx_G} (hG : sx_Go g) {P : Option Value → sv_V → Prop} {r : Int32} {Vr : sv_V} (hP : P (some (.int r)) Vr) {N : Nat} {l1 : Nat} {l2 : Int32} {V : sv_V} (h : F_X6_match N l1 l2 V = some (r, Vr)) : sv_N g qX6_match 1 0 [(0, .ref 30), (1, .ref l1), (2, .int l2)] [] V P := by
  unfold F_X6_match at h
  refine sx_aload_n (pc := 0) dX6_match_0 sx_m0 ?_
  refine sv_getO (pc := 1) hG dX6_match_1 f_6_38 lay_30 rfl cr_30_1 ?_
  refine sv_getI (pc := 4) hG dX6_match_4 f_6_212 lay_16 rfl ?_
  refine sv_tI (fun x1 hx1 => ?_)
  have h := sx_letE hx1 h
  refine sx_istore_n (pc := 7) (lo' := [(3, .int x1), (0, .ref 30), (1, .ref l1), (2, .int l2)]) dX6_match_7 (by decide) rfl ?_
  refine sx_iload_n (pc := 8) dX6_match_8 sx_m3 ?_
  refine sx_aload_n (pc := 9) dX6_match_9 sx_m1 ?_
  refine sv_getO (pc := 10) hG dX6_match_10 f_6_38 lay_30 rfl cr_30_1 ?_
  refine sv_getI (pc := 13) hG dX6_match_13 f_6_218 lay_16 rfl ?_
  refine sx_iadd (pc := 16) dX6_match_16 ?_
  refine sv_tI (fun x2 hx2 => ?_)
  have h := sx_letE hx2 h
  refine sx_istore (pc := 17) (lo' := [(4, .int x2), (3, .int x1), (0, .ref 30), (1, .ref l1), (2, .int l2)]) dX6_match_17 (by decide) rfl ?_
  refine sx_iload_n (pc := 19) dX6_match_19 sx_m1 ?_
  refine sx_iload_n (pc := 20) dX6_match_20 sx_m4 ?_
  refine sx_icmp_ge (pc := 21) (tgt := 33) dX6_match_21 (by decide) (fun c3 => ?_) (fun c3 => ?_)
  · have h := sx_pos c3 h
    refine sx_iconst (pc := 33) (v := 0) dX6_match_33 (by decide) ?_
    exact sv_zret (pc := 34) dX6_match_34 rfl rfl h hP
  · have h := sx_neg c3 h
    refine sx_iload (pc := 24) dX6_match_24 sx_m0 ?_
    refine sx_aload_n (pc := 26) dX6_match_26 sx_m3 ?_
    obtain ⟨g4, h⟩ := sx_grd h
    refine sv_getI (pc := 27) hG dX6_match_27 f_6_136 g4 rfl ?_
    refine sx_icmp_lt (pc := 30) (tgt := 35) dX6_match_30 (by decide) (fun c5 => ?_) (fun c5 => ?_)
    · have h := sx_pos c5 h
      refine sx_aload_n (pc := 35) dX6_match_35 sx_m3 ?_
      refine sx_iload_n (pc := 36) dX6_match_36 sx_m4 ?_
      refine sx_aload_n (pc := 37) dX6_match_37 sx_m3 ?_
      obtain ⟨b6, g7, h⟩ := sx_bnd h
      refine sv_getA (pc := 38) hG dX6_match_38 f_6_190 g4 rfl g7 ?_
      refine sx_iload_n (pc := 41) dX6_match_41 sx_m1 ?_
      obtain ⟨n8, g9, h⟩ := sx_bnd h
      obtain ⟨g10, h⟩ := sx_grd h
      refine sv_iald (pc := 42) hG dX6_match_42 (sv_len_e g9) g10 ?_
      refine sx_aload_n (pc := 43) dX6_match_43 sx_m3 ?_
      refine sv_getA (pc := 44) hG dX6_match_44 f_6_190 g4 rfl g7 ?_
      refine sx_iload (pc := 47) dX6_match_47 sx_m0 ?_
      obtain ⟨g11, h⟩ := sx_grd h
      refine sv_iald (pc := 49) hG dX6_match_49 (sv_len_e g9) g11 ?_
      refine sx_isub (pc := 50) dX6_match_50 ?_
      refine sx_aload_n (pc := 51) dX6_match_51 sx_m3 ?_
      obtain ⟨b12, g13, h⟩ := sx_bnd h
      refine sv_getA (pc := 52) hG dX6_match_52 f_6_193 g4 rfl g13 ?_
      refine sx_iload_n (pc := 55) dX6_match_55 sx_m1 ?_
      obtain ⟨n14, g15, h⟩ := sx_bnd h
      obtain ⟨g16, h⟩ := sx_grd h
      refine sv_iald (pc := 56) hG dX6_match_56 (sv_len_e g15) g16 ?_
      refine sx_aload_n (pc := 57) dX6_match_57 sx_m3 ?_
      refine sv_getA (pc := 58) hG dX6_match_58 f_6_193 g4 rfl g13 ?_
      refine sx_iload (pc := 61) dX6_match_61 sx_m0 ?_
      obtain ⟨g17, h⟩ := sx_grd h
      refine sv_iald (pc := 63) hG dX6_match_63 (sv_len_e g15) g17 ?_
      refine sx_isub (pc := 64) dX6_match_64 ?_
      obtain ⟨V18, g19, h⟩ := sx_bnd h
      refine sv_cV (pc := 65) (y := qX8_shift) (o := none) (as := [.int l2, .int ((V.1 b6 x1.toNatClampNeg) - (V.1 b6 x2.toNatClampNeg)), .int ((V.1 b12 x1.toNatClampNeg) - (V.1 b12 x2.toNatClampNeg))]) (V1 := V18) hG dX6_match_65 l_X6_121 y0X8_shift yvX8_shift rfl (Nat.le_of_ble_eq_true rfl) g4 kr_8 (by decide) (Nat.le_of_ble_eq_true rfl) rfl rfl rfl (t_X8_shift hG ⟨rfl, rfl⟩ g19) ?_
      refine sx_iconst (pc := 68) (v := 1) dX6_match_68 (by decide) ?_
      exact sv_zret (pc := 69) dX6_match_69 rfl rfl h hP
    · have h := sx_neg c5 h
      refine sx_iconst (pc := 33) (v := 0) dX6_match_33 (by decide) ?_
      exact sv_zret (pc := 34) dX6_match_34 rfl rfl h hP
def ncX7_copyFrom : Nat := 3160069540045079887234848786524120447402734247686519915502308974175027962134503145326318990517064350542939567859356311068105468727975701969253438908522470196729960989312382142863976654009805610
theorem kcX7_copyFrom : CK cX7_copyFrom ncX7_copyFrom 80 := ⟨by decide +kernel, by decide +kernel⟩
theorem dX7_copyFrom_0 : decode cX7_copyFrom 0 = .ok (.aload_n 0, 1) := dl_o42 kcX7_copyFrom (by decide +kernel)
theorem dX7_copyFrom_1 : decode cX7_copyFrom 1 = .ok (.aload_n 1, 1) := dl_o43 kcX7_copyFrom (by decide +kernel)
theorem dX7_copyFrom_2 : decode cX7_copyFrom 2 = .ok (.getfield 44, 3) := dl_o180 kcX7_copyFrom (by decide +kernel)
theorem dX7_copyFrom_5 : decode cX7_copyFrom 5 = .ok (.putfield 44, 3) := dl_o181 kcX7_copyFrom (by decide +kernel)
theorem dX7_copyFrom_8 : decode cX7_copyFrom 8 = .ok (.aload_n 0, 1) := dl_o42 kcX7_copyFrom (by decide +kernel)
theorem dX7_copyFrom_9 : decode cX7_copyFrom 9 = .ok (.aload_n 1, 1) := dl_o43 kcX7_copyFrom (by decide +kernel)
theorem dX7_copyFrom_10 : decode cX7_copyFrom 10 = .ok (.getfield 67, 3) := dl_o180 kcX7_copyFrom (by decide +kernel)
theorem dX7_copyFrom_13 : decode cX7_copyFrom 13 = .ok (.putfield 67, 3) := dl_o181 kcX7_copyFrom (by decide +kernel)
theorem dX7_copyFrom_16 : decode cX7_copyFrom 16 = .ok (.aload_n 1, 1) := dl_o43 kcX7_copyFrom (by decide +kernel)
theorem dX7_copyFrom_17 : decode cX7_copyFrom 17 = .ok (.getfield 9, 3) := dl_o180 kcX7_copyFrom (by decide +kernel)
theorem dX7_copyFrom_20 : decode cX7_copyFrom 20 = .ok (.iconst 0, 1) := dl_o3 kcX7_copyFrom (by decide +kernel)
theorem dX7_copyFrom_21 : decode cX7_copyFrom 21 = .ok (.aload_n 0, 1) := dl_o42 kcX7_copyFrom (by decide +kernel)
theorem dX7_copyFrom_22 : decode cX7_copyFrom 22 = .ok (.getfield 9, 3) := dl_o180 kcX7_copyFrom (by decide +kernel)
theorem dX7_copyFrom_25 : decode cX7_copyFrom 25 = .ok (.iconst 0, 1) := dl_o3 kcX7_copyFrom (by decide +kernel)
theorem dX7_copyFrom_26 : decode cX7_copyFrom 26 = .ok (.aload_n 0, 1) := dl_o42 kcX7_copyFrom (by decide +kernel)
theorem dX7_copyFrom_27 : decode cX7_copyFrom 27 = .ok (.getfield 44, 3) := dl_o180 kcX7_copyFrom (by decide +kernel)
theorem dX7_copyFrom_30 : decode cX7_copyFrom 30 = .ok (.invokestatic 80, 3) := dl_o184 kcX7_copyFrom (by decide +kernel)
theorem dX7_copyFrom_33 : decode cX7_copyFrom 33 = .ok (.aload_n 1, 1) := dl_o43 kcX7_copyFrom (by decide +kernel)
theorem dX7_copyFrom_34 : decode cX7_copyFrom 34 = .ok (.getfield 15, 3) := dl_o180 kcX7_copyFrom (by decide +kernel)
theorem dX7_copyFrom_37 : decode cX7_copyFrom 37 = .ok (.iconst 0, 1) := dl_o3 kcX7_copyFrom (by decide +kernel)
theorem dX7_copyFrom_38 : decode cX7_copyFrom 38 = .ok (.aload_n 0, 1) := dl_o42 kcX7_copyFrom (by decide +kernel)
theorem dX7_copyFrom_39 : decode cX7_copyFrom 39 = .ok (.getfield 15, 3) := dl_o180 kcX7_copyFrom (by decide +kernel)
theorem dX7_copyFrom_42 : decode cX7_copyFrom 42 = .ok (.iconst 0, 1) := dl_o3 kcX7_copyFrom (by decide +kernel)
theorem dX7_copyFrom_43 : decode cX7_copyFrom 43 = .ok (.aload_n 0, 1) := dl_o42 kcX7_copyFrom (by decide +kernel)
theorem dX7_copyFrom_44 : decode cX7_copyFrom 44 = .ok (.getfield 67, 3) := dl_o180 kcX7_copyFrom (by decide +kernel)
theorem dX7_copyFrom_47 : decode cX7_copyFrom 47 = .ok (.invokestatic 80, 3) := dl_o184 kcX7_copyFrom (by decide +kernel)
theorem dX7_copyFrom_50 : decode cX7_copyFrom 50 = .ok (.aload_n 0, 1) := dl_o42 kcX7_copyFrom (by decide +kernel)
theorem dX7_copyFrom_51 : decode cX7_copyFrom 51 = .ok (.getfield 23, 3) := dl_o180 kcX7_copyFrom (by decide +kernel)
theorem dX7_copyFrom_54 : decode cX7_copyFrom 54 = .ok (.aload_n 1, 1) := dl_o43 kcX7_copyFrom (by decide +kernel)
theorem dX7_copyFrom_55 : decode cX7_copyFrom 55 = .ok (.getfield 23, 3) := dl_o180 kcX7_copyFrom (by decide +kernel)
theorem dX7_copyFrom_58 : decode cX7_copyFrom 58 = .ok (.invokevirtual 86, 3) := dl_o182 kcX7_copyFrom (by decide +kernel)
theorem dX7_copyFrom_61 : decode cX7_copyFrom 61 = .ok (.aload_n 1, 1) := dl_o43 kcX7_copyFrom (by decide +kernel)
theorem dX7_copyFrom_62 : decode cX7_copyFrom 62 = .ok (.getfield 30, 3) := dl_o180 kcX7_copyFrom (by decide +kernel)
theorem dX7_copyFrom_65 : decode cX7_copyFrom 65 = .ok (.iconst 0, 1) := dl_o3 kcX7_copyFrom (by decide +kernel)
theorem dX7_copyFrom_66 : decode cX7_copyFrom 66 = .ok (.aload_n 0, 1) := dl_o42 kcX7_copyFrom (by decide +kernel)
theorem dX7_copyFrom_67 : decode cX7_copyFrom 67 = .ok (.getfield 30, 3) := dl_o180 kcX7_copyFrom (by decide +kernel)
theorem dX7_copyFrom_70 : decode cX7_copyFrom 70 = .ok (.iconst 0, 1) := dl_o3 kcX7_copyFrom (by decide +kernel)
theorem dX7_copyFrom_71 : decode cX7_copyFrom 71 = .ok (.aload_n 0, 1) := dl_o42 kcX7_copyFrom (by decide +kernel)
theorem dX7_copyFrom_72 : decode cX7_copyFrom 72 = .ok (.getfield 30, 3) := dl_o180 kcX7_copyFrom (by decide +kernel)
theorem dX7_copyFrom_75 : decode cX7_copyFrom 75 = .ok (.arraylength, 1) := dl_o190 kcX7_copyFrom (by decide +kernel)
theorem dX7_copyFrom_76 : decode cX7_copyFrom 76 = .ok (.invokestatic 80, 3) := dl_o184 kcX7_copyFrom (by decide +kernel)
theorem dX7_copyFrom_79 : decode cX7_copyFrom 79 = .ok (.return_, 1) := dl_o177 kcX7_copyFrom (by decide +kernel)
def F_X7_copyFrom (l0 : Nat) (l1 : Nat) (V : sv_V) : Option sv_V := if lay l1 = .inl 7 then if lay l0 = .inl 7 then sx_let (sv_I V l0 1 (V.1 l1 1)) (fun V3 => sx_let (sv_I V3 l0 3 (V3.1 l1 3)) (fun V4 => (cr l1 0).bind (fun b5 => (cr l0 0).bind (fun b7 => (sv_len 0 b5).bind (fun n9 => (sv_len 0 b7).bind (fun n11 => if sv_cpo (0 : Int32) (V4.1 l0 1) n9 = true then if sv_cpo (0 : Int32) (V4.1 l0 1) n11 = true then sx_let (sv_C V4 b5 (0 : Int32).toNatClampNeg b7 (0 : Int32).toNatClampNeg (V4.1 l0 1).toNatClampNeg) (fun V15 => (cr l1 2).bind (fun b16 => (cr l0 2).bind (fun b18 => (sv_len 0 b16).bind (fun n20 => (sv_len 0 b18).bind (fun n22 => if sv_cpo (0 : Int32) (V15.1 l0 3) n20 = true then if sv_cpo (0 : Int32) (V15.1 l0 3) n22 = true then sx_let (sv_C V15 b16 (0 : Int32).toNatClampNeg b18 (0 : Int32).toNatClampNeg (V15.1 l0 3).toNatClampNeg) (fun V26 => (cr l0 4).bind (fun b27 => (cr l1 4).bind (fun b29 => (F_X8_copyFrom b27 b29 V26).bind (fun V31 => if lay b27 = .inl 8 then (cr l1 5).bind (fun b34 => (cr l0 5).bind (fun b36 => (sv_len 0 b36).bind (fun n38 => (sv_len 0 b34).bind (fun n40 => if sv_cpo (0 : Int32) (Int32.ofNat n38) n40 = true then if sv_cpo (0 : Int32) (Int32.ofNat n38) n38 = true then sx_let (sv_C V31 b34 (0 : Int32).toNatClampNeg b36 (0 : Int32).toNatClampNeg (Int32.ofNat n38).toNatClampNeg) (fun V44 => some V44) else none else none)))) else none)))) else none else none))))) else none else none)))))) else none else none
set_option maxRecDepth 20000 in
theorem t_X7_copyFrom {g : sx_G} (hG : sx_Go g) {P : Option Value → sv_V → Prop} {Vr : sv_V} (hP : P none Vr) {l0 : Nat} {l1 : Nat} {V : sv_V} (h : F_X7_copyFrom l0 l1 V = some Vr) : sv_N g qX7_copyFrom 2 0 [(0, .ref l0), (1, .ref l1)] [] V P := by
  unfold F_X7_copyFrom at h
  refine sx_aload_n (pc := 0) dX7_copyFrom_0 sx_m0 ?_
  refine sx_aload_n (pc := 1) dX7_copyFrom_1 sx_m1 ?_
  obtain ⟨g1, h⟩ := sx_grd h
  refine sv_getI (pc := 2) hG dX7_copyFrom_2 f_7_44 g1 rfl ?_
  obtain ⟨g2, h⟩ := sx_grd h
  obtain ⟨V3, hV3⟩ : ∃ z : sv_V, z = sv_I V l0 1 (V.1 l1 1) := ⟨_, rfl⟩
  have h := sx_letE hV3 h
  refine sv_putI (pc := 5) hG dX7_copyFrom_5 f_7_44 g2 rfl hV3 ?_
  refine sx_aload_n (pc := 8) dX7_copyFrom_8 sx_m0 ?_
  refine sx_aload_n (pc := 9) dX7_copyFrom_9 sx_m1 ?_
  refine sv_getI (pc := 10) hG dX7_copyFrom_10 f_7_67 g1 rfl ?_
  obtain ⟨V4, hV4⟩ : ∃ z : sv_V, z = sv_I V3 l0 3 (V3.1 l1 3) := ⟨_, rfl⟩
  have h := sx_letE hV4 h
  refine sv_putI (pc := 13) hG dX7_copyFrom_13 f_7_67 g2 rfl hV4 ?_
  refine sx_aload_n (pc := 16) dX7_copyFrom_16 sx_m1 ?_
  obtain ⟨b5, g6, h⟩ := sx_bnd h
  refine sv_getA (pc := 17) hG dX7_copyFrom_17 f_7_9 g1 rfl g6 ?_
  refine sx_iconst (pc := 20) (v := 0) dX7_copyFrom_20 (by decide) ?_
  refine sx_aload_n (pc := 21) dX7_copyFrom_21 sx_m0 ?_
  obtain ⟨b7, g8, h⟩ := sx_bnd h
  refine sv_getA (pc := 22) hG dX7_copyFrom_22 f_7_9 g2 rfl g8 ?_
  refine sx_iconst (pc := 25) (v := 0) dX7_copyFrom_25 (by decide) ?_
  refine sx_aload_n (pc := 26) dX7_copyFrom_26 sx_m0 ?_
  refine sv_getI (pc := 27) hG dX7_copyFrom_27 f_7_44 g2 rfl ?_
  obtain ⟨n9, g10, h⟩ := sx_bnd h
  obtain ⟨n11, g12, h⟩ := sx_bnd h
  obtain ⟨g13, h⟩ := sx_grd h
  obtain ⟨g14, h⟩ := sx_grd h
  obtain ⟨V15, hV15⟩ : ∃ z : sv_V, z = sv_C V4 b5 (0 : Int32).toNatClampNeg b7 (0 : Int32).toNatClampNeg (V4.1 l0 1).toNatClampNeg := ⟨_, rfl⟩
  have h := sx_letE hV15 h
  refine sv_copyI (pc := 30) hG dX7_copyFrom_30 l_X7_80 (sv_len_e g10) (sv_len_e g12) g13 g14 (by decide) (Nat.le_of_ble_eq_true rfl) hV15 ?_
  refine sx_aload_n (pc := 33) dX7_copyFrom_33 sx_m1 ?_
  obtain ⟨b16, g17, h⟩ := sx_bnd h
  refine sv_getA (pc := 34) hG dX7_copyFrom_34 f_7_15 g1 rfl g17 ?_
  refine sx_iconst (pc := 37) (v := 0) dX7_copyFrom_37 (by decide) ?_
  refine sx_aload_n (pc := 38) dX7_copyFrom_38 sx_m0 ?_
  obtain ⟨b18, g19, h⟩ := sx_bnd h
  refine sv_getA (pc := 39) hG dX7_copyFrom_39 f_7_15 g2 rfl g19 ?_
  refine sx_iconst (pc := 42) (v := 0) dX7_copyFrom_42 (by decide) ?_
  refine sx_aload_n (pc := 43) dX7_copyFrom_43 sx_m0 ?_
  refine sv_getI (pc := 44) hG dX7_copyFrom_44 f_7_67 g2 rfl ?_
  obtain ⟨n20, g21, h⟩ := sx_bnd h
  obtain ⟨n22, g23, h⟩ := sx_bnd h
  obtain ⟨g24, h⟩ := sx_grd h
  obtain ⟨g25, h⟩ := sx_grd h
  obtain ⟨V26, hV26⟩ : ∃ z : sv_V, z = sv_C V15 b16 (0 : Int32).toNatClampNeg b18 (0 : Int32).toNatClampNeg (V15.1 l0 3).toNatClampNeg := ⟨_, rfl⟩
  have h := sx_letE hV26 h
  refine sv_copyI (pc := 47) hG dX7_copyFrom_47 l_X7_80 (sv_len_e g21) (sv_len_e g23) g24 g25 (by decide) (Nat.le_of_ble_eq_true rfl) hV26 ?_
  refine sx_aload_n (pc := 50) dX7_copyFrom_50 sx_m0 ?_
  obtain ⟨b27, g28, h⟩ := sx_bnd h
  refine sv_getO (pc := 51) hG dX7_copyFrom_51 f_7_23 g2 rfl g28 ?_
  refine sx_aload_n (pc := 54) dX7_copyFrom_54 sx_m1 ?_
  obtain ⟨b29, g30, h⟩ := sx_bnd h
  refine sv_getO (pc := 55) hG dX7_copyFrom_55 f_7_23 g1 rfl g30 ?_
  obtain ⟨V31, g32, h⟩ := sx_bnd h
  obtain ⟨g33, h⟩ := sx_grd h
  refine sv_cV (pc := 58) (y := qX8_copyFrom) (o := none) (as := [.ref b29]) (V1 := V31) hG dX7_copyFrom_58 l_X7_86 y0X8_copyFrom yvX8_copyFrom rfl (Nat.le_of_ble_eq_true rfl) g33 kr_8 (by decide) (Nat.le_of_ble_eq_true rfl) rfl rfl rfl (t_X8_copyFrom hG ⟨rfl, rfl⟩ g32) ?_
  refine sx_aload_n (pc := 61) dX7_copyFrom_61 sx_m1 ?_
  obtain ⟨b34, g35, h⟩ := sx_bnd h
  refine sv_getA (pc := 62) hG dX7_copyFrom_62 f_7_30 g1 rfl g35 ?_
  refine sx_iconst (pc := 65) (v := 0) dX7_copyFrom_65 (by decide) ?_
  refine sx_aload_n (pc := 66) dX7_copyFrom_66 sx_m0 ?_
  obtain ⟨b36, g37, h⟩ := sx_bnd h
  refine sv_getA (pc := 67) hG dX7_copyFrom_67 f_7_30 g2 rfl g37 ?_
  refine sx_iconst (pc := 70) (v := 0) dX7_copyFrom_70 (by decide) ?_
  refine sx_aload_n (pc := 71) dX7_copyFrom_71 sx_m0 ?_
  refine sv_getA (pc := 72) hG dX7_copyFrom_72 f_7_30 g2 rfl g37 ?_
  obtain ⟨n38, g39, h⟩ := sx_bnd h
  refine sv_alen (pc := 75) hG dX7_copyFrom_75 (by decide) (sv_len_e g39) ?_
  obtain ⟨n40, g41, h⟩ := sx_bnd h
  obtain ⟨g42, h⟩ := sx_grd h
  obtain ⟨g43, h⟩ := sx_grd h
  obtain ⟨V44, hV44⟩ : ∃ z : sv_V, z = sv_C V31 b34 (0 : Int32).toNatClampNeg b36 (0 : Int32).toNatClampNeg (Int32.ofNat n38).toNatClampNeg := ⟨_, rfl⟩
  have h := sx_letE hV44 h
  refine sv_copyI (pc := 76) hG dX7_copyFrom_76 l_X7_80 (sv_len_e g41) (sv_len_e g39) g42 g43 (by decide) (Nat.le_of_ble_eq_true rfl) hV44 ?_
  exact sv_vret (pc := 79) dX7_copyFrom_79 rfl h hP
def ncX8_clearTo : Nat := 457552515509183535440041278741662583125874520626000631205150277925794826632682328171235419493612561184487521490856872057642
theorem kcX8_clearTo : CK cX8_clearTo ncX8_clearTo 51 := ⟨by decide +kernel, by decide +kernel⟩
theorem dX8_clearTo_0 : decode cX8_clearTo 0 = .ok (.aload_n 0, 1) := dl_o42 kcX8_clearTo (by decide +kernel)
theorem dX8_clearTo_1 : decode cX8_clearTo 1 = .ok (.iload_n 1, 1) := dl_o27 kcX8_clearTo (by decide +kernel)
theorem dX8_clearTo_2 : decode cX8_clearTo 2 = .ok (.putfield 43, 3) := dl_o181 kcX8_clearTo (by decide +kernel)
theorem dX8_clearTo_5 : decode cX8_clearTo 5 = .ok (.aload_n 0, 1) := dl_o42 kcX8_clearTo (by decide +kernel)
theorem dX8_clearTo_6 : decode cX8_clearTo 6 = .ok (.iconst 0, 1) := dl_o3 kcX8_clearTo (by decide +kernel)
theorem dX8_clearTo_7 : decode cX8_clearTo 7 = .ok (.putfield 46, 3) := dl_o181 kcX8_clearTo (by decide +kernel)
theorem dX8_clearTo_10 : decode cX8_clearTo 10 = .ok (.aload_n 0, 1) := dl_o42 kcX8_clearTo (by decide +kernel)
theorem dX8_clearTo_11 : decode cX8_clearTo 11 = .ok (.getfield 21, 3) := dl_o180 kcX8_clearTo (by decide +kernel)
theorem dX8_clearTo_14 : decode cX8_clearTo 14 = .ok (.iconst 0, 1) := dl_o3 kcX8_clearTo (by decide +kernel)
theorem dX8_clearTo_15 : decode cX8_clearTo 15 = .ok (.invokestatic 49, 3) := dl_o184 kcX8_clearTo (by decide +kernel)
theorem dX8_clearTo_18 : decode cX8_clearTo 18 = .ok (.aload_n 0, 1) := dl_o42 kcX8_clearTo (by decide +kernel)
theorem dX8_clearTo_19 : decode cX8_clearTo 19 = .ok (.getfield 24, 3) := dl_o180 kcX8_clearTo (by decide +kernel)
theorem dX8_clearTo_22 : decode cX8_clearTo 22 = .ok (.iconst 0, 1) := dl_o3 kcX8_clearTo (by decide +kernel)
theorem dX8_clearTo_23 : decode cX8_clearTo 23 = .ok (.invokestatic 49, 3) := dl_o184 kcX8_clearTo (by decide +kernel)
theorem dX8_clearTo_26 : decode cX8_clearTo 26 = .ok (.aload_n 0, 1) := dl_o42 kcX8_clearTo (by decide +kernel)
theorem dX8_clearTo_27 : decode cX8_clearTo 27 = .ok (.getfield 27, 3) := dl_o180 kcX8_clearTo (by decide +kernel)
theorem dX8_clearTo_30 : decode cX8_clearTo 30 = .ok (.iconst 0, 1) := dl_o3 kcX8_clearTo (by decide +kernel)
theorem dX8_clearTo_31 : decode cX8_clearTo 31 = .ok (.invokestatic 49, 3) := dl_o184 kcX8_clearTo (by decide +kernel)
theorem dX8_clearTo_34 : decode cX8_clearTo 34 = .ok (.aload_n 0, 1) := dl_o42 kcX8_clearTo (by decide +kernel)
theorem dX8_clearTo_35 : decode cX8_clearTo 35 = .ok (.getfield 30, 3) := dl_o180 kcX8_clearTo (by decide +kernel)
theorem dX8_clearTo_38 : decode cX8_clearTo 38 = .ok (.iconst 0, 1) := dl_o3 kcX8_clearTo (by decide +kernel)
theorem dX8_clearTo_39 : decode cX8_clearTo 39 = .ok (.invokestatic 49, 3) := dl_o184 kcX8_clearTo (by decide +kernel)
theorem dX8_clearTo_42 : decode cX8_clearTo 42 = .ok (.aload_n 0, 1) := dl_o42 kcX8_clearTo (by decide +kernel)
theorem dX8_clearTo_43 : decode cX8_clearTo 43 = .ok (.getfield 33, 3) := dl_o180 kcX8_clearTo (by decide +kernel)
theorem dX8_clearTo_46 : decode cX8_clearTo 46 = .ok (.iconst 0, 1) := dl_o3 kcX8_clearTo (by decide +kernel)
theorem dX8_clearTo_47 : decode cX8_clearTo 47 = .ok (.invokestatic 49, 3) := dl_o184 kcX8_clearTo (by decide +kernel)
theorem dX8_clearTo_50 : decode cX8_clearTo 50 = .ok (.return_, 1) := dl_o177 kcX8_clearTo (by decide +kernel)
def F_X8_clearTo (N : Nat) (l0 : Nat) (l1 : Int32) (V : sv_V) : Option sv_V := if lay l0 = .inl 8 then sx_let (sv_I V l0 9 l1) (fun V2 => sx_let (sv_I V2 l0 10 (0 : Int32)) (fun V3 => (cr l0 0).bind (fun b4 => (F_J7_fill_53178 N b4 (0 : Int32) V3).bind (fun V6 => (cr l0 1).bind (fun b8 => (F_J7_fill_53178 N b8 (0 : Int32) V6).bind (fun V10 => (cr l0 2).bind (fun b12 => (F_J7_fill_53178 N b12 (0 : Int32) V10).bind (fun V14 => (cr l0 3).bind (fun b16 => (F_J7_fill_53178 N b16 (0 : Int32) V14).bind (fun V18 => (cr l0 4).bind (fun b20 => (F_J7_fill_53178 N b20 (0 : Int32) V18).bind (fun V22 => some V22)))))))))))) else none
set_option maxRecDepth 20000 in
theorem t_X8_clearTo {g : sx_G} (hG : sx_Go g) {P : Option Value → sv_V → Prop} {Vr : sv_V} (hP : P none Vr) {N : Nat} {l0 : Nat} {l1 : Int32} {V : sv_V} (h : F_X8_clearTo N l0 l1 V = some Vr) : sv_N g qX8_clearTo 1 0 [(0, .ref l0), (1, .int l1)] [] V P := by
  unfold F_X8_clearTo at h
  refine sx_aload_n (pc := 0) dX8_clearTo_0 sx_m0 ?_
  refine sx_iload_n (pc := 1) dX8_clearTo_1 sx_m1 ?_
  obtain ⟨g1, h⟩ := sx_grd h
  obtain ⟨V2, hV2⟩ : ∃ z : sv_V, z = sv_I V l0 9 l1 := ⟨_, rfl⟩
  have h := sx_letE hV2 h
  refine sv_putI (pc := 2) hG dX8_clearTo_2 f_8_43 g1 rfl hV2 ?_
  refine sx_aload_n (pc := 5) dX8_clearTo_5 sx_m0 ?_
  refine sx_iconst (pc := 6) (v := 0) dX8_clearTo_6 (by decide) ?_
  obtain ⟨V3, hV3⟩ : ∃ z : sv_V, z = sv_I V2 l0 10 (0 : Int32) := ⟨_, rfl⟩
  have h := sx_letE hV3 h
  refine sv_putI (pc := 7) hG dX8_clearTo_7 f_8_46 g1 rfl hV3 ?_
  refine sx_aload_n (pc := 10) dX8_clearTo_10 sx_m0 ?_
  obtain ⟨b4, g5, h⟩ := sx_bnd h
  refine sv_getA (pc := 11) hG dX8_clearTo_11 f_8_21 g1 rfl g5 ?_
  refine sx_iconst (pc := 14) (v := 0) dX8_clearTo_14 (by decide) ?_
  obtain ⟨V6, g7, h⟩ := sx_bnd h
  refine sv_cS (pc := 15) (y := qJ7_fill_53178) (o := none) (as := [.ref b4, .int (0 : Int32)]) (V1 := V6) dX8_clearTo_15 l_X8_49 y0J7_fill_53178 ysJ7_fill_53178 rfl (Nat.le_of_ble_eq_true rfl) (by decide) (Nat.le_of_ble_eq_true rfl) rfl rfl rfl (t_J7_fill_53178 hG ⟨rfl, rfl⟩ g7) ?_
  refine sx_aload_n (pc := 18) dX8_clearTo_18 sx_m0 ?_
  obtain ⟨b8, g9, h⟩ := sx_bnd h
  refine sv_getA (pc := 19) hG dX8_clearTo_19 f_8_24 g1 rfl g9 ?_
  refine sx_iconst (pc := 22) (v := 0) dX8_clearTo_22 (by decide) ?_
  obtain ⟨V10, g11, h⟩ := sx_bnd h
  refine sv_cS (pc := 23) (y := qJ7_fill_53178) (o := none) (as := [.ref b8, .int (0 : Int32)]) (V1 := V10) dX8_clearTo_23 l_X8_49 y0J7_fill_53178 ysJ7_fill_53178 rfl (Nat.le_of_ble_eq_true rfl) (by decide) (Nat.le_of_ble_eq_true rfl) rfl rfl rfl (t_J7_fill_53178 hG ⟨rfl, rfl⟩ g11) ?_
  refine sx_aload_n (pc := 26) dX8_clearTo_26 sx_m0 ?_
  obtain ⟨b12, g13, h⟩ := sx_bnd h
  refine sv_getA (pc := 27) hG dX8_clearTo_27 f_8_27 g1 rfl g13 ?_
  refine sx_iconst (pc := 30) (v := 0) dX8_clearTo_30 (by decide) ?_
  obtain ⟨V14, g15, h⟩ := sx_bnd h
  refine sv_cS (pc := 31) (y := qJ7_fill_53178) (o := none) (as := [.ref b12, .int (0 : Int32)]) (V1 := V14) dX8_clearTo_31 l_X8_49 y0J7_fill_53178 ysJ7_fill_53178 rfl (Nat.le_of_ble_eq_true rfl) (by decide) (Nat.le_of_ble_eq_true rfl) rfl rfl rfl (t_J7_fill_53178 hG ⟨rfl, rfl⟩ g15) ?_
  refine sx_aload_n (pc := 34) dX8_clearTo_34 sx_m0 ?_
  obtain ⟨b16, g17, h⟩ := sx_bnd h
  refine sv_getA (pc := 35) hG dX8_clearTo_35 f_8_30 g1 rfl g17 ?_
  refine sx_iconst (pc := 38) (v := 0) dX8_clearTo_38 (by decide) ?_
  obtain ⟨V18, g19, h⟩ := sx_bnd h
  refine sv_cS (pc := 39) (y := qJ7_fill_53178) (o := none) (as := [.ref b16, .int (0 : Int32)]) (V1 := V18) dX8_clearTo_39 l_X8_49 y0J7_fill_53178 ysJ7_fill_53178 rfl (Nat.le_of_ble_eq_true rfl) (by decide) (Nat.le_of_ble_eq_true rfl) rfl rfl rfl (t_J7_fill_53178 hG ⟨rfl, rfl⟩ g19) ?_
  refine sx_aload_n (pc := 42) dX8_clearTo_42 sx_m0 ?_
  obtain ⟨b20, g21, h⟩ := sx_bnd h
  refine sv_getA (pc := 43) hG dX8_clearTo_43 f_8_33 g1 rfl g21 ?_
  refine sx_iconst (pc := 46) (v := 0) dX8_clearTo_46 (by decide) ?_
  obtain ⟨V22, g23, h⟩ := sx_bnd h
  refine sv_cS (pc := 47) (y := qJ7_fill_53178) (o := none) (as := [.ref b20, .int (0 : Int32)]) (V1 := V22) dX8_clearTo_47 l_X8_49 y0J7_fill_53178 ysJ7_fill_53178 rfl (Nat.le_of_ble_eq_true rfl) (by decide) (Nat.le_of_ble_eq_true rfl) rfl rfl rfl (t_J7_fill_53178 hG ⟨rfl, rfl⟩ g23) ?_
  exact sv_vret (pc := 50) dX8_clearTo_50 rfl h hP
def ncX8_liesWithin : Nat := 26476135102815925122148621777577154137279288783081201356138537216430200854684785455728935031015416050920540717464835
theorem kcX8_liesWithin : CK cX8_liesWithin ncX8_liesWithin 48 := ⟨by decide +kernel, by decide +kernel⟩
theorem dX8_liesWithin_0 : decode cX8_liesWithin 0 = .ok (.iconst 0, 1) := dl_o3 kcX8_liesWithin (by decide +kernel)
theorem dX8_liesWithin_1 : decode cX8_liesWithin 1 = .ok (.istore_n 2, 1) := dl_o61 kcX8_liesWithin (by decide +kernel)
theorem dX8_liesWithin_2 : decode cX8_liesWithin 2 = .ok (.iload_n 2, 1) := dl_o28 kcX8_liesWithin (by decide +kernel)
theorem dX8_liesWithin_3 : decode cX8_liesWithin 3 = .ok (.aload_n 0, 1) := dl_o42 kcX8_liesWithin (by decide +kernel)
theorem dX8_liesWithin_4 : decode cX8_liesWithin 4 = .ok (.getfield 43, 3) := dl_o180 kcX8_liesWithin (by decide +kernel)
theorem dX8_liesWithin_7 : decode cX8_liesWithin 7 = .ok (.if_icmp .ge 39, 3) := dl_o162 kcX8_liesWithin 39 (by decide +kernel) (by decide +kernel)
theorem dX8_liesWithin_10 : decode cX8_liesWithin 10 = .ok (.aload_n 0, 1) := dl_o42 kcX8_liesWithin (by decide +kernel)
theorem dX8_liesWithin_11 : decode cX8_liesWithin 11 = .ok (.getfield 21, 3) := dl_o180 kcX8_liesWithin (by decide +kernel)
theorem dX8_liesWithin_14 : decode cX8_liesWithin 14 = .ok (.iload_n 2, 1) := dl_o28 kcX8_liesWithin (by decide +kernel)
theorem dX8_liesWithin_15 : decode cX8_liesWithin 15 = .ok (.iaload, 1) := dl_o46 kcX8_liesWithin (by decide +kernel)
theorem dX8_liesWithin_16 : decode cX8_liesWithin 16 = .ok (.i2l, 1) := dl_o133 kcX8_liesWithin (by decide +kernel)
theorem dX8_liesWithin_17 : decode cX8_liesWithin 17 = .ok (.iload_n 1, 1) := dl_o27 kcX8_liesWithin (by decide +kernel)
theorem dX8_liesWithin_18 : decode cX8_liesWithin 18 = .ok (.invokestatic 65, 3) := dl_o184 kcX8_liesWithin (by decide +kernel)
theorem dX8_liesWithin_21 : decode cX8_liesWithin 21 = .ok (.ifCond .ne 17, 3) := dl_o154 kcX8_liesWithin 17 (by decide +kernel) (by decide +kernel)
theorem dX8_liesWithin_24 : decode cX8_liesWithin 24 = .ok (.aload_n 0, 1) := dl_o42 kcX8_liesWithin (by decide +kernel)
theorem dX8_liesWithin_25 : decode cX8_liesWithin 25 = .ok (.getfield 24, 3) := dl_o180 kcX8_liesWithin (by decide +kernel)
theorem dX8_liesWithin_28 : decode cX8_liesWithin 28 = .ok (.iload_n 2, 1) := dl_o28 kcX8_liesWithin (by decide +kernel)
theorem dX8_liesWithin_29 : decode cX8_liesWithin 29 = .ok (.iaload, 1) := dl_o46 kcX8_liesWithin (by decide +kernel)
theorem dX8_liesWithin_30 : decode cX8_liesWithin 30 = .ok (.i2l, 1) := dl_o133 kcX8_liesWithin (by decide +kernel)
theorem dX8_liesWithin_31 : decode cX8_liesWithin 31 = .ok (.iload_n 1, 1) := dl_o27 kcX8_liesWithin (by decide +kernel)
theorem dX8_liesWithin_32 : decode cX8_liesWithin 32 = .ok (.invokestatic 65, 3) := dl_o184 kcX8_liesWithin (by decide +kernel)
theorem dX8_liesWithin_35 : decode cX8_liesWithin 35 = .ok (.ifCond .eq 5, 3) := dl_o153 kcX8_liesWithin 5 (by decide +kernel) (by decide +kernel)
theorem dX8_liesWithin_38 : decode cX8_liesWithin 38 = .ok (.iconst 0, 1) := dl_o3 kcX8_liesWithin (by decide +kernel)
theorem dX8_liesWithin_39 : decode cX8_liesWithin 39 = .ok (.ireturn, 1) := dl_o172 kcX8_liesWithin (by decide +kernel)
theorem dX8_liesWithin_40 : decode cX8_liesWithin 40 = .ok (.iinc 2 1, 3) := by decide +kernel
theorem dX8_liesWithin_43 : decode cX8_liesWithin 43 = .ok (.goto (-41), 3) := dl_o167 kcX8_liesWithin 65495 (by decide +kernel) (by decide +kernel)
theorem dX8_liesWithin_46 : decode cX8_liesWithin 46 = .ok (.iconst 1, 1) := dl_o4 kcX8_liesWithin (by decide +kernel)
theorem dX8_liesWithin_47 : decode cX8_liesWithin 47 = .ok (.ireturn, 1) := dl_o172 kcX8_liesWithin (by decide +kernel)
def B_X8_liesWithin_2 (N : Nat) (k2 : Nat → Int32 → Int32 → sv_V → Option (Int32 × sv_V)) (l0 : Nat) (l1 : Int32) (l2 : Int32) (V : sv_V) : Option (Int32 × sv_V) := if lay l0 = .inl 8 then if (V.1 l0 9) ≤ l2 then (some ((1 : Int32), V)) else ((cr l0 0).bind (fun b3 => (sv_len 0 b3).bind (fun n5 => if sx_in l2 n5 = true then (F_X11_isBeyond ((V.1 b3 l2.toNatClampNeg).toInt64) l1 V).bind (fun (x10, V8) => if x10 = 0 then ((cr l0 1).bind (fun b12 => (sv_len 0 b12).bind (fun n14 => if sx_in l2 n14 = true then (F_X11_isBeyond ((V8.1 b12 l2.toNatClampNeg).toInt64) l1 V8).bind (fun (x19, V17) => if x19 = 0 then (sx_let (l2 + 1) (fun x21 => k2 l0 l1 x21 V17)) else (some ((0 : Int32), V17))) else none))) else (some ((0 : Int32), V8))) else none))) else none
set_option maxRecDepth 20000 in
theorem tB_X8_liesWithin_2 {g : sx_G} (hG : sx_Go g) {P : Option Value → sv_V → Prop} {r : Int32} {Vr : sv_V} (hP : P (some (.int r)) Vr) {N : Nat} {k2 : Nat → Int32 → Int32 → sv_V → Option (Int32 × sv_V)} (hk2 : ∀ (l0 : Nat) (l1 : Int32) (l2 : Int32) (V : sv_V), k2 l0 l1 l2 V = some (r, Vr) → sv_N g qX8_liesWithin 1 2 [(0, .ref l0), (1, .int l1), (2, .int l2)] [] V P) {l0 : Nat} {l1 : Int32} {l2 : Int32} {V : sv_V} (h : B_X8_liesWithin_2 N k2 l0 l1 l2 V = some (r, Vr)) : sv_N g qX8_liesWithin 1 2 [(0, .ref l0), (1, .int l1), (2, .int l2)] [] V P := by
  unfold B_X8_liesWithin_2 at h
  refine sx_iload_n (pc := 2) dX8_liesWithin_2 sx_m2 ?_
  refine sx_aload_n (pc := 3) dX8_liesWithin_3 sx_m0 ?_
  obtain ⟨g1, h⟩ := sx_grd h
  refine sv_getI (pc := 4) hG dX8_liesWithin_4 f_8_43 g1 rfl ?_
  refine sx_icmp_ge (pc := 7) (tgt := 46) dX8_liesWithin_7 (by decide) (fun c2 => ?_) (fun c2 => ?_)
  · have h := sx_pos c2 h
    refine sx_iconst (pc := 46) (v := 1) dX8_liesWithin_46 (by decide) ?_
    exact sv_zret (pc := 47) dX8_liesWithin_47 rfl rfl h hP
  · have h := sx_neg c2 h
    refine sx_aload_n (pc := 10) dX8_liesWithin_10 sx_m0 ?_
    obtain ⟨b3, g4, h⟩ := sx_bnd h
    refine sv_getA (pc := 11) hG dX8_liesWithin_11 f_8_21 g1 rfl g4 ?_
    refine sx_iload_n (pc := 14) dX8_liesWithin_14 sx_m2 ?_
    obtain ⟨n5, g6, h⟩ := sx_bnd h
    obtain ⟨g7, h⟩ := sx_grd h
    refine sv_iald (pc := 15) hG dX8_liesWithin_15 (sv_len_e g6) g7 ?_
    refine sx_i2l (pc := 16) dX8_liesWithin_16 ?_
    refine sx_iload_n (pc := 17) dX8_liesWithin_17 sx_m1 ?_
    obtain ⟨⟨x10, V8⟩, g9, h⟩ := sx_bnd h
    refine sv_cN (pc := 18) (y := qX11_isBeyond) (o := (some (.int x10))) (as := [.long ((V.1 b3 l2.toNatClampNeg).toInt64), .int l1]) (V1 := V8) dX8_liesWithin_18 n_X8_65 y0X11_isBeyond ysX11_isBeyond rfl (Nat.le_of_ble_eq_true rfl) (by decide) (Nat.le_of_ble_eq_true rfl) rfl rfl rfl (t_X11_isBeyond hG ⟨rfl, rfl⟩ g9) ?_
    refine sx_if_ne (pc := 21) (tgt := 38) dX8_liesWithin_21 (by decide) (fun c11 => ?_) (fun c11 => ?_)
    · have h := sx_neg c11 h
      refine sx_iconst (pc := 38) (v := 0) dX8_liesWithin_38 (by decide) ?_
      exact sv_zret (pc := 39) dX8_liesWithin_39 rfl rfl h hP
    · have h := sx_pos c11 h
      refine sx_aload_n (pc := 24) dX8_liesWithin_24 sx_m0 ?_
      obtain ⟨b12, g13, h⟩ := sx_bnd h
      refine sv_getA (pc := 25) hG dX8_liesWithin_25 f_8_24 g1 rfl g13 ?_
      refine sx_iload_n (pc := 28) dX8_liesWithin_28 sx_m2 ?_
      obtain ⟨n14, g15, h⟩ := sx_bnd h
      obtain ⟨g16, h⟩ := sx_grd h
      refine sv_iald (pc := 29) hG dX8_liesWithin_29 (sv_len_e g15) g16 ?_
      refine sx_i2l (pc := 30) dX8_liesWithin_30 ?_
      refine sx_iload_n (pc := 31) dX8_liesWithin_31 sx_m1 ?_
      obtain ⟨⟨x19, V17⟩, g18, h⟩ := sx_bnd h
      refine sv_cN (pc := 32) (y := qX11_isBeyond) (o := (some (.int x19))) (as := [.long ((V8.1 b12 l2.toNatClampNeg).toInt64), .int l1]) (V1 := V17) dX8_liesWithin_32 n_X8_65 y0X11_isBeyond ysX11_isBeyond rfl (Nat.le_of_ble_eq_true rfl) (by decide) (Nat.le_of_ble_eq_true rfl) rfl rfl rfl (t_X11_isBeyond hG ⟨rfl, rfl⟩ g18) ?_
      refine sx_if_eq (pc := 35) (tgt := 40) dX8_liesWithin_35 (by decide) (fun c20 => ?_) (fun c20 => ?_)
      · have h := sx_pos c20 h
        obtain ⟨x21, hx21⟩ : ∃ z : Int32, z = l2 + 1 := ⟨_, rfl⟩
        have h := sx_letE hx21 h
        refine sx_iinc (pc := 40) (v := x21) (lo' := [(2, .int x21), (0, .ref l0), (1, .int l1)]) dX8_liesWithin_40 sx_m2 (by rw [hx21]; rfl) (by decide) rfl ?_
        refine sx_goto (pc := 43) (tgt := 2) dX8_liesWithin_43 (by decide) ?_
        refine sx_wk (sx_s1 sx_m1 (sx_s1 sx_m2 (sx_s1 sx_m0 sx_s0))) ?_
        exact hk2 _ _ _ _ h
      · have h := sx_neg c20 h
        refine sx_iconst (pc := 38) (v := 0) dX8_liesWithin_38 (by decide) ?_
        exact sv_zret (pc := 39) dX8_liesWithin_39 rfl rfl h hP
theorem tL_X8_liesWithin_2 {g : sx_G} (hG : sx_Go g) {P : Option Value → sv_V → Prop} {r : Int32} {Vr : sv_V} (hP : P (some (.int r)) Vr) {N : Nat}   : ∀ (n : Nat) (l0 : Nat) (l1 : Int32) (l2 : Int32) (V : sv_V), sx_lp4 (B_X8_liesWithin_2 N ) n l0 l1 l2 V = some (r, Vr) → sv_N g qX8_liesWithin 1 2 [(0, .ref l0), (1, .int l1), (2, .int l2)] [] V P :=
  sx_lp4_ind (fun k0 ih _ _ _ V h => tB_X8_liesWithin_2 hG hP ih h)
def F_X8_liesWithin (N : Nat) (l0 : Nat) (l1 : Int32) (V : sv_V) : Option (Int32 × sv_V) := sx_lp4 (B_X8_liesWithin_2 N ) N l0 l1 (0 : Int32) V
set_option maxRecDepth 20000 in
theorem t_X8_liesWithin {g : sx_G} (hG : sx_Go g) {P : Option Value → sv_V → Prop} {r : Int32} {Vr : sv_V} (hP : P (some (.int r)) Vr) {N : Nat} {l0 : Nat} {l1 : Int32} {V : sv_V} (h : F_X8_liesWithin N l0 l1 V = some (r, Vr)) : sv_N g qX8_liesWithin 1 0 [(0, .ref l0), (1, .int l1)] [] V P := by
  unfold F_X8_liesWithin at h
  refine sx_iconst (pc := 0) (v := 0) dX8_liesWithin_0 (by decide) ?_
  refine sx_istore_n (pc := 1) (lo' := [(2, .int (0 : Int32)), (0, .ref l0), (1, .int l1)]) dX8_liesWithin_1 (by decide) rfl ?_
  refine sx_wk (sx_s1 sx_m1 (sx_s1 sx_m2 (sx_s1 sx_m0 sx_s0))) ?_
  exact tL_X8_liesWithin_2 hG hP  N _ _ _ _ h
def ncX9_goAlong : Nat := 7675611227628736051340068656571755411080077609303597890390845938169039728653987665411273346727748492414100773053621149494182943530
theorem kcX9_goAlong : CK cX9_goAlong ncX9_goAlong 54 := ⟨by decide +kernel, by decide +kernel⟩
theorem dX9_goAlong_0 : decode cX9_goAlong 0 = .ok (.aload_n 0, 1) := dl_o42 kcX9_goAlong (by decide +kernel)
theorem dX9_goAlong_1 : decode cX9_goAlong 1 = .ok (.iload_n 1, 1) := dl_o27 kcX9_goAlong (by decide +kernel)
theorem dX9_goAlong_2 : decode cX9_goAlong 2 = .ok (.iconst 1, 1) := dl_o4 kcX9_goAlong (by decide +kernel)
theorem dX9_goAlong_3 : decode cX9_goAlong 3 = .ok (.iand, 1) := dl_o126 kcX9_goAlong (by decide +kernel)
theorem dX9_goAlong_4 : decode cX9_goAlong 4 = .ok (.iconst 1, 1) := dl_o4 kcX9_goAlong (by decide +kernel)
theorem dX9_goAlong_5 : decode cX9_goAlong 5 = .ok (.if_icmp .ne 9, 3) := dl_o160 kcX9_goAlong 9 (by decide +kernel) (by decide +kernel)
theorem dX9_goAlong_8 : decode cX9_goAlong 8 = .ok (.sipush 16384, 3) := dl_o17 kcX9_goAlong 16384 (by decide +kernel) (by decide +kernel)
theorem dX9_goAlong_11 : decode cX9_goAlong 11 = .ok (.goto 4, 3) := dl_o167 kcX9_goAlong 4 (by decide +kernel) (by decide +kernel)
theorem dX9_goAlong_14 : decode cX9_goAlong 14 = .ok (.iconst 0, 1) := dl_o3 kcX9_goAlong (by decide +kernel)
theorem dX9_goAlong_15 : decode cX9_goAlong 15 = .ok (.putfield 35, 3) := dl_o181 kcX9_goAlong (by decide +kernel)
theorem dX9_goAlong_18 : decode cX9_goAlong 18 = .ok (.aload_n 0, 1) := dl_o42 kcX9_goAlong (by decide +kernel)
theorem dX9_goAlong_19 : decode cX9_goAlong 19 = .ok (.sipush 16384, 3) := dl_o17 kcX9_goAlong 16384 (by decide +kernel) (by decide +kernel)
theorem dX9_goAlong_22 : decode cX9_goAlong 22 = .ok (.aload_n 0, 1) := dl_o42 kcX9_goAlong (by decide +kernel)
theorem dX9_goAlong_23 : decode cX9_goAlong 23 = .ok (.getfield 35, 3) := dl_o180 kcX9_goAlong (by decide +kernel)
theorem dX9_goAlong_26 : decode cX9_goAlong 26 = .ok (.isub, 1) := dl_o100 kcX9_goAlong (by decide +kernel)
theorem dX9_goAlong_27 : decode cX9_goAlong 27 = .ok (.putfield 38, 3) := dl_o181 kcX9_goAlong (by decide +kernel)
theorem dX9_goAlong_30 : decode cX9_goAlong 30 = .ok (.iload_n 1, 1) := dl_o27 kcX9_goAlong (by decide +kernel)
theorem dX9_goAlong_31 : decode cX9_goAlong 31 = .ok (.iconst 4, 1) := dl_o7 kcX9_goAlong (by decide +kernel)
theorem dX9_goAlong_32 : decode cX9_goAlong 32 = .ok (.if_icmp .ge 7, 3) := dl_o162 kcX9_goAlong 7 (by decide +kernel) (by decide +kernel)
theorem dX9_goAlong_35 : decode cX9_goAlong 35 = .ok (.aload_n 0, 1) := dl_o42 kcX9_goAlong (by decide +kernel)
theorem dX9_goAlong_36 : decode cX9_goAlong 36 = .ok (.invokevirtual 41, 3) := dl_o182 kcX9_goAlong (by decide +kernel)
theorem dX9_goAlong_39 : decode cX9_goAlong 39 = .ok (.iload_n 1, 1) := dl_o27 kcX9_goAlong (by decide +kernel)
theorem dX9_goAlong_40 : decode cX9_goAlong 40 = .ok (.iconst 2, 1) := dl_o5 kcX9_goAlong (by decide +kernel)
theorem dX9_goAlong_41 : decode cX9_goAlong 41 = .ok (.if_icmp .lt 8, 3) := dl_o161 kcX9_goAlong 8 (by decide +kernel) (by decide +kernel)
theorem dX9_goAlong_44 : decode cX9_goAlong 44 = .ok (.iload_n 1, 1) := dl_o27 kcX9_goAlong (by decide +kernel)
theorem dX9_goAlong_45 : decode cX9_goAlong 45 = .ok (.iconst 3, 1) := dl_o6 kcX9_goAlong (by decide +kernel)
theorem dX9_goAlong_46 : decode cX9_goAlong 46 = .ok (.if_icmp .le 7, 3) := dl_o164 kcX9_goAlong 7 (by decide +kernel) (by decide +kernel)
theorem dX9_goAlong_49 : decode cX9_goAlong 49 = .ok (.aload_n 0, 1) := dl_o42 kcX9_goAlong (by decide +kernel)
theorem dX9_goAlong_50 : decode cX9_goAlong 50 = .ok (.invokevirtual 44, 3) := dl_o182 kcX9_goAlong (by decide +kernel)
theorem dX9_goAlong_53 : decode cX9_goAlong 53 = .ok (.return_, 1) := dl_o177 kcX9_goAlong (by decide +kernel)
def B_X9_goAlong_49   (V : sv_V) : Option sv_V := (F_X9_useWayForF  V).bind (fun V1 => some V1)
set_option maxRecDepth 20000 in
theorem tB_X9_goAlong_49 {g : sx_G} (hG : sx_Go g) {P : Option Value → sv_V → Prop} {Vr : sv_V} (hP : P none Vr)    {V : sv_V} (h : B_X9_goAlong_49   V = some Vr) : sv_N g qX9_goAlong 1 49 [(0, .ref 70)] [] V P := by
  unfold B_X9_goAlong_49 at h
  refine sx_aload_n (pc := 49) dX9_goAlong_49 sx_m0 ?_
  obtain ⟨V1, g2, h⟩ := sx_bnd h
  refine sv_cV (pc := 50) (y := qX9_useWayForF) (o := none) (as := []) (V1 := V1) hG dX9_goAlong_50 l_X9_44 y0X9_useWayForF yvX9_useWayForF rfl (Nat.le_of_ble_eq_true rfl) lay_70 kr_9 (by decide) (Nat.le_of_ble_eq_true rfl) rfl rfl rfl (t_X9_useWayForF hG ⟨rfl, rfl⟩ g2) ?_
  exact sv_vret (pc := 53) dX9_goAlong_53 rfl h hP
def B_X9_goAlong_39  (l1 : Int32) (V : sv_V) : Option sv_V := if l1 < (2 : Int32) then (B_X9_goAlong_49   V) else (if l1 ≤ (3 : Int32) then (some V) else (B_X9_goAlong_49   V))
set_option maxRecDepth 20000 in
theorem tB_X9_goAlong_39 {g : sx_G} (hG : sx_Go g) {P : Option Value → sv_V → Prop} {Vr : sv_V} (hP : P none Vr)   {l1 : Int32} {V : sv_V} (h : B_X9_goAlong_39  l1 V = some Vr) : sv_N g qX9_goAlong 1 39 [(0, .ref 70), (1, .int l1)] [] V P := by
  unfold B_X9_goAlong_39 at h
  refine sx_iload_n (pc := 39) dX9_goAlong_39 sx_m1 ?_
  refine sx_iconst (pc := 40) (v := 2) dX9_goAlong_40 (by decide) ?_
  refine sx_icmp_lt (pc := 41) (tgt := 49) dX9_goAlong_41 (by decide) (fun c3 => ?_) (fun c3 => ?_)
  · have h := sx_pos c3 h
    refine sx_wk (sx_s1 sx_m0 sx_s0) ?_
    exact tB_X9_goAlong_49 hG hP  h
  · have h := sx_neg c3 h
    refine sx_iload_n (pc := 44) dX9_goAlong_44 sx_m1 ?_
    refine sx_iconst (pc := 45) (v := 3) dX9_goAlong_45 (by decide) ?_
    refine sx_icmp_le (pc := 46) (tgt := 53) dX9_goAlong_46 (by decide) (fun c4 => ?_) (fun c4 => ?_)
    · have h := sx_pos c4 h
      exact sv_vret (pc := 53) dX9_goAlong_53 rfl h hP
    · have h := sx_neg c4 h
      refine sx_wk (sx_s1 sx_m0 sx_s0) ?_
      exact tB_X9_goAlong_49 hG hP  h
def B_X9_goAlong_15  (l1 : Int32) (s1 : Int32) (V : sv_V) : Option sv_V := sx_let (sv_I V 70 12 s1) (fun V5 => sx_let (sv_I V5 70 13 ((16384 : Int32) - (V5.1 70 12))) (fun V6 => if (4 : Int32) ≤ l1 then (B_X9_goAlong_39  l1 V6) else ((F_X9_useWayForP  V6).bind (fun V8 => B_X9_goAlong_39  l1 V8))))
set_option maxRecDepth 20000 in
theorem tB_X9_goAlong_15 {g : sx_G} (hG : sx_Go g) {P : Option Value → sv_V → Prop} {Vr : sv_V} (hP : P none Vr)   {l1 : Int32} {s1 : Int32} {V : sv_V} (h : B_X9_goAlong_15  l1 s1 V = some Vr) : sv_N g qX9_goAlong 1 15 [(0, .ref 70), (1, .int l1)] [.int s1, .ref 70] V P := by
  unfold B_X9_goAlong_15 at h
  obtain ⟨V5, hV5⟩ : ∃ z : sv_V, z = sv_I V 70 12 s1 := ⟨_, rfl⟩
  have h := sx_letE hV5 h
  refine sv_putI (pc := 15) hG dX9_goAlong_15 f_9_35 lay_70 rfl hV5 ?_
  refine sx_aload_n (pc := 18) dX9_goAlong_18 sx_m0 ?_
  refine sx_sipush (pc := 19) (v := 16384) dX9_goAlong_19 (by decide) ?_
  refine sx_aload_n (pc := 22) dX9_goAlong_22 sx_m0 ?_
  refine sv_getI (pc := 23) hG dX9_goAlong_23 f_9_35 lay_70 rfl ?_
  refine sx_isub (pc := 26) dX9_goAlong_26 ?_
  obtain ⟨V6, hV6⟩ : ∃ z : sv_V, z = sv_I V5 70 13 ((16384 : Int32) - (V5.1 70 12)) := ⟨_, rfl⟩
  have h := sx_letE hV6 h
  refine sv_putI (pc := 27) hG dX9_goAlong_27 f_9_38 lay_70 rfl hV6 ?_
  refine sx_iload_n (pc := 30) dX9_goAlong_30 sx_m1 ?_
  refine sx_iconst (pc := 31) (v := 4) dX9_goAlong_31 (by decide) ?_
  refine sx_icmp_ge (pc := 32) (tgt := 39) dX9_goAlong_32 (by decide) (fun c7 => ?_) (fun c7 => ?_)
  · have h := sx_pos c7 h
    refine sx_wk (sx_s1 sx_m0 (sx_s1 sx_m1 sx_s0)) ?_
    exact tB_X9_goAlong_39 hG hP  h
  · have h := sx_neg c7 h
    refine sx_aload_n (pc := 35) dX9_goAlong_35 sx_m0 ?_
    obtain ⟨V8, g9, h⟩ := sx_bnd h
    refine sv_cV (pc := 36) (y := qX9_useWayForP) (o := none) (as := []) (V1 := V8) hG dX9_goAlong_36 l_X9_41 y0X9_useWayForP yvX9_useWayForP rfl (Nat.le_of_ble_eq_true rfl) lay_70 kr_9 (by decide) (Nat.le_of_ble_eq_true rfl) rfl rfl rfl (t_X9_useWayForP hG ⟨rfl, rfl⟩ g9) ?_
    refine sx_wk (sx_s1 sx_m0 (sx_s1 sx_m1 sx_s0)) ?_
    exact tB_X9_goAlong_39 hG hP  h
def F_X9_goAlong (l1 : Int32) (V : sv_V) : Option sv_V := if (l1 &&& (1 : Int32)) = (1 : Int32) then (B_X9_goAlong_15  l1 (16384 : Int32) V) else (B_X9_goAlong_15  l1 (0 : Int32) V)
set_option maxRecDepth 20000 in
theorem t_X9_goAlong {g : sx_G} (hG : sx_Go g) {P : Option Value → sv_V → Prop} {Vr : sv_V} (hP : P none Vr) {l1 : Int32} {V : sv_V} (h : F_X9_goAlong l1 V = some Vr) : sv_N g qX9_goAlong 1 0 [(0, .ref 70), (1, .int l1)] [] V P := by
  unfold F_X9_goAlong at h
  refine sx_aload_n (pc := 0) dX9_goAlong_0 sx_m0 ?_
  refine sx_iload_n (pc := 1) dX9_goAlong_1 sx_m1 ?_
  refine sx_iconst (pc := 2) (v := 1) dX9_goAlong_2 (by decide) ?_
  refine sx_iand (pc := 3) dX9_goAlong_3 ?_
  refine sx_iconst (pc := 4) (v := 1) dX9_goAlong_4 (by decide) ?_
  refine sx_icmp_ne (pc := 5) (tgt := 14) dX9_goAlong_5 (by decide) (fun c10 => ?_) (fun c10 => ?_)
  · have h := sx_neg c10 h
    refine sx_iconst (pc := 14) (v := 0) dX9_goAlong_14 (by decide) ?_
    refine sx_wk (sx_s1 sx_m0 (sx_s1 sx_m1 sx_s0)) ?_
    exact tB_X9_goAlong_15 hG hP  h
  · have h := sx_pos c10 h
    refine sx_sipush (pc := 8) (v := 16384) dX9_goAlong_8 (by decide) ?_
    refine sx_goto (pc := 11) (tgt := 15) dX9_goAlong_11 (by decide) ?_
    refine sx_wk (sx_s1 sx_m0 (sx_s1 sx_m1 sx_s0)) ?_
    exact tB_X9_goAlong_15 hG hP  h
def ncX9_findWay : Nat := 19817724180910278542338186745074476372860268329916860861577445817259395474642117590000308851145491530540473010229159897397596718379422524210018176969402768097482777382187780313171021708983504092396964218834948254856846152248236704597387485712521365791
theorem kcX9_findWay : CK cX9_findWay ncX9_findWay 104 := ⟨by decide +kernel, by decide +kernel⟩
theorem dX9_findWay_0 : decode cX9_findWay 0 = .ok (.lload_n 1, 1) := dl_o31 kcX9_findWay (by decide +kernel)
theorem dX9_findWay_1 : decode cX9_findWay 1 = .ok (.lconst 0, 1) := dl_o9 kcX9_findWay (by decide +kernel)
theorem dX9_findWay_2 : decode cX9_findWay 2 = .ok (.lcmp, 1) := dl_o148 kcX9_findWay (by decide +kernel)
theorem dX9_findWay_3 : decode cX9_findWay 3 = .ok (.ifCond .ne 22, 3) := dl_o154 kcX9_findWay 22 (by decide +kernel) (by decide +kernel)
theorem dX9_findWay_6 : decode cX9_findWay 6 = .ok (.lload_n 3, 1) := dl_o33 kcX9_findWay (by decide +kernel)
theorem dX9_findWay_7 : decode cX9_findWay 7 = .ok (.lconst 0, 1) := dl_o9 kcX9_findWay (by decide +kernel)
theorem dX9_findWay_8 : decode cX9_findWay 8 = .ok (.lcmp, 1) := dl_o148 kcX9_findWay (by decide +kernel)
theorem dX9_findWay_9 : decode cX9_findWay 9 = .ok (.ifCond .ne 16, 3) := dl_o154 kcX9_findWay 16 (by decide +kernel) (by decide +kernel)
theorem dX9_findWay_12 : decode cX9_findWay 12 = .ok (.aload_n 0, 1) := dl_o42 kcX9_findWay (by decide +kernel)
theorem dX9_findWay_13 : decode cX9_findWay 13 = .ok (.sipush 16384, 3) := dl_o17 kcX9_findWay 16384 (by decide +kernel) (by decide +kernel)
theorem dX9_findWay_16 : decode cX9_findWay 16 = .ok (.putfield 35, 3) := dl_o181 kcX9_findWay (by decide +kernel)
theorem dX9_findWay_19 : decode cX9_findWay 19 = .ok (.aload_n 0, 1) := dl_o42 kcX9_findWay (by decide +kernel)
theorem dX9_findWay_20 : decode cX9_findWay 20 = .ok (.iconst 0, 1) := dl_o3 kcX9_findWay (by decide +kernel)
theorem dX9_findWay_21 : decode cX9_findWay 21 = .ok (.putfield 38, 3) := dl_o181 kcX9_findWay (by decide +kernel)
theorem dX9_findWay_24 : decode cX9_findWay 24 = .ok (.return_, 1) := dl_o177 kcX9_findWay (by decide +kernel)
theorem dX9_findWay_25 : decode cX9_findWay 25 = .ok (.iconst 0, 1) := dl_o3 kcX9_findWay (by decide +kernel)
theorem dX9_findWay_26 : decode cX9_findWay 26 = .ok (.istore 5, 2) := dl_o54 kcX9_findWay (by decide +kernel)
theorem dX9_findWay_28 : decode cX9_findWay 28 = .ok (.iload 5, 2) := dl_o21 kcX9_findWay (by decide +kernel)
theorem dX9_findWay_30 : decode cX9_findWay 30 = .ok (.bipush 64, 2) := dl_o16 kcX9_findWay 64 (by decide +kernel) (by decide +kernel)
theorem dX9_findWay_32 : decode cX9_findWay 32 = .ok (.if_icmp .ge 41, 3) := dl_o162 kcX9_findWay 41 (by decide +kernel) (by decide +kernel)
theorem dX9_findWay_35 : decode cX9_findWay 35 = .ok (.lload_n 1, 1) := dl_o31 kcX9_findWay (by decide +kernel)
theorem dX9_findWay_36 : decode cX9_findWay 36 = .ok (.sipush 30000, 3) := dl_o17 kcX9_findWay 30000 (by decide +kernel) (by decide +kernel)
theorem dX9_findWay_39 : decode cX9_findWay 39 = .ok (.invokestatic 65, 3) := dl_o184 kcX9_findWay (by decide +kernel)
theorem dX9_findWay_42 : decode cX9_findWay 42 = .ok (.ifCond .ne 13, 3) := dl_o154 kcX9_findWay 13 (by decide +kernel) (by decide +kernel)
theorem dX9_findWay_45 : decode cX9_findWay 45 = .ok (.lload_n 3, 1) := dl_o33 kcX9_findWay (by decide +kernel)
theorem dX9_findWay_46 : decode cX9_findWay 46 = .ok (.sipush 30000, 3) := dl_o17 kcX9_findWay 30000 (by decide +kernel) (by decide +kernel)
theorem dX9_findWay_49 : decode cX9_findWay 49 = .ok (.invokestatic 65, 3) := dl_o184 kcX9_findWay (by decide +kernel)
theorem dX9_findWay_52 : decode cX9_findWay 52 = .ok (.ifCond .eq 21, 3) := dl_o153 kcX9_findWay 21 (by decide +kernel) (by decide +kernel)
theorem dX9_findWay_55 : decode cX9_findWay 55 = .ok (.lload_n 1, 1) := dl_o31 kcX9_findWay (by decide +kernel)
theorem dX9_findWay_56 : decode cX9_findWay 56 = .ok (.ldc2_w 69, 3) := dl_o20 kcX9_findWay (by decide +kernel)
theorem dX9_findWay_59 : decode cX9_findWay 59 = .ok (.ldiv, 1) := dl_o109 kcX9_findWay (by decide +kernel)
theorem dX9_findWay_60 : decode cX9_findWay 60 = .ok (.lstore_n 1, 1) := dl_o64 kcX9_findWay (by decide +kernel)
theorem dX9_findWay_61 : decode cX9_findWay 61 = .ok (.lload_n 3, 1) := dl_o33 kcX9_findWay (by decide +kernel)
theorem dX9_findWay_62 : decode cX9_findWay 62 = .ok (.ldc2_w 69, 3) := dl_o20 kcX9_findWay (by decide +kernel)
theorem dX9_findWay_65 : decode cX9_findWay 65 = .ok (.ldiv, 1) := dl_o109 kcX9_findWay (by decide +kernel)
theorem dX9_findWay_66 : decode cX9_findWay 66 = .ok (.lstore_n 3, 1) := dl_o66 kcX9_findWay (by decide +kernel)
theorem dX9_findWay_67 : decode cX9_findWay 67 = .ok (.iinc 5 1, 3) := by decide +kernel
theorem dX9_findWay_70 : decode cX9_findWay 70 = .ok (.goto (-42), 3) := dl_o167 kcX9_findWay 65494 (by decide +kernel) (by decide +kernel)
theorem dX9_findWay_73 : decode cX9_findWay 73 = .ok (.aload_n 0, 1) := dl_o42 kcX9_findWay (by decide +kernel)
theorem dX9_findWay_74 : decode cX9_findWay 74 = .ok (.lload_n 1, 1) := dl_o31 kcX9_findWay (by decide +kernel)
theorem dX9_findWay_75 : decode cX9_findWay 75 = .ok (.lload_n 1, 1) := dl_o31 kcX9_findWay (by decide +kernel)
theorem dX9_findWay_76 : decode cX9_findWay 76 = .ok (.lload_n 1, 1) := dl_o31 kcX9_findWay (by decide +kernel)
theorem dX9_findWay_77 : decode cX9_findWay 77 = .ok (.lmul, 1) := dl_o105 kcX9_findWay (by decide +kernel)
theorem dX9_findWay_78 : decode cX9_findWay 78 = .ok (.lload_n 3, 1) := dl_o33 kcX9_findWay (by decide +kernel)
theorem dX9_findWay_79 : decode cX9_findWay 79 = .ok (.lload_n 3, 1) := dl_o33 kcX9_findWay (by decide +kernel)
theorem dX9_findWay_80 : decode cX9_findWay 80 = .ok (.lmul, 1) := dl_o105 kcX9_findWay (by decide +kernel)
theorem dX9_findWay_81 : decode cX9_findWay 81 = .ok (.ladd, 1) := dl_o97 kcX9_findWay (by decide +kernel)
theorem dX9_findWay_82 : decode cX9_findWay 82 = .ok (.invokestatic 71, 3) := dl_o184 kcX9_findWay (by decide +kernel)
theorem dX9_findWay_85 : decode cX9_findWay 85 = .ok (.putfield 35, 3) := dl_o181 kcX9_findWay (by decide +kernel)
theorem dX9_findWay_88 : decode cX9_findWay 88 = .ok (.aload_n 0, 1) := dl_o42 kcX9_findWay (by decide +kernel)
theorem dX9_findWay_89 : decode cX9_findWay 89 = .ok (.lload_n 3, 1) := dl_o33 kcX9_findWay (by decide +kernel)
theorem dX9_findWay_90 : decode cX9_findWay 90 = .ok (.lload_n 1, 1) := dl_o31 kcX9_findWay (by decide +kernel)
theorem dX9_findWay_91 : decode cX9_findWay 91 = .ok (.lload_n 1, 1) := dl_o31 kcX9_findWay (by decide +kernel)
theorem dX9_findWay_92 : decode cX9_findWay 92 = .ok (.lmul, 1) := dl_o105 kcX9_findWay (by decide +kernel)
theorem dX9_findWay_93 : decode cX9_findWay 93 = .ok (.lload_n 3, 1) := dl_o33 kcX9_findWay (by decide +kernel)
theorem dX9_findWay_94 : decode cX9_findWay 94 = .ok (.lload_n 3, 1) := dl_o33 kcX9_findWay (by decide +kernel)
theorem dX9_findWay_95 : decode cX9_findWay 95 = .ok (.lmul, 1) := dl_o105 kcX9_findWay (by decide +kernel)
theorem dX9_findWay_96 : decode cX9_findWay 96 = .ok (.ladd, 1) := dl_o97 kcX9_findWay (by decide +kernel)
theorem dX9_findWay_97 : decode cX9_findWay 97 = .ok (.invokestatic 71, 3) := dl_o184 kcX9_findWay (by decide +kernel)
theorem dX9_findWay_100 : decode cX9_findWay 100 = .ok (.putfield 38, 3) := dl_o181 kcX9_findWay (by decide +kernel)
theorem dX9_findWay_103 : decode cX9_findWay 103 = .ok (.return_, 1) := dl_o177 kcX9_findWay (by decide +kernel)
def B_X9_findWay_55 (N : Nat) (k28 : Int64 → Int64 → Int32 → sv_V → Option sv_V) (l1 : Int64) (l3 : Int64) (l5 : Int32) (V : sv_V) : Option sv_V := sx_let (l1 / (2 : Int64)) (fun x1 => sx_let (l3 / (2 : Int64)) (fun x2 => sx_let (l5 + 1) (fun x3 => k28 x1 x2 x3 V)))
set_option maxRecDepth 20000 in
theorem tB_X9_findWay_55 {g : sx_G} (hG : sx_Go g) {P : Option Value → sv_V → Prop} {Vr : sv_V} (hP : P none Vr) {N : Nat} {k28 : Int64 → Int64 → Int32 → sv_V → Option sv_V} (hk28 : ∀ (l1 : Int64) (l3 : Int64) (l5 : Int32) (V : sv_V), k28 l1 l3 l5 V = some Vr → sv_N g qX9_findWay 1 28 [(0, .ref 70), (1, .long l1), (3, .long l3), (5, .int l5)] [] V P) {l1 : Int64} {l3 : Int64} {l5 : Int32} {V : sv_V} (h : B_X9_findWay_55 N k28 l1 l3 l5 V = some Vr) : sv_N g qX9_findWay 1 55 [(0, .ref 70), (1, .long l1), (3, .long l3), (5, .int l5)] [] V P := by
  unfold B_X9_findWay_55 at h
  refine sx_lload_n (pc := 55) dX9_findWay_55 sx_m1 ?_
  refine sx_ldc2 (pc := 56) dX9_findWay_56 k_X9_69 ?_
  refine sx_ldiv (pc := 59) dX9_findWay_59 (by decide) ?_
  refine sv_tJ (fun x1 hx1 => ?_)
  have h := sx_letE hx1 h
  refine sx_lstore_n (pc := 60) (lo' := [(1, .long x1), (0, .ref 70), (3, .long l3), (5, .int l5)]) dX9_findWay_60 (by decide) rfl ?_
  refine sx_lload_n (pc := 61) dX9_findWay_61 sx_m2 ?_
  refine sx_ldc2 (pc := 62) dX9_findWay_62 k_X9_69 ?_
  refine sx_ldiv (pc := 65) dX9_findWay_65 (by decide) ?_
  refine sv_tJ (fun x2 hx2 => ?_)
  have h := sx_letE hx2 h
  refine sx_lstore_n (pc := 66) (lo' := [(3, .long x2), (1, .long x1), (0, .ref 70), (5, .int l5)]) dX9_findWay_66 (by decide) rfl ?_
  obtain ⟨x3, hx3⟩ : ∃ z : Int32, z = l5 + 1 := ⟨_, rfl⟩
  have h := sx_letE hx3 h
  refine sx_iinc (pc := 67) (v := x3) (lo' := [(5, .int x3), (3, .long x2), (1, .long x1), (0, .ref 70)]) dX9_findWay_67 sx_m3 (by rw [hx3]; rfl) (by decide) rfl ?_
  refine sx_goto (pc := 70) (tgt := 28) dX9_findWay_70 (by decide) ?_
  refine sx_wk (sx_s1 sx_m3 (sx_s1 sx_m2 (sx_s1 sx_m1 (sx_s1 sx_m0 sx_s0)))) ?_
  exact hk28 _ _ _ _ h
def B_X9_findWay_73 (N : Nat)  (l1 : Int64) (l3 : Int64) (V : sv_V) : Option sv_V := (F_X9_shareOf N l1 ((l1 * l1) + (l3 * l3)) V).bind (fun (x6, V4) => sx_let (sv_I V4 70 12 x6) (fun V7 => (F_X9_shareOf N l3 ((l1 * l1) + (l3 * l3)) V7).bind (fun (x10, V8) => sx_let (sv_I V8 70 13 x10) (fun V11 => some V11))))
set_option maxRecDepth 20000 in
theorem tB_X9_findWay_73 {g : sx_G} (hG : sx_Go g) {P : Option Value → sv_V → Prop} {Vr : sv_V} (hP : P none Vr) {N : Nat}   {l1 : Int64} {l3 : Int64} {V : sv_V} (h : B_X9_findWay_73 N  l1 l3 V = some Vr) : sv_N g qX9_findWay 1 73 [(0, .ref 70), (1, .long l1), (3, .long l3)] [] V P := by
  unfold B_X9_findWay_73 at h
  refine sx_aload_n (pc := 73) dX9_findWay_73 sx_m0 ?_
  refine sx_lload_n (pc := 74) dX9_findWay_74 sx_m1 ?_
  refine sx_lload_n (pc := 75) dX9_findWay_75 sx_m1 ?_
  refine sx_lload_n (pc := 76) dX9_findWay_76 sx_m1 ?_
  refine sx_lmul (pc := 77) dX9_findWay_77 ?_
  refine sx_lload_n (pc := 78) dX9_findWay_78 sx_m2 ?_
  refine sx_lload_n (pc := 79) dX9_findWay_79 sx_m2 ?_
  refine sx_lmul (pc := 80) dX9_findWay_80 ?_
  refine sx_ladd (pc := 81) dX9_findWay_81 ?_
  obtain ⟨⟨x6, V4⟩, g5, h⟩ := sx_bnd h
  refine sv_cS (pc := 82) (y := qX9_shareOf) (o := (some (.int x6))) (as := [.long l1, .long ((l1 * l1) + (l3 * l3))]) (V1 := V4) dX9_findWay_82 l_X9_71 y0X9_shareOf ysX9_shareOf rfl (Nat.le_of_ble_eq_true rfl) (by decide) (Nat.le_of_ble_eq_true rfl) rfl rfl rfl (t_X9_shareOf hG ⟨rfl, rfl⟩ g5) ?_
  obtain ⟨V7, hV7⟩ : ∃ z : sv_V, z = sv_I V4 70 12 x6 := ⟨_, rfl⟩
  have h := sx_letE hV7 h
  refine sv_putI (pc := 85) hG dX9_findWay_85 f_9_35 lay_70 rfl hV7 ?_
  refine sx_aload_n (pc := 88) dX9_findWay_88 sx_m0 ?_
  refine sx_lload_n (pc := 89) dX9_findWay_89 sx_m2 ?_
  refine sx_lload_n (pc := 90) dX9_findWay_90 sx_m1 ?_
  refine sx_lload_n (pc := 91) dX9_findWay_91 sx_m1 ?_
  refine sx_lmul (pc := 92) dX9_findWay_92 ?_
  refine sx_lload_n (pc := 93) dX9_findWay_93 sx_m2 ?_
  refine sx_lload_n (pc := 94) dX9_findWay_94 sx_m2 ?_
  refine sx_lmul (pc := 95) dX9_findWay_95 ?_
  refine sx_ladd (pc := 96) dX9_findWay_96 ?_
  obtain ⟨⟨x10, V8⟩, g9, h⟩ := sx_bnd h
  refine sv_cS (pc := 97) (y := qX9_shareOf) (o := (some (.int x10))) (as := [.long l3, .long ((l1 * l1) + (l3 * l3))]) (V1 := V8) dX9_findWay_97 l_X9_71 y0X9_shareOf ysX9_shareOf rfl (Nat.le_of_ble_eq_true rfl) (by decide) (Nat.le_of_ble_eq_true rfl) rfl rfl rfl (t_X9_shareOf hG ⟨rfl, rfl⟩ g9) ?_
  obtain ⟨V11, hV11⟩ : ∃ z : sv_V, z = sv_I V8 70 13 x10 := ⟨_, rfl⟩
  have h := sx_letE hV11 h
  refine sv_putI (pc := 100) hG dX9_findWay_100 f_9_38 lay_70 rfl hV11 ?_
  exact sv_vret (pc := 103) dX9_findWay_103 rfl h hP
def B_X9_findWay_28 (N : Nat) (k28 : Int64 → Int64 → Int32 → sv_V → Option sv_V) (l1 : Int64) (l3 : Int64) (l5 : Int32) (V : sv_V) : Option sv_V := if (64 : Int32) ≤ l5 then (B_X9_findWay_73 N  l1 l3 V) else ((F_X11_isBeyond l1 (30000 : Int32) V).bind (fun (x15, V13) => if x15 = 0 then ((F_X11_isBeyond l3 (30000 : Int32) V13).bind (fun (x19, V17) => if x19 = 0 then (B_X9_findWay_73 N  l1 l3 V17) else (B_X9_findWay_55 N k28 l1 l3 l5 V17))) else (B_X9_findWay_55 N k28 l1 l3 l5 V13)))
set_option maxRecDepth 20000 in
theorem tB_X9_findWay_28 {g : sx_G} (hG : sx_Go g) {P : Option Value → sv_V → Prop} {Vr : sv_V} (hP : P none Vr) {N : Nat} {k28 : Int64 → Int64 → Int32 → sv_V → Option sv_V} (hk28 : ∀ (l1 : Int64) (l3 : Int64) (l5 : Int32) (V : sv_V), k28 l1 l3 l5 V = some Vr → sv_N g qX9_findWay 1 28 [(0, .ref 70), (1, .long l1), (3, .long l3), (5, .int l5)] [] V P) {l1 : Int64} {l3 : Int64} {l5 : Int32} {V : sv_V} (h : B_X9_findWay_28 N k28 l1 l3 l5 V = some Vr) : sv_N g qX9_findWay 1 28 [(0, .ref 70), (1, .long l1), (3, .long l3), (5, .int l5)] [] V P := by
  unfold B_X9_findWay_28 at h
  refine sx_iload (pc := 28) dX9_findWay_28 sx_m3 ?_
  refine sx_bipush (pc := 30) (v := 64) dX9_findWay_30 (by decide) ?_
  refine sx_icmp_ge (pc := 32) (tgt := 73) dX9_findWay_32 (by decide) (fun c12 => ?_) (fun c12 => ?_)
  · have h := sx_pos c12 h
    refine sx_wk (sx_s1 sx_m0 (sx_s1 sx_m1 (sx_s1 sx_m2 sx_s0))) ?_
    exact tB_X9_findWay_73 hG hP  h
  · have h := sx_neg c12 h
    refine sx_lload_n (pc := 35) dX9_findWay_35 sx_m1 ?_
    refine sx_sipush (pc := 36) (v := 30000) dX9_findWay_36 (by decide) ?_
    obtain ⟨⟨x15, V13⟩, g14, h⟩ := sx_bnd h
    refine sv_cN (pc := 39) (y := qX11_isBeyond) (o := (some (.int x15))) (as := [.long l1, .int (30000 : Int32)]) (V1 := V13) dX9_findWay_39 n_X9_65 y0X11_isBeyond ysX11_isBeyond rfl (Nat.le_of_ble_eq_true rfl) (by decide) (Nat.le_of_ble_eq_true rfl) rfl rfl rfl (t_X11_isBeyond hG ⟨rfl, rfl⟩ g14) ?_
    refine sx_if_ne (pc := 42) (tgt := 55) dX9_findWay_42 (by decide) (fun c16 => ?_) (fun c16 => ?_)
    · have h := sx_neg c16 h
      refine sx_wk (sx_s1 sx_m0 (sx_s1 sx_m1 (sx_s1 sx_m2 (sx_s1 sx_m3 sx_s0)))) ?_
      exact tB_X9_findWay_55 hG hP hk28 h
    · have h := sx_pos c16 h
      refine sx_lload_n (pc := 45) dX9_findWay_45 sx_m2 ?_
      refine sx_sipush (pc := 46) (v := 30000) dX9_findWay_46 (by decide) ?_
      obtain ⟨⟨x19, V17⟩, g18, h⟩ := sx_bnd h
      refine sv_cN (pc := 49) (y := qX11_isBeyond) (o := (some (.int x19))) (as := [.long l3, .int (30000 : Int32)]) (V1 := V17) dX9_findWay_49 n_X9_65 y0X11_isBeyond ysX11_isBeyond rfl (Nat.le_of_ble_eq_true rfl) (by decide) (Nat.le_of_ble_eq_true rfl) rfl rfl rfl (t_X11_isBeyond hG ⟨rfl, rfl⟩ g18) ?_
      refine sx_if_eq (pc := 52) (tgt := 73) dX9_findWay_52 (by decide) (fun c20 => ?_) (fun c20 => ?_)
      · have h := sx_pos c20 h
        refine sx_wk (sx_s1 sx_m0 (sx_s1 sx_m1 (sx_s1 sx_m2 sx_s0))) ?_
        exact tB_X9_findWay_73 hG hP  h
      · have h := sx_neg c20 h
        refine sx_wk (sx_s1 sx_m0 (sx_s1 sx_m1 (sx_s1 sx_m2 (sx_s1 sx_m3 sx_s0)))) ?_
        exact tB_X9_findWay_55 hG hP hk28 h
theorem tL_X9_findWay_28 {g : sx_G} (hG : sx_Go g) {P : Option Value → sv_V → Prop} {Vr : sv_V} (hP : P none Vr) {N : Nat}   : ∀ (n : Nat) (l1 : Int64) (l3 : Int64) (l5 : Int32) (V : sv_V), sx_lp4 (B_X9_findWay_28 N ) n l1 l3 l5 V = some Vr → sv_N g qX9_findWay 1 28 [(0, .ref 70), (1, .long l1), (3, .long l3), (5, .int l5)] [] V P :=
  sx_lp4_ind (fun k0 ih _ _ _ V h => tB_X9_findWay_28 hG hP ih h)
def B_X9_findWay_25 (N : Nat)  (l1 : Int64) (l3 : Int64) (V : sv_V) : Option sv_V := sx_lp4 (B_X9_findWay_28 N ) N l1 l3 (0 : Int32) V
set_option maxRecDepth 20000 in
theorem tB_X9_findWay_25 {g : sx_G} (hG : sx_Go g) {P : Option Value → sv_V → Prop} {Vr : sv_V} (hP : P none Vr) {N : Nat}   {l1 : Int64} {l3 : Int64} {V : sv_V} (h : B_X9_findWay_25 N  l1 l3 V = some Vr) : sv_N g qX9_findWay 1 25 [(0, .ref 70), (1, .long l1), (3, .long l3)] [] V P := by
  unfold B_X9_findWay_25 at h
  refine sx_iconst (pc := 25) (v := 0) dX9_findWay_25 (by decide) ?_
  refine sx_istore (pc := 26) (lo' := [(5, .int (0 : Int32)), (0, .ref 70), (1, .long l1), (3, .long l3)]) dX9_findWay_26 (by decide) rfl ?_
  refine sx_wk (sx_s1 sx_m1 (sx_s1 sx_m2 (sx_s1 sx_m3 (sx_s1 sx_m0 sx_s0)))) ?_
  exact tL_X9_findWay_28 hG hP  N _ _ _ _ h
def F_X9_findWay (N : Nat) (l1 : Int64) (l3 : Int64) (V : sv_V) : Option sv_V := if (lg_cmp l1 (0 : Int64)) = 0 then (if (lg_cmp l3 (0 : Int64)) = 0 then (sx_let (sv_I V 70 12 (16384 : Int32)) (fun V23 => sx_let (sv_I V23 70 13 (0 : Int32)) (fun V24 => some V24))) else (B_X9_findWay_25 N  l1 l3 V)) else (B_X9_findWay_25 N  l1 l3 V)
set_option maxRecDepth 20000 in
theorem t_X9_findWay {g : sx_G} (hG : sx_Go g) {P : Option Value → sv_V → Prop} {Vr : sv_V} (hP : P none Vr) {N : Nat} {l1 : Int64} {l3 : Int64} {V : sv_V} (h : F_X9_findWay N l1 l3 V = some Vr) : sv_N g qX9_findWay 1 0 [(0, .ref 70), (1, .long l1), (3, .long l3)] [] V P := by
  unfold F_X9_findWay at h
  refine sx_lload_n (pc := 0) dX9_findWay_0 sx_m1 ?_
  refine sx_lconst (pc := 1) (v := 0) dX9_findWay_1 rfl ?_
  refine sx_lcmp (pc := 2) dX9_findWay_2 ?_
  refine sx_if_ne (pc := 3) (tgt := 25) dX9_findWay_3 (by decide) (fun c21 => ?_) (fun c21 => ?_)
  · have h := sx_neg c21 h
    refine sx_wk (sx_s1 sx_m0 (sx_s1 sx_m1 (sx_s1 sx_m2 sx_s0))) ?_
    exact tB_X9_findWay_25 hG hP  h
  · have h := sx_pos c21 h
    refine sx_lload_n (pc := 6) dX9_findWay_6 sx_m2 ?_
    refine sx_lconst (pc := 7) (v := 0) dX9_findWay_7 rfl ?_
    refine sx_lcmp (pc := 8) dX9_findWay_8 ?_
    refine sx_if_ne (pc := 9) (tgt := 25) dX9_findWay_9 (by decide) (fun c22 => ?_) (fun c22 => ?_)
    · have h := sx_neg c22 h
      refine sx_wk (sx_s1 sx_m0 (sx_s1 sx_m1 (sx_s1 sx_m2 sx_s0))) ?_
      exact tB_X9_findWay_25 hG hP  h
    · have h := sx_pos c22 h
      refine sx_aload_n (pc := 12) dX9_findWay_12 sx_m0 ?_
      refine sx_sipush (pc := 13) (v := 16384) dX9_findWay_13 (by decide) ?_
      obtain ⟨V23, hV23⟩ : ∃ z : sv_V, z = sv_I V 70 12 (16384 : Int32) := ⟨_, rfl⟩
      have h := sx_letE hV23 h
      refine sv_putI (pc := 16) hG dX9_findWay_16 f_9_35 lay_70 rfl hV23 ?_
      refine sx_aload_n (pc := 19) dX9_findWay_19 sx_m0 ?_
      refine sx_iconst (pc := 20) (v := 0) dX9_findWay_20 (by decide) ?_
      obtain ⟨V24, hV24⟩ : ∃ z : sv_V, z = sv_I V23 70 13 (0 : Int32) := ⟨_, rfl⟩
      have h := sx_letE hV24 h
      refine sv_putI (pc := 21) hG dX9_findWay_21 f_9_38 lay_70 rfl hV24 ?_
      exact sv_vret (pc := 24) dX9_findWay_24 rfl h hP
def ncX9_rounded : Nat := 867946639402705267397988506975806893023970624119421610637068860099600684566892913073561578040647996165227858250606648531084491692606610823931030961066217126980331569179508708138342348036815329109414426752042
theorem kcX9_rounded : CK cX9_rounded ncX9_rounded 86 := ⟨by decide +kernel, by decide +kernel⟩
theorem dX9_rounded_0 : decode cX9_rounded 0 = .ok (.aload_n 0, 1) := dl_o42 kcX9_rounded (by decide +kernel)
theorem dX9_rounded_1 : decode cX9_rounded 1 = .ok (.getfield 77, 3) := dl_o180 kcX9_rounded (by decide +kernel)
theorem dX9_rounded_4 : decode cX9_rounded 4 = .ok (.ifCond .gt 5, 3) := dl_o157 kcX9_rounded 5 (by decide +kernel) (by decide +kernel)
theorem dX9_rounded_7 : decode cX9_rounded 7 = .ok (.lload_n 1, 1) := dl_o31 kcX9_rounded (by decide +kernel)
theorem dX9_rounded_8 : decode cX9_rounded 8 = .ok (.lreturn, 1) := dl_o173 kcX9_rounded (by decide +kernel)
theorem dX9_rounded_9 : decode cX9_rounded 9 = .ok (.lload_n 1, 1) := dl_o31 kcX9_rounded (by decide +kernel)
theorem dX9_rounded_10 : decode cX9_rounded 10 = .ok (.lconst 0, 1) := dl_o9 kcX9_rounded (by decide +kernel)
theorem dX9_rounded_11 : decode cX9_rounded 11 = .ok (.lcmp, 1) := dl_o148 kcX9_rounded (by decide +kernel)
theorem dX9_rounded_12 : decode cX9_rounded 12 = .ok (.ifCond .ge 8, 3) := dl_o156 kcX9_rounded 8 (by decide +kernel) (by decide +kernel)
theorem dX9_rounded_15 : decode cX9_rounded 15 = .ok (.lload_n 1, 1) := dl_o31 kcX9_rounded (by decide +kernel)
theorem dX9_rounded_16 : decode cX9_rounded 16 = .ok (.lneg, 1) := dl_o117 kcX9_rounded (by decide +kernel)
theorem dX9_rounded_17 : decode cX9_rounded 17 = .ok (.goto 4, 3) := dl_o167 kcX9_rounded 4 (by decide +kernel) (by decide +kernel)
theorem dX9_rounded_20 : decode cX9_rounded 20 = .ok (.lload_n 1, 1) := dl_o31 kcX9_rounded (by decide +kernel)
theorem dX9_rounded_21 : decode cX9_rounded 21 = .ok (.lstore_n 3, 1) := dl_o66 kcX9_rounded (by decide +kernel)
theorem dX9_rounded_22 : decode cX9_rounded 22 = .ok (.lload_n 3, 1) := dl_o33 kcX9_rounded (by decide +kernel)
theorem dX9_rounded_23 : decode cX9_rounded 23 = .ok (.aload_n 0, 1) := dl_o42 kcX9_rounded (by decide +kernel)
theorem dX9_rounded_24 : decode cX9_rounded 24 = .ok (.getfield 80, 3) := dl_o180 kcX9_rounded (by decide +kernel)
theorem dX9_rounded_27 : decode cX9_rounded 27 = .ok (.i2l, 1) := dl_o133 kcX9_rounded (by decide +kernel)
theorem dX9_rounded_28 : decode cX9_rounded 28 = .ok (.lsub, 1) := dl_o101 kcX9_rounded (by decide +kernel)
theorem dX9_rounded_29 : decode cX9_rounded 29 = .ok (.aload_n 0, 1) := dl_o42 kcX9_rounded (by decide +kernel)
theorem dX9_rounded_30 : decode cX9_rounded 30 = .ok (.getfield 83, 3) := dl_o180 kcX9_rounded (by decide +kernel)
theorem dX9_rounded_33 : decode cX9_rounded 33 = .ok (.i2l, 1) := dl_o133 kcX9_rounded (by decide +kernel)
theorem dX9_rounded_34 : decode cX9_rounded 34 = .ok (.ladd, 1) := dl_o97 kcX9_rounded (by decide +kernel)
theorem dX9_rounded_35 : decode cX9_rounded 35 = .ok (.aload_n 0, 1) := dl_o42 kcX9_rounded (by decide +kernel)
theorem dX9_rounded_36 : decode cX9_rounded 36 = .ok (.getfield 77, 3) := dl_o180 kcX9_rounded (by decide +kernel)
theorem dX9_rounded_39 : decode cX9_rounded 39 = .ok (.i2l, 1) := dl_o133 kcX9_rounded (by decide +kernel)
theorem dX9_rounded_40 : decode cX9_rounded 40 = .ok (.invokestatic 86, 3) := dl_o184 kcX9_rounded (by decide +kernel)
theorem dX9_rounded_43 : decode cX9_rounded 43 = .ok (.aload_n 0, 1) := dl_o42 kcX9_rounded (by decide +kernel)
theorem dX9_rounded_44 : decode cX9_rounded 44 = .ok (.getfield 77, 3) := dl_o180 kcX9_rounded (by decide +kernel)
theorem dX9_rounded_47 : decode cX9_rounded 47 = .ok (.i2l, 1) := dl_o133 kcX9_rounded (by decide +kernel)
theorem dX9_rounded_48 : decode cX9_rounded 48 = .ok (.lmul, 1) := dl_o105 kcX9_rounded (by decide +kernel)
theorem dX9_rounded_49 : decode cX9_rounded 49 = .ok (.aload_n 0, 1) := dl_o42 kcX9_rounded (by decide +kernel)
theorem dX9_rounded_50 : decode cX9_rounded 50 = .ok (.getfield 80, 3) := dl_o180 kcX9_rounded (by decide +kernel)
theorem dX9_rounded_53 : decode cX9_rounded 53 = .ok (.i2l, 1) := dl_o133 kcX9_rounded (by decide +kernel)
theorem dX9_rounded_54 : decode cX9_rounded 54 = .ok (.ladd, 1) := dl_o97 kcX9_rounded (by decide +kernel)
theorem dX9_rounded_55 : decode cX9_rounded 55 = .ok (.lstore 5, 2) := dl_o55 kcX9_rounded (by decide +kernel)
theorem dX9_rounded_57 : decode cX9_rounded 57 = .ok (.lload 5, 2) := dl_o22 kcX9_rounded (by decide +kernel)
theorem dX9_rounded_59 : decode cX9_rounded 59 = .ok (.lconst 0, 1) := dl_o9 kcX9_rounded (by decide +kernel)
theorem dX9_rounded_60 : decode cX9_rounded 60 = .ok (.lcmp, 1) := dl_o148 kcX9_rounded (by decide +kernel)
theorem dX9_rounded_61 : decode cX9_rounded 61 = .ok (.ifCond .ge 10, 3) := dl_o156 kcX9_rounded 10 (by decide +kernel) (by decide +kernel)
theorem dX9_rounded_64 : decode cX9_rounded 64 = .ok (.aload_n 0, 1) := dl_o42 kcX9_rounded (by decide +kernel)
theorem dX9_rounded_65 : decode cX9_rounded 65 = .ok (.getfield 80, 3) := dl_o180 kcX9_rounded (by decide +kernel)
theorem dX9_rounded_68 : decode cX9_rounded 68 = .ok (.i2l, 1) := dl_o133 kcX9_rounded (by decide +kernel)
theorem dX9_rounded_69 : decode cX9_rounded 69 = .ok (.lstore 5, 2) := dl_o55 kcX9_rounded (by decide +kernel)
theorem dX9_rounded_71 : decode cX9_rounded 71 = .ok (.lload_n 1, 1) := dl_o31 kcX9_rounded (by decide +kernel)
theorem dX9_rounded_72 : decode cX9_rounded 72 = .ok (.lconst 0, 1) := dl_o9 kcX9_rounded (by decide +kernel)
theorem dX9_rounded_73 : decode cX9_rounded 73 = .ok (.lcmp, 1) := dl_o148 kcX9_rounded (by decide +kernel)
theorem dX9_rounded_74 : decode cX9_rounded 74 = .ok (.ifCond .ge 9, 3) := dl_o156 kcX9_rounded 9 (by decide +kernel) (by decide +kernel)
theorem dX9_rounded_77 : decode cX9_rounded 77 = .ok (.lload 5, 2) := dl_o22 kcX9_rounded (by decide +kernel)
theorem dX9_rounded_79 : decode cX9_rounded 79 = .ok (.lneg, 1) := dl_o117 kcX9_rounded (by decide +kernel)
theorem dX9_rounded_80 : decode cX9_rounded 80 = .ok (.goto 5, 3) := dl_o167 kcX9_rounded 5 (by decide +kernel) (by decide +kernel)
theorem dX9_rounded_83 : decode cX9_rounded 83 = .ok (.lload 5, 2) := dl_o22 kcX9_rounded (by decide +kernel)
theorem dX9_rounded_85 : decode cX9_rounded 85 = .ok (.lreturn, 1) := dl_o173 kcX9_rounded (by decide +kernel)
def B_X9_rounded_71  (l1 : Int64) (l5 : Int64) (V : sv_V) : Option (Int64 × sv_V) := if 0 ≤ (lg_cmp l1 (0 : Int64)) then (some (l5, V)) else (some (-l5, V))
set_option maxRecDepth 20000 in
theorem tB_X9_rounded_71 {g : sx_G} (hG : sx_Go g) {P : Option Value → sv_V → Prop} {r : Int64} {Vr : sv_V} (hP : P (some (.long r)) Vr)   {l1 : Int64} {l5 : Int64} {V : sv_V} (h : B_X9_rounded_71  l1 l5 V = some (r, Vr)) : sv_N g qX9_rounded 1 71 [(1, .long l1), (5, .long l5)] [] V P := by
  unfold B_X9_rounded_71 at h
  refine sx_lload_n (pc := 71) dX9_rounded_71 sx_m0 ?_
  refine sx_lconst (pc := 72) (v := 0) dX9_rounded_72 rfl ?_
  refine sx_lcmp (pc := 73) dX9_rounded_73 ?_
  refine sx_if_ge (pc := 74) (tgt := 83) dX9_rounded_74 (by decide) (fun c1 => ?_) (fun c1 => ?_)
  · have h := sx_pos c1 h
    refine sx_lload (pc := 83) dX9_rounded_83 sx_m1 ?_
    exact sv_lret (pc := 85) dX9_rounded_85 rfl h hP
  · have h := sx_neg c1 h
    refine sx_lload (pc := 77) dX9_rounded_77 sx_m1 ?_
    refine sx_lneg (pc := 79) dX9_rounded_79 ?_
    refine sx_goto (pc := 80) (tgt := 85) dX9_rounded_80 (by decide) ?_
    exact sv_lret (pc := 85) dX9_rounded_85 rfl h hP
def B_X9_rounded_21  (l1 : Int64) (s0 : Int64) (V : sv_V) : Option (Int64 × sv_V) := (F_J9_floorDiv_f86c9 ((s0 - ((V.1 70 10).toInt64)) + ((V.1 70 11).toInt64)) ((V.1 70 9).toInt64) V).bind (fun (x4, V2) => sx_let ((x4 * ((V2.1 70 9).toInt64)) + ((V2.1 70 10).toInt64)) (fun x5 => if 0 ≤ (lg_cmp x5 (0 : Int64)) then (B_X9_rounded_71  l1 x5 V2) else (sx_let ((V2.1 70 10).toInt64) (fun x7 => B_X9_rounded_71  l1 x7 V2))))
set_option maxRecDepth 20000 in
theorem tB_X9_rounded_21 {g : sx_G} (hG : sx_Go g) {P : Option Value → sv_V → Prop} {r : Int64} {Vr : sv_V} (hP : P (some (.long r)) Vr)   {l1 : Int64} {s0 : Int64} {V : sv_V} (h : B_X9_rounded_21  l1 s0 V = some (r, Vr)) : sv_N g qX9_rounded 1 21 [(0, .ref 70), (1, .long l1)] [.long s0] V P := by
  unfold B_X9_rounded_21 at h
  refine sx_lstore_n (pc := 21) (lo' := [(3, .long s0), (0, .ref 70), (1, .long l1)]) dX9_rounded_21 (by decide) rfl ?_
  refine sx_lload_n (pc := 22) dX9_rounded_22 sx_m0 ?_
  refine sx_aload_n (pc := 23) dX9_rounded_23 sx_m1 ?_
  refine sv_getI (pc := 24) hG dX9_rounded_24 f_9_80 lay_70 rfl ?_
  refine sx_i2l (pc := 27) dX9_rounded_27 ?_
  refine sx_lsub (pc := 28) dX9_rounded_28 ?_
  refine sx_aload_n (pc := 29) dX9_rounded_29 sx_m1 ?_
  refine sv_getI (pc := 30) hG dX9_rounded_30 f_9_83 lay_70 rfl ?_
  refine sx_i2l (pc := 33) dX9_rounded_33 ?_
  refine sx_ladd (pc := 34) dX9_rounded_34 ?_
  refine sx_aload_n (pc := 35) dX9_rounded_35 sx_m1 ?_
  refine sv_getI (pc := 36) hG dX9_rounded_36 f_9_77 lay_70 rfl ?_
  refine sx_i2l (pc := 39) dX9_rounded_39 ?_
  obtain ⟨⟨x4, V2⟩, g3, h⟩ := sx_bnd h
  refine sv_cS (pc := 40) (y := qJ9_floorDiv_f86c9) (o := (some (.long x4))) (as := [.long ((s0 - ((V.1 70 10).toInt64)) + ((V.1 70 11).toInt64)), .long ((V.1 70 9).toInt64)]) (V1 := V2) dX9_rounded_40 l_X9_86 y0J9_floorDiv_f86c9 ysJ9_floorDiv_f86c9 rfl (Nat.le_of_ble_eq_true rfl) (by decide) (Nat.le_of_ble_eq_true rfl) rfl rfl rfl (t_J9_floorDiv_f86c9 hG ⟨rfl, rfl⟩ g3) ?_
  refine sx_aload_n (pc := 43) dX9_rounded_43 sx_m1 ?_
  refine sv_getI (pc := 44) hG dX9_rounded_44 f_9_77 lay_70 rfl ?_
  refine sx_i2l (pc := 47) dX9_rounded_47 ?_
  refine sx_lmul (pc := 48) dX9_rounded_48 ?_
  refine sx_aload_n (pc := 49) dX9_rounded_49 sx_m1 ?_
  refine sv_getI (pc := 50) hG dX9_rounded_50 f_9_80 lay_70 rfl ?_
  refine sx_i2l (pc := 53) dX9_rounded_53 ?_
  refine sx_ladd (pc := 54) dX9_rounded_54 ?_
  refine sv_tJ (fun x5 hx5 => ?_)
  have h := sx_letE hx5 h
  refine sx_lstore (pc := 55) (lo' := [(5, .long x5), (3, .long s0), (0, .ref 70), (1, .long l1)]) dX9_rounded_55 (by decide) rfl ?_
  refine sx_lload (pc := 57) dX9_rounded_57 sx_m0 ?_
  refine sx_lconst (pc := 59) (v := 0) dX9_rounded_59 rfl ?_
  refine sx_lcmp (pc := 60) dX9_rounded_60 ?_
  refine sx_if_ge (pc := 61) (tgt := 71) dX9_rounded_61 (by decide) (fun c6 => ?_) (fun c6 => ?_)
  · have h := sx_pos c6 h
    refine sx_wk (sx_s1 sx_m3 (sx_s1 sx_m0 sx_s0)) ?_
    exact tB_X9_rounded_71 hG hP  h
  · have h := sx_neg c6 h
    refine sx_aload_n (pc := 64) dX9_rounded_64 sx_m2 ?_
    refine sv_getI (pc := 65) hG dX9_rounded_65 f_9_80 lay_70 rfl ?_
    refine sx_i2l (pc := 68) dX9_rounded_68 ?_
    refine sv_tJ (fun x7 hx7 => ?_)
    have h := sx_letE hx7 h
    refine sx_lstore (pc := 69) (lo' := [(5, .long x7), (3, .long s0), (0, .ref 70), (1, .long l1)]) dX9_rounded_69 (by decide) rfl ?_
    refine sx_wk (sx_s1 sx_m3 (sx_s1 sx_m0 sx_s0)) ?_
    exact tB_X9_rounded_71 hG hP  h
def F_X9_rounded (l1 : Int64) (V : sv_V) : Option (Int64 × sv_V) := if 0 < (V.1 70 9) then (if 0 ≤ (lg_cmp l1 (0 : Int64)) then (B_X9_rounded_21  l1 l1 V) else (B_X9_rounded_21  l1 (-l1) V)) else (some (l1, V))
set_option maxRecDepth 20000 in
theorem t_X9_rounded {g : sx_G} (hG : sx_Go g) {P : Option Value → sv_V → Prop} {r : Int64} {Vr : sv_V} (hP : P (some (.long r)) Vr) {l1 : Int64} {V : sv_V} (h : F_X9_rounded l1 V = some (r, Vr)) : sv_N g qX9_rounded 1 0 [(0, .ref 70), (1, .long l1)] [] V P := by
  unfold F_X9_rounded at h
  refine sx_aload_n (pc := 0) dX9_rounded_0 sx_m0 ?_
  refine sv_getI (pc := 1) hG dX9_rounded_1 f_9_77 lay_70 rfl ?_
  refine sx_if_gt (pc := 4) (tgt := 9) dX9_rounded_4 (by decide) (fun c8 => ?_) (fun c8 => ?_)
  · have h := sx_pos c8 h
    refine sx_lload_n (pc := 9) dX9_rounded_9 sx_m1 ?_
    refine sx_lconst (pc := 10) (v := 0) dX9_rounded_10 rfl ?_
    refine sx_lcmp (pc := 11) dX9_rounded_11 ?_
    refine sx_if_ge (pc := 12) (tgt := 20) dX9_rounded_12 (by decide) (fun c9 => ?_) (fun c9 => ?_)
    · have h := sx_pos c9 h
      refine sx_lload_n (pc := 20) dX9_rounded_20 sx_m1 ?_
      refine sx_wk (sx_s1 sx_m0 (sx_s1 sx_m1 sx_s0)) ?_
      exact tB_X9_rounded_21 hG hP  h
    · have h := sx_neg c9 h
      refine sx_lload_n (pc := 15) dX9_rounded_15 sx_m1 ?_
      refine sx_lneg (pc := 16) dX9_rounded_16 ?_
      refine sx_goto (pc := 17) (tgt := 21) dX9_rounded_17 (by decide) ?_
      refine sx_wk (sx_s1 sx_m0 (sx_s1 sx_m1 sx_s0)) ?_
      exact tB_X9_rounded_21 hG hP  h
  · have h := sx_neg c8 h
    refine sx_lload_n (pc := 7) dX9_rounded_7 sx_m1 ?_
    exact sv_lret (pc := 8) dX9_rounded_8 rfl h hP
def ncX10_traceContour : Nat := 85337941244274423353893086400821209901601170489737664128111342968549409185301888994210916884521309162949373609328380096911790255478541438299550442571800677804274750142371304926272343390944578043863345720787611058911439493708457193433130709684023077764893783580
theorem kcX10_traceContour : CK cX10_traceContour ncX10_traceContour 108 := ⟨by decide +kernel, by decide +kernel⟩
theorem dX10_traceContour_0 : decode cX10_traceContour 0 = .ok (.iload_n 2, 1) := dl_o28 kcX10_traceContour (by decide +kernel)
theorem dX10_traceContour_1 : decode cX10_traceContour 1 = .ok (.istore 4, 2) := dl_o54 kcX10_traceContour (by decide +kernel)
theorem dX10_traceContour_3 : decode cX10_traceContour 3 = .ok (.iload 4, 2) := dl_o21 kcX10_traceContour (by decide +kernel)
theorem dX10_traceContour_5 : decode cX10_traceContour 5 = .ok (.iload_n 3, 1) := dl_o29 kcX10_traceContour (by decide +kernel)
theorem dX10_traceContour_6 : decode cX10_traceContour 6 = .ok (.if_icmp .gt 101, 3) := dl_o163 kcX10_traceContour 101 (by decide +kernel) (by decide +kernel)
theorem dX10_traceContour_9 : decode cX10_traceContour 9 = .ok (.iload 4, 2) := dl_o21 kcX10_traceContour (by decide +kernel)
theorem dX10_traceContour_11 : decode cX10_traceContour 11 = .ok (.iload_n 2, 1) := dl_o28 kcX10_traceContour (by decide +kernel)
theorem dX10_traceContour_12 : decode cX10_traceContour 12 = .ok (.if_icmp .ne 7, 3) := dl_o160 kcX10_traceContour 7 (by decide +kernel) (by decide +kernel)
theorem dX10_traceContour_15 : decode cX10_traceContour 15 = .ok (.iload_n 3, 1) := dl_o29 kcX10_traceContour (by decide +kernel)
theorem dX10_traceContour_16 : decode cX10_traceContour 16 = .ok (.goto 7, 3) := dl_o167 kcX10_traceContour 7 (by decide +kernel) (by decide +kernel)
theorem dX10_traceContour_19 : decode cX10_traceContour 19 = .ok (.iload 4, 2) := dl_o21 kcX10_traceContour (by decide +kernel)
theorem dX10_traceContour_21 : decode cX10_traceContour 21 = .ok (.iconst 1, 1) := dl_o4 kcX10_traceContour (by decide +kernel)
theorem dX10_traceContour_22 : decode cX10_traceContour 22 = .ok (.isub, 1) := dl_o100 kcX10_traceContour (by decide +kernel)
theorem dX10_traceContour_23 : decode cX10_traceContour 23 = .ok (.istore 5, 2) := dl_o54 kcX10_traceContour (by decide +kernel)
theorem dX10_traceContour_25 : decode cX10_traceContour 25 = .ok (.iload 4, 2) := dl_o21 kcX10_traceContour (by decide +kernel)
theorem dX10_traceContour_27 : decode cX10_traceContour 27 = .ok (.iload_n 3, 1) := dl_o29 kcX10_traceContour (by decide +kernel)
theorem dX10_traceContour_28 : decode cX10_traceContour 28 = .ok (.if_icmp .ne 7, 3) := dl_o160 kcX10_traceContour 7 (by decide +kernel) (by decide +kernel)
theorem dX10_traceContour_31 : decode cX10_traceContour 31 = .ok (.iload_n 2, 1) := dl_o28 kcX10_traceContour (by decide +kernel)
theorem dX10_traceContour_32 : decode cX10_traceContour 32 = .ok (.goto 7, 3) := dl_o167 kcX10_traceContour 7 (by decide +kernel) (by decide +kernel)
theorem dX10_traceContour_35 : decode cX10_traceContour 35 = .ok (.iload 4, 2) := dl_o21 kcX10_traceContour (by decide +kernel)
theorem dX10_traceContour_37 : decode cX10_traceContour 37 = .ok (.iconst 1, 1) := dl_o4 kcX10_traceContour (by decide +kernel)
theorem dX10_traceContour_38 : decode cX10_traceContour 38 = .ok (.iadd, 1) := dl_o96 kcX10_traceContour (by decide +kernel)
theorem dX10_traceContour_39 : decode cX10_traceContour 39 = .ok (.istore 6, 2) := dl_o54 kcX10_traceContour (by decide +kernel)
theorem dX10_traceContour_41 : decode cX10_traceContour 41 = .ok (.iload_n 2, 1) := dl_o28 kcX10_traceContour (by decide +kernel)
theorem dX10_traceContour_42 : decode cX10_traceContour 42 = .ok (.iload_n 3, 1) := dl_o29 kcX10_traceContour (by decide +kernel)
theorem dX10_traceContour_43 : decode cX10_traceContour 43 = .ok (.if_icmp .eq 25, 3) := dl_o159 kcX10_traceContour 25 (by decide +kernel) (by decide +kernel)
theorem dX10_traceContour_46 : decode cX10_traceContour 46 = .ok (.aload_n 1, 1) := dl_o43 kcX10_traceContour (by decide +kernel)
theorem dX10_traceContour_47 : decode cX10_traceContour 47 = .ok (.getfield 78, 3) := dl_o180 kcX10_traceContour (by decide +kernel)
theorem dX10_traceContour_50 : decode cX10_traceContour 50 = .ok (.iload 4, 2) := dl_o21 kcX10_traceContour (by decide +kernel)
theorem dX10_traceContour_52 : decode cX10_traceContour 52 = .ok (.iaload, 1) := dl_o46 kcX10_traceContour (by decide +kernel)
theorem dX10_traceContour_53 : decode cX10_traceContour 53 = .ok (.iconst 1, 1) := dl_o4 kcX10_traceContour (by decide +kernel)
theorem dX10_traceContour_54 : decode cX10_traceContour 54 = .ok (.if_icmp .ne 26, 3) := dl_o160 kcX10_traceContour 26 (by decide +kernel) (by decide +kernel)
theorem dX10_traceContour_57 : decode cX10_traceContour 57 = .ok (.aload_n 1, 1) := dl_o43 kcX10_traceContour (by decide +kernel)
theorem dX10_traceContour_58 : decode cX10_traceContour 58 = .ok (.getfield 78, 3) := dl_o180 kcX10_traceContour (by decide +kernel)
theorem dX10_traceContour_61 : decode cX10_traceContour 61 = .ok (.iload 6, 2) := dl_o21 kcX10_traceContour (by decide +kernel)
theorem dX10_traceContour_63 : decode cX10_traceContour 63 = .ok (.iaload, 1) := dl_o46 kcX10_traceContour (by decide +kernel)
theorem dX10_traceContour_64 : decode cX10_traceContour 64 = .ok (.iconst 1, 1) := dl_o4 kcX10_traceContour (by decide +kernel)
theorem dX10_traceContour_65 : decode cX10_traceContour 65 = .ok (.if_icmp .ne 15, 3) := dl_o160 kcX10_traceContour 15 (by decide +kernel) (by decide +kernel)
theorem dX10_traceContour_68 : decode cX10_traceContour 68 = .ok (.aload_n 0, 1) := dl_o42 kcX10_traceContour (by decide +kernel)
theorem dX10_traceContour_69 : decode cX10_traceContour 69 = .ok (.aload_n 1, 1) := dl_o43 kcX10_traceContour (by decide +kernel)
theorem dX10_traceContour_70 : decode cX10_traceContour 70 = .ok (.iload 4, 2) := dl_o21 kcX10_traceContour (by decide +kernel)
theorem dX10_traceContour_72 : decode cX10_traceContour 72 = .ok (.iload 6, 2) := dl_o21 kcX10_traceContour (by decide +kernel)
theorem dX10_traceContour_74 : decode cX10_traceContour 74 = .ok (.invokevirtual 81, 3) := dl_o182 kcX10_traceContour (by decide +kernel)
theorem dX10_traceContour_77 : decode cX10_traceContour 77 = .ok (.goto 24, 3) := dl_o167 kcX10_traceContour 24 (by decide +kernel) (by decide +kernel)
theorem dX10_traceContour_80 : decode cX10_traceContour 80 = .ok (.aload_n 1, 1) := dl_o43 kcX10_traceContour (by decide +kernel)
theorem dX10_traceContour_81 : decode cX10_traceContour 81 = .ok (.getfield 78, 3) := dl_o180 kcX10_traceContour (by decide +kernel)
theorem dX10_traceContour_84 : decode cX10_traceContour 84 = .ok (.iload 4, 2) := dl_o21 kcX10_traceContour (by decide +kernel)
theorem dX10_traceContour_86 : decode cX10_traceContour 86 = .ok (.iaload, 1) := dl_o46 kcX10_traceContour (by decide +kernel)
theorem dX10_traceContour_87 : decode cX10_traceContour 87 = .ok (.ifCond .ne 14, 3) := dl_o154 kcX10_traceContour 14 (by decide +kernel) (by decide +kernel)
theorem dX10_traceContour_90 : decode cX10_traceContour 90 = .ok (.aload_n 0, 1) := dl_o42 kcX10_traceContour (by decide +kernel)
theorem dX10_traceContour_91 : decode cX10_traceContour 91 = .ok (.aload_n 1, 1) := dl_o43 kcX10_traceContour (by decide +kernel)
theorem dX10_traceContour_92 : decode cX10_traceContour 92 = .ok (.iload 5, 2) := dl_o21 kcX10_traceContour (by decide +kernel)
theorem dX10_traceContour_94 : decode cX10_traceContour 94 = .ok (.iload 4, 2) := dl_o21 kcX10_traceContour (by decide +kernel)
theorem dX10_traceContour_96 : decode cX10_traceContour 96 = .ok (.iload 6, 2) := dl_o21 kcX10_traceContour (by decide +kernel)
theorem dX10_traceContour_98 : decode cX10_traceContour 98 = .ok (.invokevirtual 84, 3) := dl_o182 kcX10_traceContour (by decide +kernel)
theorem dX10_traceContour_101 : decode cX10_traceContour 101 = .ok (.iinc 4 1, 3) := by decide +kernel
theorem dX10_traceContour_104 : decode cX10_traceContour 104 = .ok (.goto (-101), 3) := dl_o167 kcX10_traceContour 65435 (by decide +kernel) (by decide +kernel)
theorem dX10_traceContour_107 : decode cX10_traceContour 107 = .ok (.return_, 1) := dl_o177 kcX10_traceContour (by decide +kernel)
def B_X10_traceContour_101 (N : Nat) (k3 : Nat → Int32 → Int32 → Int32 → sv_V → Option sv_V) (l1 : Nat) (l2 : Int32) (l3 : Int32) (l4 : Int32) (V : sv_V) : Option sv_V := sx_let (l4 + 1) (fun x1 => k3 l1 l2 l3 x1 V)
set_option maxRecDepth 20000 in
theorem tB_X10_traceContour_101 {g : sx_G} (hG : sx_Go g) {P : Option Value → sv_V → Prop} {Vr : sv_V} (hP : P none Vr) {N : Nat} {k3 : Nat → Int32 → Int32 → Int32 → sv_V → Option sv_V} (hk3 : ∀ (l1 : Nat) (l2 : Int32) (l3 : Int32) (l4 : Int32) (V : sv_V), k3 l1 l2 l3 l4 V = some Vr → sv_N g qX10_traceContour 1 3 [(0, .ref 60), (1, .ref l1), (2, .int l2), (3, .int l3), (4, .int l4)] [] V P) {l1 : Nat} {l2 : Int32} {l3 : Int32} {l4 : Int32} {V : sv_V} (h : B_X10_traceContour_101 N k3 l1 l2 l3 l4 V = some Vr) : sv_N g qX10_traceContour 1 101 [(0, .ref 60), (1, .ref l1), (2, .int l2), (3, .int l3), (4, .int l4)] [] V P := by
  unfold B_X10_traceContour_101 at h
  obtain ⟨x1, hx1⟩ : ∃ z : Int32, z = l4 + 1 := ⟨_, rfl⟩
  have h := sx_letE hx1 h
  refine sx_iinc (pc := 101) (v := x1) (lo' := [(4, .int x1), (0, .ref 60), (1, .ref l1), (2, .int l2), (3, .int l3)]) dX10_traceContour_101 sx_m4 (by rw [hx1]; rfl) (by decide) rfl ?_
  refine sx_goto (pc := 104) (tgt := 3) dX10_traceContour_104 (by decide) ?_
  refine sx_wk (sx_s1 sx_m1 (sx_s1 sx_m2 (sx_s1 sx_m3 (sx_s1 sx_m4 (sx_s1 sx_m0 sx_s0))))) ?_
  exact hk3 _ _ _ _ _ h
def B_X10_traceContour_68 (N : Nat) (k3 : Nat → Int32 → Int32 → Int32 → sv_V → Option sv_V) (l1 : Nat) (l2 : Int32) (l3 : Int32) (l4 : Int32) (l6 : Int32) (V : sv_V) : Option sv_V := (F_X10_addLine l1 l4 l6 V).bind (fun V2 => B_X10_traceContour_101 N k3 l1 l2 l3 l4 V2)
set_option maxRecDepth 20000 in
theorem tB_X10_traceContour_68 {g : sx_G} (hG : sx_Go g) {P : Option Value → sv_V → Prop} {Vr : sv_V} (hP : P none Vr) {N : Nat} {k3 : Nat → Int32 → Int32 → Int32 → sv_V → Option sv_V} (hk3 : ∀ (l1 : Nat) (l2 : Int32) (l3 : Int32) (l4 : Int32) (V : sv_V), k3 l1 l2 l3 l4 V = some Vr → sv_N g qX10_traceContour 1 3 [(0, .ref 60), (1, .ref l1), (2, .int l2), (3, .int l3), (4, .int l4)] [] V P) {l1 : Nat} {l2 : Int32} {l3 : Int32} {l4 : Int32} {l6 : Int32} {V : sv_V} (h : B_X10_traceContour_68 N k3 l1 l2 l3 l4 l6 V = some Vr) : sv_N g qX10_traceContour 1 68 [(0, .ref 60), (1, .ref l1), (2, .int l2), (3, .int l3), (4, .int l4), (6, .int l6)] [] V P := by
  unfold B_X10_traceContour_68 at h
  refine sx_aload_n (pc := 68) dX10_traceContour_68 sx_m0 ?_
  refine sx_aload_n (pc := 69) dX10_traceContour_69 sx_m1 ?_
  refine sx_iload (pc := 70) dX10_traceContour_70 sx_m4 ?_
  refine sx_iload (pc := 72) dX10_traceContour_72 sx_m5 ?_
  obtain ⟨V2, g3, h⟩ := sx_bnd h
  refine sv_cV (pc := 74) (y := qX10_addLine) (o := none) (as := [.ref l1, .int l4, .int l6]) (V1 := V2) hG dX10_traceContour_74 l_X10_81 y0X10_addLine yvX10_addLine rfl (Nat.le_of_ble_eq_true rfl) lay_60 kr_10 (by decide) (Nat.le_of_ble_eq_true rfl) rfl rfl rfl (t_X10_addLine hG ⟨rfl, rfl⟩ g3) ?_
  refine sx_goto (pc := 77) (tgt := 101) dX10_traceContour_77 (by decide) ?_
  refine sx_wk (sx_s1 sx_m0 (sx_s1 sx_m1 (sx_s1 sx_m2 (sx_s1 sx_m3 (sx_s1 sx_m4 sx_s0))))) ?_
  exact tB_X10_traceContour_101 hG hP hk3 h
def B_X10_traceContour_80 (N : Nat) (k3 : Nat → Int32 → Int32 → Int32 → sv_V → Option sv_V) (l1 : Nat) (l2 : Int32) (l3 : Int32) (l4 : Int32) (l5 : Int32) (l6 : Int32) (V : sv_V) : Option sv_V := if lay l1 = .inl 8 then (cr l1 5).bind (fun b5 => (sv_len 0 b5).bind (fun n7 => if sx_in l4 n7 = true then if (V.1 b5 l4.toNatClampNeg) = 0 then ((F_X10_addCurve l1 l5 l4 l6 V).bind (fun V11 => B_X10_traceContour_101 N k3 l1 l2 l3 l4 V11)) else (B_X10_traceContour_101 N k3 l1 l2 l3 l4 V) else none)) else none
set_option maxRecDepth 20000 in
theorem tB_X10_traceContour_80 {g : sx_G} (hG : sx_Go g) {P : Option Value → sv_V → Prop} {Vr : sv_V} (hP : P none Vr) {N : Nat} {k3 : Nat → Int32 → Int32 → Int32 → sv_V → Option sv_V} (hk3 : ∀ (l1 : Nat) (l2 : Int32) (l3 : Int32) (l4 : Int32) (V : sv_V), k3 l1 l2 l3 l4 V = some Vr → sv_N g qX10_traceContour 1 3 [(0, .ref 60), (1, .ref l1), (2, .int l2), (3, .int l3), (4, .int l4)] [] V P) {l1 : Nat} {l2 : Int32} {l3 : Int32} {l4 : Int32} {l5 : Int32} {l6 : Int32} {V : sv_V} (h : B_X10_traceContour_80 N k3 l1 l2 l3 l4 l5 l6 V = some Vr) : sv_N g qX10_traceContour 1 80 [(0, .ref 60), (1, .ref l1), (2, .int l2), (3, .int l3), (4, .int l4), (5, .int l5), (6, .int l6)] [] V P := by
  unfold B_X10_traceContour_80 at h
  refine sx_aload_n (pc := 80) dX10_traceContour_80 sx_m1 ?_
  obtain ⟨g4, h⟩ := sx_grd h
  obtain ⟨b5, g6, h⟩ := sx_bnd h
  refine sv_getA (pc := 81) hG dX10_traceContour_81 f_10_78 g4 rfl g6 ?_
  refine sx_iload (pc := 84) dX10_traceContour_84 sx_m4 ?_
  obtain ⟨n7, g8, h⟩ := sx_bnd h
  obtain ⟨g9, h⟩ := sx_grd h
  refine sv_iald (pc := 86) hG dX10_traceContour_86 (sv_len_e g8) g9 ?_
  refine sx_if_ne (pc := 87) (tgt := 101) dX10_traceContour_87 (by decide) (fun c10 => ?_) (fun c10 => ?_)
  · have h := sx_neg c10 h
    refine sx_wk (sx_s1 sx_m0 (sx_s1 sx_m1 (sx_s1 sx_m2 (sx_s1 sx_m3 (sx_s1 sx_m4 sx_s0))))) ?_
    exact tB_X10_traceContour_101 hG hP hk3 h
  · have h := sx_pos c10 h
    refine sx_aload_n (pc := 90) dX10_traceContour_90 sx_m0 ?_
    refine sx_aload_n (pc := 91) dX10_traceContour_91 sx_m1 ?_
    refine sx_iload (pc := 92) dX10_traceContour_92 sx_m5 ?_
    refine sx_iload (pc := 94) dX10_traceContour_94 sx_m4 ?_
    refine sx_iload (pc := 96) dX10_traceContour_96 sx_m6 ?_
    obtain ⟨V11, g12, h⟩ := sx_bnd h
    refine sv_cV (pc := 98) (y := qX10_addCurve) (o := none) (as := [.ref l1, .int l5, .int l4, .int l6]) (V1 := V11) hG dX10_traceContour_98 l_X10_84 y0X10_addCurve yvX10_addCurve rfl (Nat.le_of_ble_eq_true rfl) lay_60 kr_10 (by decide) (Nat.le_of_ble_eq_true rfl) rfl rfl rfl (t_X10_addCurve hG ⟨rfl, rfl⟩ g12) ?_
    refine sx_wk (sx_s1 sx_m0 (sx_s1 sx_m1 (sx_s1 sx_m2 (sx_s1 sx_m3 (sx_s1 sx_m4 sx_s0))))) ?_
    exact tB_X10_traceContour_101 hG hP hk3 h
def B_X10_traceContour_39 (N : Nat) (k3 : Nat → Int32 → Int32 → Int32 → sv_V → Option sv_V) (l1 : Nat) (l2 : Int32) (l3 : Int32) (l4 : Int32) (l5 : Int32) (s0 : Int32) (V : sv_V) : Option sv_V := if l2 = l3 then (B_X10_traceContour_68 N k3 l1 l2 l3 l4 s0 V) else (if lay l1 = .inl 8 then (cr l1 5).bind (fun b15 => (sv_len 0 b15).bind (fun n17 => if sx_in l4 n17 = true then if (V.1 b15 l4.toNatClampNeg) = (1 : Int32) then (if sx_in s0 n17 = true then if (V.1 b15 s0.toNatClampNeg) = (1 : Int32) then (B_X10_traceContour_68 N k3 l1 l2 l3 l4 s0 V) else (B_X10_traceContour_80 N k3 l1 l2 l3 l4 l5 s0 V) else none) else (B_X10_traceContour_80 N k3 l1 l2 l3 l4 l5 s0 V) else none)) else none)
set_option maxRecDepth 20000 in
theorem tB_X10_traceContour_39 {g : sx_G} (hG : sx_Go g) {P : Option Value → sv_V → Prop} {Vr : sv_V} (hP : P none Vr) {N : Nat} {k3 : Nat → Int32 → Int32 → Int32 → sv_V → Option sv_V} (hk3 : ∀ (l1 : Nat) (l2 : Int32) (l3 : Int32) (l4 : Int32) (V : sv_V), k3 l1 l2 l3 l4 V = some Vr → sv_N g qX10_traceContour 1 3 [(0, .ref 60), (1, .ref l1), (2, .int l2), (3, .int l3), (4, .int l4)] [] V P) {l1 : Nat} {l2 : Int32} {l3 : Int32} {l4 : Int32} {l5 : Int32} {s0 : Int32} {V : sv_V} (h : B_X10_traceContour_39 N k3 l1 l2 l3 l4 l5 s0 V = some Vr) : sv_N g qX10_traceContour 1 39 [(0, .ref 60), (1, .ref l1), (2, .int l2), (3, .int l3), (4, .int l4), (5, .int l5)] [.int s0] V P := by
  unfold B_X10_traceContour_39 at h
  refine sx_istore (pc := 39) (lo' := [(6, .int s0), (0, .ref 60), (1, .ref l1), (2, .int l2), (3, .int l3), (4, .int l4), (5, .int l5)]) dX10_traceContour_39 (by decide) rfl ?_
  refine sx_iload_n (pc := 41) dX10_traceContour_41 sx_m3 ?_
  refine sx_iload_n (pc := 42) dX10_traceContour_42 sx_m4 ?_
  refine sx_icmp_eq (pc := 43) (tgt := 68) dX10_traceContour_43 (by decide) (fun c13 => ?_) (fun c13 => ?_)
  · have h := sx_pos c13 h
    refine sx_wk (sx_s1 sx_m1 (sx_s1 sx_m2 (sx_s1 sx_m3 (sx_s1 sx_m4 (sx_s1 sx_m5 (sx_s1 sx_m0 sx_s0)))))) ?_
    exact tB_X10_traceContour_68 hG hP hk3 h
  · have h := sx_neg c13 h
    refine sx_aload_n (pc := 46) dX10_traceContour_46 sx_m2 ?_
    obtain ⟨g14, h⟩ := sx_grd h
    obtain ⟨b15, g16, h⟩ := sx_bnd h
    refine sv_getA (pc := 47) hG dX10_traceContour_47 f_10_78 g14 rfl g16 ?_
    refine sx_iload (pc := 50) dX10_traceContour_50 sx_m5 ?_
    obtain ⟨n17, g18, h⟩ := sx_bnd h
    obtain ⟨g19, h⟩ := sx_grd h
    refine sv_iald (pc := 52) hG dX10_traceContour_52 (sv_len_e g18) g19 ?_
    refine sx_iconst (pc := 53) (v := 1) dX10_traceContour_53 (by decide) ?_
    refine sx_icmp_ne (pc := 54) (tgt := 80) dX10_traceContour_54 (by decide) (fun c20 => ?_) (fun c20 => ?_)
    · have h := sx_neg c20 h
      refine sx_wk (sx_s1 sx_m1 (sx_s1 sx_m2 (sx_s1 sx_m3 (sx_s1 sx_m4 (sx_s1 sx_m5 (sx_s1 sx_m6 (sx_s1 sx_m0 sx_s0))))))) ?_
      exact tB_X10_traceContour_80 hG hP hk3 h
    · have h := sx_pos c20 h
      refine sx_aload_n (pc := 57) dX10_traceContour_57 sx_m2 ?_
      refine sv_getA (pc := 58) hG dX10_traceContour_58 f_10_78 g14 rfl g16 ?_
      refine sx_iload (pc := 61) dX10_traceContour_61 sx_m0 ?_
      obtain ⟨g21, h⟩ := sx_grd h
      refine sv_iald (pc := 63) hG dX10_traceContour_63 (sv_len_e g18) g21 ?_
      refine sx_iconst (pc := 64) (v := 1) dX10_traceContour_64 (by decide) ?_
      refine sx_icmp_ne (pc := 65) (tgt := 80) dX10_traceContour_65 (by decide) (fun c22 => ?_) (fun c22 => ?_)
      · have h := sx_neg c22 h
        refine sx_wk (sx_s1 sx_m1 (sx_s1 sx_m2 (sx_s1 sx_m3 (sx_s1 sx_m4 (sx_s1 sx_m5 (sx_s1 sx_m6 (sx_s1 sx_m0 sx_s0))))))) ?_
        exact tB_X10_traceContour_80 hG hP hk3 h
      · have h := sx_pos c22 h
        refine sx_wk (sx_s1 sx_m1 (sx_s1 sx_m2 (sx_s1 sx_m3 (sx_s1 sx_m4 (sx_s1 sx_m5 (sx_s1 sx_m0 sx_s0)))))) ?_
        exact tB_X10_traceContour_68 hG hP hk3 h
def B_X10_traceContour_23 (N : Nat) (k3 : Nat → Int32 → Int32 → Int32 → sv_V → Option sv_V) (l1 : Nat) (l2 : Int32) (l3 : Int32) (l4 : Int32) (s0 : Int32) (V : sv_V) : Option sv_V := if l4 = l3 then (B_X10_traceContour_39 N k3 l1 l2 l3 l4 s0 l2 V) else (B_X10_traceContour_39 N k3 l1 l2 l3 l4 s0 (l4 + (1 : Int32)) V)
set_option maxRecDepth 20000 in
theorem tB_X10_traceContour_23 {g : sx_G} (hG : sx_Go g) {P : Option Value → sv_V → Prop} {Vr : sv_V} (hP : P none Vr) {N : Nat} {k3 : Nat → Int32 → Int32 → Int32 → sv_V → Option sv_V} (hk3 : ∀ (l1 : Nat) (l2 : Int32) (l3 : Int32) (l4 : Int32) (V : sv_V), k3 l1 l2 l3 l4 V = some Vr → sv_N g qX10_traceContour 1 3 [(0, .ref 60), (1, .ref l1), (2, .int l2), (3, .int l3), (4, .int l4)] [] V P) {l1 : Nat} {l2 : Int32} {l3 : Int32} {l4 : Int32} {s0 : Int32} {V : sv_V} (h : B_X10_traceContour_23 N k3 l1 l2 l3 l4 s0 V = some Vr) : sv_N g qX10_traceContour 1 23 [(0, .ref 60), (1, .ref l1), (2, .int l2), (3, .int l3), (4, .int l4)] [.int s0] V P := by
  unfold B_X10_traceContour_23 at h
  refine sx_istore (pc := 23) (lo' := [(5, .int s0), (0, .ref 60), (1, .ref l1), (2, .int l2), (3, .int l3), (4, .int l4)]) dX10_traceContour_23 (by decide) rfl ?_
  refine sx_iload (pc := 25) dX10_traceContour_25 sx_m5 ?_
  refine sx_iload_n (pc := 27) dX10_traceContour_27 sx_m4 ?_
  refine sx_icmp_ne (pc := 28) (tgt := 35) dX10_traceContour_28 (by decide) (fun c23 => ?_) (fun c23 => ?_)
  · have h := sx_neg c23 h
    refine sx_iload (pc := 35) dX10_traceContour_35 sx_m5 ?_
    refine sx_iconst (pc := 37) (v := 1) dX10_traceContour_37 (by decide) ?_
    refine sx_iadd (pc := 38) dX10_traceContour_38 ?_
    refine sx_wk (sx_s1 sx_m1 (sx_s1 sx_m2 (sx_s1 sx_m3 (sx_s1 sx_m4 (sx_s1 sx_m5 (sx_s1 sx_m0 sx_s0)))))) ?_
    exact tB_X10_traceContour_39 hG hP hk3 h
  · have h := sx_pos c23 h
    refine sx_iload_n (pc := 31) dX10_traceContour_31 sx_m3 ?_
    refine sx_goto (pc := 32) (tgt := 39) dX10_traceContour_32 (by decide) ?_
    refine sx_wk (sx_s1 sx_m1 (sx_s1 sx_m2 (sx_s1 sx_m3 (sx_s1 sx_m4 (sx_s1 sx_m5 (sx_s1 sx_m0 sx_s0)))))) ?_
    exact tB_X10_traceContour_39 hG hP hk3 h
def B_X10_traceContour_3 (N : Nat) (k3 : Nat → Int32 → Int32 → Int32 → sv_V → Option sv_V) (l1 : Nat) (l2 : Int32) (l3 : Int32) (l4 : Int32) (V : sv_V) : Option sv_V := if l3 < l4 then (some V) else (if l4 = l2 then (B_X10_traceContour_23 N k3 l1 l2 l3 l4 l3 V) else (B_X10_traceContour_23 N k3 l1 l2 l3 l4 (l4 - (1 : Int32)) V))
set_option maxRecDepth 20000 in
theorem tB_X10_traceContour_3 {g : sx_G} (hG : sx_Go g) {P : Option Value → sv_V → Prop} {Vr : sv_V} (hP : P none Vr) {N : Nat} {k3 : Nat → Int32 → Int32 → Int32 → sv_V → Option sv_V} (hk3 : ∀ (l1 : Nat) (l2 : Int32) (l3 : Int32) (l4 : Int32) (V : sv_V), k3 l1 l2 l3 l4 V = some Vr → sv_N g qX10_traceContour 1 3 [(0, .ref 60), (1, .ref l1), (2, .int l2), (3, .int l3), (4, .int l4)] [] V P) {l1 : Nat} {l2 : Int32} {l3 : Int32} {l4 : Int32} {V : sv_V} (h : B_X10_traceContour_3 N k3 l1 l2 l3 l4 V = some Vr) : sv_N g qX10_traceContour 1 3 [(0, .ref 60), (1, .ref l1), (2, .int l2), (3, .int l3), (4, .int l4)] [] V P := by
  unfold B_X10_traceContour_3 at h
  refine sx_iload (pc := 3) dX10_traceContour_3 sx_m4 ?_
  refine sx_iload_n (pc := 5) dX10_traceContour_5 sx_m3 ?_
  refine sx_icmp_gt (pc := 6) (tgt := 107) dX10_traceContour_6 (by decide) (fun c24 => ?_) (fun c24 => ?_)
  · have h := sx_pos c24 h
    exact sv_vret (pc := 107) dX10_traceContour_107 rfl h hP
  · have h := sx_neg c24 h
    refine sx_iload (pc := 9) dX10_traceContour_9 sx_m4 ?_
    refine sx_iload_n (pc := 11) dX10_traceContour_11 sx_m2 ?_
    refine sx_icmp_ne (pc := 12) (tgt := 19) dX10_traceContour_12 (by decide) (fun c25 => ?_) (fun c25 => ?_)
    · have h := sx_neg c25 h
      refine sx_iload (pc := 19) dX10_traceContour_19 sx_m4 ?_
      refine sx_iconst (pc := 21) (v := 1) dX10_traceContour_21 (by decide) ?_
      refine sx_isub (pc := 22) dX10_traceContour_22 ?_
      refine sx_wk (sx_s1 sx_m0 (sx_s1 sx_m1 (sx_s1 sx_m2 (sx_s1 sx_m3 (sx_s1 sx_m4 sx_s0))))) ?_
      exact tB_X10_traceContour_23 hG hP hk3 h
    · have h := sx_pos c25 h
      refine sx_iload_n (pc := 15) dX10_traceContour_15 sx_m3 ?_
      refine sx_goto (pc := 16) (tgt := 23) dX10_traceContour_16 (by decide) ?_
      refine sx_wk (sx_s1 sx_m0 (sx_s1 sx_m1 (sx_s1 sx_m2 (sx_s1 sx_m3 (sx_s1 sx_m4 sx_s0))))) ?_
      exact tB_X10_traceContour_23 hG hP hk3 h
theorem tL_X10_traceContour_3 {g : sx_G} (hG : sx_Go g) {P : Option Value → sv_V → Prop} {Vr : sv_V} (hP : P none Vr) {N : Nat}   : ∀ (n : Nat) (l1 : Nat) (l2 : Int32) (l3 : Int32) (l4 : Int32) (V : sv_V), sx_lp5 (B_X10_traceContour_3 N ) n l1 l2 l3 l4 V = some Vr → sv_N g qX10_traceContour 1 3 [(0, .ref 60), (1, .ref l1), (2, .int l2), (3, .int l3), (4, .int l4)] [] V P :=
  sx_lp5_ind (fun k0 ih _ _ _ _ V h => tB_X10_traceContour_3 hG hP ih h)
def F_X10_traceContour (N : Nat) (l1 : Nat) (l2 : Int32) (l3 : Int32) (V : sv_V) : Option sv_V := sx_lp5 (B_X10_traceContour_3 N ) N l1 l2 l3 l2 V
set_option maxRecDepth 20000 in
theorem t_X10_traceContour {g : sx_G} (hG : sx_Go g) {P : Option Value → sv_V → Prop} {Vr : sv_V} (hP : P none Vr) {N : Nat} {l1 : Nat} {l2 : Int32} {l3 : Int32} {V : sv_V} (h : F_X10_traceContour N l1 l2 l3 V = some Vr) : sv_N g qX10_traceContour 1 0 [(0, .ref 60), (1, .ref l1), (2, .int l2), (3, .int l3)] [] V P := by
  unfold F_X10_traceContour at h
  refine sx_iload_n (pc := 0) dX10_traceContour_0 sx_m2 ?_
  refine sx_istore (pc := 1) (lo' := [(4, .int l2), (0, .ref 60), (1, .ref l1), (2, .int l2), (3, .int l3)]) dX10_traceContour_1 (by decide) rfl ?_
  refine sx_wk (sx_s1 sx_m1 (sx_s1 sx_m2 (sx_s1 sx_m3 (sx_s1 sx_m4 (sx_s1 sx_m0 sx_s0))))) ?_
  exact tL_X10_traceContour_3 hG hP  N _ _ _ _ _ h
def ncX10_chooseRow : Nat := 19872783747951304263212093458612745271082280232897634733936817865794748778227658528513885243636376932325277169067144318828101815680171717929308437174741944049544667680816609809039566042535729056351734042128923883346512015604998318055899885433620071210
theorem kcX10_chooseRow : CK cX10_chooseRow ncX10_chooseRow 104 := ⟨by decide +kernel, by decide +kernel⟩
theorem dX10_chooseRow_0 : decode cX10_chooseRow 0 = .ok (.aload_n 0, 1) := dl_o42 kcX10_chooseRow (by decide +kernel)
theorem dX10_chooseRow_1 : decode cX10_chooseRow 1 = .ok (.iconst 0, 1) := dl_o3 kcX10_chooseRow (by decide +kernel)
theorem dX10_chooseRow_2 : decode cX10_chooseRow 2 = .ok (.putfield 91, 3) := dl_o181 kcX10_chooseRow (by decide +kernel)
theorem dX10_chooseRow_5 : decode cX10_chooseRow 5 = .ok (.iconst 0, 1) := dl_o3 kcX10_chooseRow (by decide +kernel)
theorem dX10_chooseRow_6 : decode cX10_chooseRow 6 = .ok (.istore_n 2, 1) := dl_o61 kcX10_chooseRow (by decide +kernel)
theorem dX10_chooseRow_7 : decode cX10_chooseRow 7 = .ok (.iload_n 2, 1) := dl_o28 kcX10_chooseRow (by decide +kernel)
theorem dX10_chooseRow_8 : decode cX10_chooseRow 8 = .ok (.aload_n 0, 1) := dl_o42 kcX10_chooseRow (by decide +kernel)
theorem dX10_chooseRow_9 : decode cX10_chooseRow 9 = .ok (.getfield 37, 3) := dl_o180 kcX10_chooseRow (by decide +kernel)
theorem dX10_chooseRow_12 : decode cX10_chooseRow 12 = .ok (.if_icmp .ge 91, 3) := dl_o162 kcX10_chooseRow 91 (by decide +kernel) (by decide +kernel)
theorem dX10_chooseRow_15 : decode cX10_chooseRow 15 = .ok (.aload_n 0, 1) := dl_o42 kcX10_chooseRow (by decide +kernel)
theorem dX10_chooseRow_16 : decode cX10_chooseRow 16 = .ok (.getfield 15, 3) := dl_o180 kcX10_chooseRow (by decide +kernel)
theorem dX10_chooseRow_19 : decode cX10_chooseRow 19 = .ok (.iload_n 2, 1) := dl_o28 kcX10_chooseRow (by decide +kernel)
theorem dX10_chooseRow_20 : decode cX10_chooseRow 20 = .ok (.iaload, 1) := dl_o46 kcX10_chooseRow (by decide +kernel)
theorem dX10_chooseRow_21 : decode cX10_chooseRow 21 = .ok (.aload_n 0, 1) := dl_o42 kcX10_chooseRow (by decide +kernel)
theorem dX10_chooseRow_22 : decode cX10_chooseRow 22 = .ok (.getfield 21, 3) := dl_o180 kcX10_chooseRow (by decide +kernel)
theorem dX10_chooseRow_25 : decode cX10_chooseRow 25 = .ok (.iload_n 2, 1) := dl_o28 kcX10_chooseRow (by decide +kernel)
theorem dX10_chooseRow_26 : decode cX10_chooseRow 26 = .ok (.iaload, 1) := dl_o46 kcX10_chooseRow (by decide +kernel)
theorem dX10_chooseRow_27 : decode cX10_chooseRow 27 = .ok (.aload_n 0, 1) := dl_o42 kcX10_chooseRow (by decide +kernel)
theorem dX10_chooseRow_28 : decode cX10_chooseRow 28 = .ok (.getfield 27, 3) := dl_o180 kcX10_chooseRow (by decide +kernel)
theorem dX10_chooseRow_31 : decode cX10_chooseRow 31 = .ok (.iload_n 2, 1) := dl_o28 kcX10_chooseRow (by decide +kernel)
theorem dX10_chooseRow_32 : decode cX10_chooseRow 32 = .ok (.iaload, 1) := dl_o46 kcX10_chooseRow (by decide +kernel)
theorem dX10_chooseRow_33 : decode cX10_chooseRow 33 = .ok (.invokestatic 69, 3) := dl_o184 kcX10_chooseRow (by decide +kernel)
theorem dX10_chooseRow_36 : decode cX10_chooseRow 36 = .ok (.invokestatic 69, 3) := dl_o184 kcX10_chooseRow (by decide +kernel)
theorem dX10_chooseRow_39 : decode cX10_chooseRow 39 = .ok (.istore_n 3, 1) := dl_o62 kcX10_chooseRow (by decide +kernel)
theorem dX10_chooseRow_40 : decode cX10_chooseRow 40 = .ok (.aload_n 0, 1) := dl_o42 kcX10_chooseRow (by decide +kernel)
theorem dX10_chooseRow_41 : decode cX10_chooseRow 41 = .ok (.getfield 15, 3) := dl_o180 kcX10_chooseRow (by decide +kernel)
theorem dX10_chooseRow_44 : decode cX10_chooseRow 44 = .ok (.iload_n 2, 1) := dl_o28 kcX10_chooseRow (by decide +kernel)
theorem dX10_chooseRow_45 : decode cX10_chooseRow 45 = .ok (.iaload, 1) := dl_o46 kcX10_chooseRow (by decide +kernel)
theorem dX10_chooseRow_46 : decode cX10_chooseRow 46 = .ok (.aload_n 0, 1) := dl_o42 kcX10_chooseRow (by decide +kernel)
theorem dX10_chooseRow_47 : decode cX10_chooseRow 47 = .ok (.getfield 21, 3) := dl_o180 kcX10_chooseRow (by decide +kernel)
theorem dX10_chooseRow_50 : decode cX10_chooseRow 50 = .ok (.iload_n 2, 1) := dl_o28 kcX10_chooseRow (by decide +kernel)
theorem dX10_chooseRow_51 : decode cX10_chooseRow 51 = .ok (.iaload, 1) := dl_o46 kcX10_chooseRow (by decide +kernel)
theorem dX10_chooseRow_52 : decode cX10_chooseRow 52 = .ok (.aload_n 0, 1) := dl_o42 kcX10_chooseRow (by decide +kernel)
theorem dX10_chooseRow_53 : decode cX10_chooseRow 53 = .ok (.getfield 27, 3) := dl_o180 kcX10_chooseRow (by decide +kernel)
theorem dX10_chooseRow_56 : decode cX10_chooseRow 56 = .ok (.iload_n 2, 1) := dl_o28 kcX10_chooseRow (by decide +kernel)
theorem dX10_chooseRow_57 : decode cX10_chooseRow 57 = .ok (.iaload, 1) := dl_o46 kcX10_chooseRow (by decide +kernel)
theorem dX10_chooseRow_58 : decode cX10_chooseRow 58 = .ok (.invokestatic 75, 3) := dl_o184 kcX10_chooseRow (by decide +kernel)
theorem dX10_chooseRow_61 : decode cX10_chooseRow 61 = .ok (.invokestatic 75, 3) := dl_o184 kcX10_chooseRow (by decide +kernel)
theorem dX10_chooseRow_64 : decode cX10_chooseRow 64 = .ok (.istore 4, 2) := dl_o54 kcX10_chooseRow (by decide +kernel)
theorem dX10_chooseRow_66 : decode cX10_chooseRow 66 = .ok (.iload_n 3, 1) := dl_o29 kcX10_chooseRow (by decide +kernel)
theorem dX10_chooseRow_67 : decode cX10_chooseRow 67 = .ok (.iload_n 1, 1) := dl_o27 kcX10_chooseRow (by decide +kernel)
theorem dX10_chooseRow_68 : decode cX10_chooseRow 68 = .ok (.if_icmp .gt 29, 3) := dl_o163 kcX10_chooseRow 29 (by decide +kernel) (by decide +kernel)
theorem dX10_chooseRow_71 : decode cX10_chooseRow 71 = .ok (.iload_n 1, 1) := dl_o27 kcX10_chooseRow (by decide +kernel)
theorem dX10_chooseRow_72 : decode cX10_chooseRow 72 = .ok (.iload 4, 2) := dl_o21 kcX10_chooseRow (by decide +kernel)
theorem dX10_chooseRow_74 : decode cX10_chooseRow 74 = .ok (.if_icmp .gt 23, 3) := dl_o163 kcX10_chooseRow 23 (by decide +kernel) (by decide +kernel)
theorem dX10_chooseRow_77 : decode cX10_chooseRow 77 = .ok (.aload_n 0, 1) := dl_o42 kcX10_chooseRow (by decide +kernel)
theorem dX10_chooseRow_78 : decode cX10_chooseRow 78 = .ok (.getfield 34, 3) := dl_o180 kcX10_chooseRow (by decide +kernel)
theorem dX10_chooseRow_81 : decode cX10_chooseRow 81 = .ok (.aload_n 0, 1) := dl_o42 kcX10_chooseRow (by decide +kernel)
theorem dX10_chooseRow_82 : decode cX10_chooseRow 82 = .ok (.getfield 91, 3) := dl_o180 kcX10_chooseRow (by decide +kernel)
theorem dX10_chooseRow_85 : decode cX10_chooseRow 85 = .ok (.iload_n 2, 1) := dl_o28 kcX10_chooseRow (by decide +kernel)
theorem dX10_chooseRow_86 : decode cX10_chooseRow 86 = .ok (.iastore, 1) := dl_o79 kcX10_chooseRow (by decide +kernel)
theorem dX10_chooseRow_87 : decode cX10_chooseRow 87 = .ok (.aload_n 0, 1) := dl_o42 kcX10_chooseRow (by decide +kernel)
theorem dX10_chooseRow_88 : decode cX10_chooseRow 88 = .ok (.dup, 1) := dl_o89 kcX10_chooseRow (by decide +kernel)
theorem dX10_chooseRow_89 : decode cX10_chooseRow 89 = .ok (.getfield 91, 3) := dl_o180 kcX10_chooseRow (by decide +kernel)
theorem dX10_chooseRow_92 : decode cX10_chooseRow 92 = .ok (.iconst 1, 1) := dl_o4 kcX10_chooseRow (by decide +kernel)
theorem dX10_chooseRow_93 : decode cX10_chooseRow 93 = .ok (.iadd, 1) := dl_o96 kcX10_chooseRow (by decide +kernel)
theorem dX10_chooseRow_94 : decode cX10_chooseRow 94 = .ok (.putfield 91, 3) := dl_o181 kcX10_chooseRow (by decide +kernel)
theorem dX10_chooseRow_97 : decode cX10_chooseRow 97 = .ok (.iinc 2 1, 3) := by decide +kernel
theorem dX10_chooseRow_100 : decode cX10_chooseRow 100 = .ok (.goto (-93), 3) := dl_o167 kcX10_chooseRow 65443 (by decide +kernel) (by decide +kernel)
theorem dX10_chooseRow_103 : decode cX10_chooseRow 103 = .ok (.return_, 1) := dl_o177 kcX10_chooseRow (by decide +kernel)
def B_X10_chooseRow_97 (N : Nat) (k7 : Int32 → Int32 → sv_V → Option sv_V) (l1 : Int32) (l2 : Int32) (V : sv_V) : Option sv_V := sx_let (l2 + 1) (fun x1 => k7 l1 x1 V)
set_option maxRecDepth 20000 in
theorem tB_X10_chooseRow_97 {g : sx_G} (hG : sx_Go g) {P : Option Value → sv_V → Prop} {Vr : sv_V} (hP : P none Vr) {N : Nat} {k7 : Int32 → Int32 → sv_V → Option sv_V} (hk7 : ∀ (l1 : Int32) (l2 : Int32) (V : sv_V), k7 l1 l2 V = some Vr → sv_N g qX10_chooseRow 1 7 [(0, .ref 60), (1, .int l1), (2, .int l2)] [] V P) {l1 : Int32} {l2 : Int32} {V : sv_V} (h : B_X10_chooseRow_97 N k7 l1 l2 V = some Vr) : sv_N g qX10_chooseRow 1 97 [(0, .ref 60), (1, .int l1), (2, .int l2)] [] V P := by
  unfold B_X10_chooseRow_97 at h
  obtain ⟨x1, hx1⟩ : ∃ z : Int32, z = l2 + 1 := ⟨_, rfl⟩
  have h := sx_letE hx1 h
  refine sx_iinc (pc := 97) (v := x1) (lo' := [(2, .int x1), (0, .ref 60), (1, .int l1)]) dX10_chooseRow_97 sx_m2 (by rw [hx1]; rfl) (by decide) rfl ?_
  refine sx_goto (pc := 100) (tgt := 7) dX10_chooseRow_100 (by decide) ?_
  refine sx_wk (sx_s1 sx_m1 (sx_s1 sx_m2 (sx_s1 sx_m0 sx_s0))) ?_
  exact hk7 _ _ _ h
def B_X10_chooseRow_7 (N : Nat) (k7 : Int32 → Int32 → sv_V → Option sv_V) (l1 : Int32) (l2 : Int32) (V : sv_V) : Option sv_V := if (V.1 60 7) ≤ l2 then (some V) else (if sx_in l2 100 = true then if sx_in l2 100 = true then if sx_in l2 100 = true then (F_J9_min_7cf53 (V.1 64 l2.toNatClampNeg) (V.1 66 l2.toNatClampNeg) V).bind (fun (x8, V6) => (F_J9_min_7cf53 (V.1 62 l2.toNatClampNeg) x8 V6).bind (fun (x11, V9) => if sx_in l2 100 = true then if sx_in l2 100 = true then if sx_in l2 100 = true then (F_J9_max_7cf53 (V9.1 64 l2.toNatClampNeg) (V9.1 66 l2.toNatClampNeg) V9).bind (fun (x17, V15) => (F_J9_max_7cf53 (V9.1 62 l2.toNatClampNeg) x17 V15).bind (fun (x20, V18) => if l1 < x11 then (B_X10_chooseRow_97 N k7 l1 l2 V18) else (if x20 < l1 then (B_X10_chooseRow_97 N k7 l1 l2 V18) else (if sx_in (V18.1 60 9) 100 = true then sx_let (sv_I V18 68 (V18.1 60 9).toNatClampNeg l2) (fun V24 => sx_let (sv_I V24 60 9 ((V24.1 60 9) + (1 : Int32))) (fun V25 => B_X10_chooseRow_97 N k7 l1 l2 V25)) else none)))) else none else none else none)) else none else none else none)
set_option maxRecDepth 20000 in
theorem tB_X10_chooseRow_7 {g : sx_G} (hG : sx_Go g) {P : Option Value → sv_V → Prop} {Vr : sv_V} (hP : P none Vr) {N : Nat} {k7 : Int32 → Int32 → sv_V → Option sv_V} (hk7 : ∀ (l1 : Int32) (l2 : Int32) (V : sv_V), k7 l1 l2 V = some Vr → sv_N g qX10_chooseRow 1 7 [(0, .ref 60), (1, .int l1), (2, .int l2)] [] V P) {l1 : Int32} {l2 : Int32} {V : sv_V} (h : B_X10_chooseRow_7 N k7 l1 l2 V = some Vr) : sv_N g qX10_chooseRow 1 7 [(0, .ref 60), (1, .int l1), (2, .int l2)] [] V P := by
  unfold B_X10_chooseRow_7 at h
  refine sx_iload_n (pc := 7) dX10_chooseRow_7 sx_m2 ?_
  refine sx_aload_n (pc := 8) dX10_chooseRow_8 sx_m0 ?_
  refine sv_getI (pc := 9) hG dX10_chooseRow_9 f_10_37 lay_60 rfl ?_
  refine sx_icmp_ge (pc := 12) (tgt := 103) dX10_chooseRow_12 (by decide) (fun c2 => ?_) (fun c2 => ?_)
  · have h := sx_pos c2 h
    exact sv_vret (pc := 103) dX10_chooseRow_103 rfl h hP
  · have h := sx_neg c2 h
    refine sx_aload_n (pc := 15) dX10_chooseRow_15 sx_m0 ?_
    refine sv_getA (pc := 16) hG dX10_chooseRow_16 f_10_15 lay_60 rfl cr_60_1 ?_
    refine sx_iload_n (pc := 19) dX10_chooseRow_19 sx_m2 ?_
    obtain ⟨g3, h⟩ := sx_grd h
    refine sv_iald (pc := 20) hG dX10_chooseRow_20 lay_62 g3 ?_
    refine sx_aload_n (pc := 21) dX10_chooseRow_21 sx_m0 ?_
    refine sv_getA (pc := 22) hG dX10_chooseRow_22 f_10_21 lay_60 rfl cr_60_3 ?_
    refine sx_iload_n (pc := 25) dX10_chooseRow_25 sx_m2 ?_
    obtain ⟨g4, h⟩ := sx_grd h
    refine sv_iald (pc := 26) hG dX10_chooseRow_26 lay_64 g4 ?_
    refine sx_aload_n (pc := 27) dX10_chooseRow_27 sx_m0 ?_
    refine sv_getA (pc := 28) hG dX10_chooseRow_28 f_10_27 lay_60 rfl cr_60_5 ?_
    refine sx_iload_n (pc := 31) dX10_chooseRow_31 sx_m2 ?_
    obtain ⟨g5, h⟩ := sx_grd h
    refine sv_iald (pc := 32) hG dX10_chooseRow_32 lay_66 g5 ?_
    obtain ⟨⟨x8, V6⟩, g7, h⟩ := sx_bnd h
    refine sv_cS (pc := 33) (y := qJ9_min_7cf53) (o := (some (.int x8))) (as := [.int (V.1 64 l2.toNatClampNeg), .int (V.1 66 l2.toNatClampNeg)]) (V1 := V6) dX10_chooseRow_33 l_X10_69 y0J9_min_7cf53 ysJ9_min_7cf53 rfl (Nat.le_of_ble_eq_true rfl) (by decide) (Nat.le_of_ble_eq_true rfl) rfl rfl rfl (t_J9_min_7cf53 hG ⟨rfl, rfl⟩ g7) ?_
    obtain ⟨⟨x11, V9⟩, g10, h⟩ := sx_bnd h
    refine sv_cS (pc := 36) (y := qJ9_min_7cf53) (o := (some (.int x11))) (as := [.int (V.1 62 l2.toNatClampNeg), .int x8]) (V1 := V9) dX10_chooseRow_36 l_X10_69 y0J9_min_7cf53 ysJ9_min_7cf53 rfl (Nat.le_of_ble_eq_true rfl) (by decide) (Nat.le_of_ble_eq_true rfl) rfl rfl rfl (t_J9_min_7cf53 hG ⟨rfl, rfl⟩ g10) ?_
    refine sx_istore_n (pc := 39) (lo' := [(3, .int x11), (0, .ref 60), (1, .int l1), (2, .int l2)]) dX10_chooseRow_39 (by decide) rfl ?_
    refine sx_aload_n (pc := 40) dX10_chooseRow_40 sx_m1 ?_
    refine sv_getA (pc := 41) hG dX10_chooseRow_41 f_10_15 lay_60 rfl cr_60_1 ?_
    refine sx_iload_n (pc := 44) dX10_chooseRow_44 sx_m3 ?_
    obtain ⟨g12, h⟩ := sx_grd h
    refine sv_iald (pc := 45) hG dX10_chooseRow_45 lay_62 g12 ?_
    refine sx_aload_n (pc := 46) dX10_chooseRow_46 sx_m1 ?_
    refine sv_getA (pc := 47) hG dX10_chooseRow_47 f_10_21 lay_60 rfl cr_60_3 ?_
    refine sx_iload_n (pc := 50) dX10_chooseRow_50 sx_m3 ?_
    obtain ⟨g13, h⟩ := sx_grd h
    refine sv_iald (pc := 51) hG dX10_chooseRow_51 lay_64 g13 ?_
    refine sx_aload_n (pc := 52) dX10_chooseRow_52 sx_m1 ?_
    refine sv_getA (pc := 53) hG dX10_chooseRow_53 f_10_27 lay_60 rfl cr_60_5 ?_
    refine sx_iload_n (pc := 56) dX10_chooseRow_56 sx_m3 ?_
    obtain ⟨g14, h⟩ := sx_grd h
    refine sv_iald (pc := 57) hG dX10_chooseRow_57 lay_66 g14 ?_
    obtain ⟨⟨x17, V15⟩, g16, h⟩ := sx_bnd h
    refine sv_cS (pc := 58) (y := qJ9_max_7cf53) (o := (some (.int x17))) (as := [.int (V9.1 64 l2.toNatClampNeg), .int (V9.1 66 l2.toNatClampNeg)]) (V1 := V15) dX10_chooseRow_58 l_X10_75 y0J9_max_7cf53 ysJ9_max_7cf53 rfl (Nat.le_of_ble_eq_true rfl) (by decide) (Nat.le_of_ble_eq_true rfl) rfl rfl rfl (t_J9_max_7cf53 hG ⟨rfl, rfl⟩ g16) ?_
    obtain ⟨⟨x20, V18⟩, g19, h⟩ := sx_bnd h
    refine sv_cS (pc := 61) (y := qJ9_max_7cf53) (o := (some (.int x20))) (as := [.int (V9.1 62 l2.toNatClampNeg), .int x17]) (V1 := V18) dX10_chooseRow_61 l_X10_75 y0J9_max_7cf53 ysJ9_max_7cf53 rfl (Nat.le_of_ble_eq_true rfl) (by decide) (Nat.le_of_ble_eq_true rfl) rfl rfl rfl (t_J9_max_7cf53 hG ⟨rfl, rfl⟩ g19) ?_
    refine sx_istore (pc := 64) (lo' := [(4, .int x20), (3, .int x11), (0, .ref 60), (1, .int l1), (2, .int l2)]) dX10_chooseRow_64 (by decide) rfl ?_
    refine sx_iload_n (pc := 66) dX10_chooseRow_66 sx_m1 ?_
    refine sx_iload_n (pc := 67) dX10_chooseRow_67 sx_m3 ?_
    refine sx_icmp_gt (pc := 68) (tgt := 97) dX10_chooseRow_68 (by decide) (fun c21 => ?_) (fun c21 => ?_)
    · have h := sx_pos c21 h
      refine sx_wk (sx_s1 sx_m2 (sx_s1 sx_m3 (sx_s1 sx_m4 sx_s0))) ?_
      exact tB_X10_chooseRow_97 hG hP hk7 h
    · have h := sx_neg c21 h
      refine sx_iload_n (pc := 71) dX10_chooseRow_71 sx_m3 ?_
      refine sx_iload (pc := 72) dX10_chooseRow_72 sx_m0 ?_
      refine sx_icmp_gt (pc := 74) (tgt := 97) dX10_chooseRow_74 (by decide) (fun c22 => ?_) (fun c22 => ?_)
      · have h := sx_pos c22 h
        refine sx_wk (sx_s1 sx_m2 (sx_s1 sx_m3 (sx_s1 sx_m4 sx_s0))) ?_
        exact tB_X10_chooseRow_97 hG hP hk7 h
      · have h := sx_neg c22 h
        refine sx_aload_n (pc := 77) dX10_chooseRow_77 sx_m2 ?_
        refine sv_getA (pc := 78) hG dX10_chooseRow_78 f_10_34 lay_60 rfl cr_60_8 ?_
        refine sx_aload_n (pc := 81) dX10_chooseRow_81 sx_m2 ?_
        refine sv_getI (pc := 82) hG dX10_chooseRow_82 f_10_91 lay_60 rfl ?_
        refine sx_iload_n (pc := 85) dX10_chooseRow_85 sx_m4 ?_
        obtain ⟨g23, h⟩ := sx_grd h
        obtain ⟨V24, hV24⟩ : ∃ z : sv_V, z = sv_I V18 68 (V18.1 60 9).toNatClampNeg l2 := ⟨_, rfl⟩
        have h := sx_letE hV24 h
        refine sv_iast (pc := 86) hG dX10_chooseRow_86 lay_68 g23 hV24 ?_
        refine sx_aload_n (pc := 87) dX10_chooseRow_87 sx_m2 ?_
        refine sx_dup (pc := 88) dX10_chooseRow_88 rfl ?_
        refine sv_getI (pc := 89) hG dX10_chooseRow_89 f_10_91 lay_60 rfl ?_
        refine sx_iconst (pc := 92) (v := 1) dX10_chooseRow_92 (by decide) ?_
        refine sx_iadd (pc := 93) dX10_chooseRow_93 ?_
        obtain ⟨V25, hV25⟩ : ∃ z : sv_V, z = sv_I V24 60 9 ((V24.1 60 9) + (1 : Int32)) := ⟨_, rfl⟩
        have h := sx_letE hV25 h
        refine sv_putI (pc := 94) hG dX10_chooseRow_94 f_10_91 lay_60 rfl hV25 ?_
        refine sx_wk (sx_s1 sx_m2 (sx_s1 sx_m3 (sx_s1 sx_m4 sx_s0))) ?_
        exact tB_X10_chooseRow_97 hG hP hk7 h
theorem tL_X10_chooseRow_7 {g : sx_G} (hG : sx_Go g) {P : Option Value → sv_V → Prop} {Vr : sv_V} (hP : P none Vr) {N : Nat}   : ∀ (n : Nat) (l1 : Int32) (l2 : Int32) (V : sv_V), sx_lp3 (B_X10_chooseRow_7 N ) n l1 l2 V = some Vr → sv_N g qX10_chooseRow 1 7 [(0, .ref 60), (1, .int l1), (2, .int l2)] [] V P :=
  sx_lp3_ind (fun k0 ih _ _ V h => tB_X10_chooseRow_7 hG hP ih h)
def F_X10_chooseRow (N : Nat) (l1 : Int32) (V : sv_V) : Option sv_V := sx_let (sv_I V 60 9 (0 : Int32)) (fun V26 => sx_lp3 (B_X10_chooseRow_7 N ) N l1 (0 : Int32) V26)
set_option maxRecDepth 20000 in
theorem t_X10_chooseRow {g : sx_G} (hG : sx_Go g) {P : Option Value → sv_V → Prop} {Vr : sv_V} (hP : P none Vr) {N : Nat} {l1 : Int32} {V : sv_V} (h : F_X10_chooseRow N l1 V = some Vr) : sv_N g qX10_chooseRow 1 0 [(0, .ref 60), (1, .int l1)] [] V P := by
  unfold F_X10_chooseRow at h
  refine sx_aload_n (pc := 0) dX10_chooseRow_0 sx_m0 ?_
  refine sx_iconst (pc := 1) (v := 0) dX10_chooseRow_1 (by decide) ?_
  obtain ⟨V26, hV26⟩ : ∃ z : sv_V, z = sv_I V 60 9 (0 : Int32) := ⟨_, rfl⟩
  have h := sx_letE hV26 h
  refine sv_putI (pc := 2) hG dX10_chooseRow_2 f_10_91 lay_60 rfl hV26 ?_
  refine sx_iconst (pc := 5) (v := 0) dX10_chooseRow_5 (by decide) ?_
  refine sx_istore_n (pc := 6) (lo' := [(2, .int (0 : Int32)), (0, .ref 60), (1, .int l1)]) dX10_chooseRow_6 (by decide) rfl ?_
  refine sx_wk (sx_s1 sx_m1 (sx_s1 sx_m2 (sx_s1 sx_m0 sx_s0))) ?_
  exact tL_X10_chooseRow_7 hG hP  N _ _ _ h
def ncX10_meets : Nat := 44811088528371672159851981836533079224101086696190765152514420893515043952488095523704291480991720124871354726498743212866672392584285801110781343338302075055227131011075883417743148146549255508350563759726338815190900883674808766715404931725499392593918616247441189236117274034211133135999116950598488443793123405099611425879708172209127576645273227424841288213194883372810958221188365253318713866592643441083488335527982928054400139111726530974087342113646238966692362474088466842445957827851907600777955866739494147807092128100529558482345869500561689408910278424930473873976697733668967524169146930072183138869767688554682424675758749347275509854500533951283916994580192840908818299224063590885618481676111473185817668486878312851105164343492496306220096684847984563793504869941090791647355691636578177647478308056855068662837698705392888659982387152857270113230344613070070920234
theorem kcX10_meets : CK cX10_meets ncX10_meets 367 := ⟨by decide +kernel, by decide +kernel⟩
theorem dX10_meets_0 : decode cX10_meets 0 = .ok (.aload_n 0, 1) := dl_o42 kcX10_meets (by decide +kernel)
theorem dX10_meets_1 : decode cX10_meets 1 = .ok (.getfield 9, 3) := dl_o180 kcX10_meets (by decide +kernel)
theorem dX10_meets_4 : decode cX10_meets 4 = .ok (.iload_n 1, 1) := dl_o27 kcX10_meets (by decide +kernel)
theorem dX10_meets_5 : decode cX10_meets 5 = .ok (.iaload, 1) := dl_o46 kcX10_meets (by decide +kernel)
theorem dX10_meets_6 : decode cX10_meets 6 = .ok (.iload_n 2, 1) := dl_o28 kcX10_meets (by decide +kernel)
theorem dX10_meets_7 : decode cX10_meets 7 = .ok (.isub, 1) := dl_o100 kcX10_meets (by decide +kernel)
theorem dX10_meets_8 : decode cX10_meets 8 = .ok (.i2l, 1) := dl_o133 kcX10_meets (by decide +kernel)
theorem dX10_meets_9 : decode cX10_meets 9 = .ok (.lstore 4, 2) := dl_o55 kcX10_meets (by decide +kernel)
theorem dX10_meets_11 : decode cX10_meets 11 = .ok (.aload_n 0, 1) := dl_o42 kcX10_meets (by decide +kernel)
theorem dX10_meets_12 : decode cX10_meets 12 = .ok (.getfield 15, 3) := dl_o180 kcX10_meets (by decide +kernel)
theorem dX10_meets_15 : decode cX10_meets 15 = .ok (.iload_n 1, 1) := dl_o27 kcX10_meets (by decide +kernel)
theorem dX10_meets_16 : decode cX10_meets 16 = .ok (.iaload, 1) := dl_o46 kcX10_meets (by decide +kernel)
theorem dX10_meets_17 : decode cX10_meets 17 = .ok (.iload_n 3, 1) := dl_o29 kcX10_meets (by decide +kernel)
theorem dX10_meets_18 : decode cX10_meets 18 = .ok (.isub, 1) := dl_o100 kcX10_meets (by decide +kernel)
theorem dX10_meets_19 : decode cX10_meets 19 = .ok (.i2l, 1) := dl_o133 kcX10_meets (by decide +kernel)
theorem dX10_meets_20 : decode cX10_meets 20 = .ok (.lstore 6, 2) := dl_o55 kcX10_meets (by decide +kernel)
theorem dX10_meets_22 : decode cX10_meets 22 = .ok (.aload_n 0, 1) := dl_o42 kcX10_meets (by decide +kernel)
theorem dX10_meets_23 : decode cX10_meets 23 = .ok (.getfield 24, 3) := dl_o180 kcX10_meets (by decide +kernel)
theorem dX10_meets_26 : decode cX10_meets 26 = .ok (.iload_n 1, 1) := dl_o27 kcX10_meets (by decide +kernel)
theorem dX10_meets_27 : decode cX10_meets 27 = .ok (.iaload, 1) := dl_o46 kcX10_meets (by decide +kernel)
theorem dX10_meets_28 : decode cX10_meets 28 = .ok (.iload_n 2, 1) := dl_o28 kcX10_meets (by decide +kernel)
theorem dX10_meets_29 : decode cX10_meets 29 = .ok (.isub, 1) := dl_o100 kcX10_meets (by decide +kernel)
theorem dX10_meets_30 : decode cX10_meets 30 = .ok (.i2l, 1) := dl_o133 kcX10_meets (by decide +kernel)
theorem dX10_meets_31 : decode cX10_meets 31 = .ok (.lstore 8, 2) := dl_o55 kcX10_meets (by decide +kernel)
theorem dX10_meets_33 : decode cX10_meets 33 = .ok (.aload_n 0, 1) := dl_o42 kcX10_meets (by decide +kernel)
theorem dX10_meets_34 : decode cX10_meets 34 = .ok (.getfield 27, 3) := dl_o180 kcX10_meets (by decide +kernel)
theorem dX10_meets_37 : decode cX10_meets 37 = .ok (.iload_n 1, 1) := dl_o27 kcX10_meets (by decide +kernel)
theorem dX10_meets_38 : decode cX10_meets 38 = .ok (.iaload, 1) := dl_o46 kcX10_meets (by decide +kernel)
theorem dX10_meets_39 : decode cX10_meets 39 = .ok (.iload_n 3, 1) := dl_o29 kcX10_meets (by decide +kernel)
theorem dX10_meets_40 : decode cX10_meets 40 = .ok (.isub, 1) := dl_o100 kcX10_meets (by decide +kernel)
theorem dX10_meets_41 : decode cX10_meets 41 = .ok (.i2l, 1) := dl_o133 kcX10_meets (by decide +kernel)
theorem dX10_meets_42 : decode cX10_meets 42 = .ok (.lstore 10, 2) := dl_o55 kcX10_meets (by decide +kernel)
theorem dX10_meets_44 : decode cX10_meets 44 = .ok (.aload_n 0, 1) := dl_o42 kcX10_meets (by decide +kernel)
theorem dX10_meets_45 : decode cX10_meets 45 = .ok (.dup, 1) := dl_o89 kcX10_meets (by decide +kernel)
theorem dX10_meets_46 : decode cX10_meets 46 = .ok (.getfield 94, 3) := dl_o180 kcX10_meets (by decide +kernel)
theorem dX10_meets_49 : decode cX10_meets 49 = .ok (.lload 4, 2) := dl_o22 kcX10_meets (by decide +kernel)
theorem dX10_meets_51 : decode cX10_meets 51 = .ok (.lload 6, 2) := dl_o22 kcX10_meets (by decide +kernel)
theorem dX10_meets_53 : decode cX10_meets 53 = .ok (.lload 8, 2) := dl_o22 kcX10_meets (by decide +kernel)
theorem dX10_meets_55 : decode cX10_meets 55 = .ok (.lload 10, 2) := dl_o22 kcX10_meets (by decide +kernel)
theorem dX10_meets_57 : decode cX10_meets 57 = .ok (.invokestatic 101, 3) := dl_o184 kcX10_meets (by decide +kernel)
theorem dX10_meets_60 : decode cX10_meets 60 = .ok (.iadd, 1) := dl_o96 kcX10_meets (by decide +kernel)
theorem dX10_meets_61 : decode cX10_meets 61 = .ok (.putfield 94, 3) := dl_o181 kcX10_meets (by decide +kernel)
theorem dX10_meets_64 : decode cX10_meets 64 = .ok (.aload_n 0, 1) := dl_o42 kcX10_meets (by decide +kernel)
theorem dX10_meets_65 : decode cX10_meets 65 = .ok (.getfield 30, 3) := dl_o180 kcX10_meets (by decide +kernel)
theorem dX10_meets_68 : decode cX10_meets 68 = .ok (.iload_n 1, 1) := dl_o27 kcX10_meets (by decide +kernel)
theorem dX10_meets_69 : decode cX10_meets 69 = .ok (.baload, 1) := dl_o51 kcX10_meets (by decide +kernel)
theorem dX10_meets_70 : decode cX10_meets 70 = .ok (.ifCond .ne 47, 3) := dl_o154 kcX10_meets 47 (by decide +kernel) (by decide +kernel)
theorem dX10_meets_73 : decode cX10_meets 73 = .ok (.lload 4, 2) := dl_o22 kcX10_meets (by decide +kernel)
theorem dX10_meets_75 : decode cX10_meets 75 = .ok (.lload 10, 2) := dl_o22 kcX10_meets (by decide +kernel)
theorem dX10_meets_77 : decode cX10_meets 77 = .ok (.lmul, 1) := dl_o105 kcX10_meets (by decide +kernel)
theorem dX10_meets_78 : decode cX10_meets 78 = .ok (.lload 8, 2) := dl_o22 kcX10_meets (by decide +kernel)
theorem dX10_meets_80 : decode cX10_meets 80 = .ok (.lload 6, 2) := dl_o22 kcX10_meets (by decide +kernel)
theorem dX10_meets_82 : decode cX10_meets 82 = .ok (.lmul, 1) := dl_o105 kcX10_meets (by decide +kernel)
theorem dX10_meets_83 : decode cX10_meets 83 = .ok (.lcmp, 1) := dl_o148 kcX10_meets (by decide +kernel)
theorem dX10_meets_84 : decode cX10_meets 84 = .ok (.ifCond .ne 31, 3) := dl_o154 kcX10_meets 31 (by decide +kernel) (by decide +kernel)
theorem dX10_meets_87 : decode cX10_meets 87 = .ok (.lload 4, 2) := dl_o22 kcX10_meets (by decide +kernel)
theorem dX10_meets_89 : decode cX10_meets 89 = .ok (.lload 4, 2) := dl_o22 kcX10_meets (by decide +kernel)
theorem dX10_meets_91 : decode cX10_meets 91 = .ok (.lload 8, 2) := dl_o22 kcX10_meets (by decide +kernel)
theorem dX10_meets_93 : decode cX10_meets 93 = .ok (.invokestatic 105, 3) := dl_o184 kcX10_meets (by decide +kernel)
theorem dX10_meets_96 : decode cX10_meets 96 = .ok (.ifCond .eq 19, 3) := dl_o153 kcX10_meets 19 (by decide +kernel) (by decide +kernel)
theorem dX10_meets_99 : decode cX10_meets 99 = .ok (.lload 6, 2) := dl_o22 kcX10_meets (by decide +kernel)
theorem dX10_meets_101 : decode cX10_meets 101 = .ok (.lload 6, 2) := dl_o22 kcX10_meets (by decide +kernel)
theorem dX10_meets_103 : decode cX10_meets 103 = .ok (.lload 10, 2) := dl_o22 kcX10_meets (by decide +kernel)
theorem dX10_meets_105 : decode cX10_meets 105 = .ok (.invokestatic 105, 3) := dl_o184 kcX10_meets (by decide +kernel)
theorem dX10_meets_108 : decode cX10_meets 108 = .ok (.ifCond .eq 7, 3) := dl_o153 kcX10_meets 7 (by decide +kernel) (by decide +kernel)
theorem dX10_meets_111 : decode cX10_meets 111 = .ok (.iconst 1, 1) := dl_o4 kcX10_meets (by decide +kernel)
theorem dX10_meets_112 : decode cX10_meets 112 = .ok (.goto 4, 3) := dl_o167 kcX10_meets 4 (by decide +kernel) (by decide +kernel)
theorem dX10_meets_115 : decode cX10_meets 115 = .ok (.iconst 0, 1) := dl_o3 kcX10_meets (by decide +kernel)
theorem dX10_meets_116 : decode cX10_meets 116 = .ok (.ireturn, 1) := dl_o172 kcX10_meets (by decide +kernel)
theorem dX10_meets_117 : decode cX10_meets 117 = .ok (.aload_n 0, 1) := dl_o42 kcX10_meets (by decide +kernel)
theorem dX10_meets_118 : decode cX10_meets 118 = .ok (.getfield 18, 3) := dl_o180 kcX10_meets (by decide +kernel)
theorem dX10_meets_121 : decode cX10_meets 121 = .ok (.iload_n 1, 1) := dl_o27 kcX10_meets (by decide +kernel)
theorem dX10_meets_122 : decode cX10_meets 122 = .ok (.iaload, 1) := dl_o46 kcX10_meets (by decide +kernel)
theorem dX10_meets_123 : decode cX10_meets 123 = .ok (.iload_n 2, 1) := dl_o28 kcX10_meets (by decide +kernel)
theorem dX10_meets_124 : decode cX10_meets 124 = .ok (.isub, 1) := dl_o100 kcX10_meets (by decide +kernel)
theorem dX10_meets_125 : decode cX10_meets 125 = .ok (.i2l, 1) := dl_o133 kcX10_meets (by decide +kernel)
theorem dX10_meets_126 : decode cX10_meets 126 = .ok (.lstore 12, 2) := dl_o55 kcX10_meets (by decide +kernel)
theorem dX10_meets_128 : decode cX10_meets 128 = .ok (.aload_n 0, 1) := dl_o42 kcX10_meets (by decide +kernel)
theorem dX10_meets_129 : decode cX10_meets 129 = .ok (.getfield 21, 3) := dl_o180 kcX10_meets (by decide +kernel)
theorem dX10_meets_132 : decode cX10_meets 132 = .ok (.iload_n 1, 1) := dl_o27 kcX10_meets (by decide +kernel)
theorem dX10_meets_133 : decode cX10_meets 133 = .ok (.iaload, 1) := dl_o46 kcX10_meets (by decide +kernel)
theorem dX10_meets_134 : decode cX10_meets 134 = .ok (.iload_n 3, 1) := dl_o29 kcX10_meets (by decide +kernel)
theorem dX10_meets_135 : decode cX10_meets 135 = .ok (.isub, 1) := dl_o100 kcX10_meets (by decide +kernel)
theorem dX10_meets_136 : decode cX10_meets 136 = .ok (.i2l, 1) := dl_o133 kcX10_meets (by decide +kernel)
theorem dX10_meets_137 : decode cX10_meets 137 = .ok (.lstore 14, 2) := dl_o55 kcX10_meets (by decide +kernel)
theorem dX10_meets_139 : decode cX10_meets 139 = .ok (.lload 12, 2) := dl_o22 kcX10_meets (by decide +kernel)
theorem dX10_meets_141 : decode cX10_meets 141 = .ok (.lload 10, 2) := dl_o22 kcX10_meets (by decide +kernel)
theorem dX10_meets_143 : decode cX10_meets 143 = .ok (.lmul, 1) := dl_o105 kcX10_meets (by decide +kernel)
theorem dX10_meets_144 : decode cX10_meets 144 = .ok (.lload 8, 2) := dl_o22 kcX10_meets (by decide +kernel)
theorem dX10_meets_146 : decode cX10_meets 146 = .ok (.lload 14, 2) := dl_o22 kcX10_meets (by decide +kernel)
theorem dX10_meets_148 : decode cX10_meets 148 = .ok (.lmul, 1) := dl_o105 kcX10_meets (by decide +kernel)
theorem dX10_meets_149 : decode cX10_meets 149 = .ok (.lsub, 1) := dl_o101 kcX10_meets (by decide +kernel)
theorem dX10_meets_150 : decode cX10_meets 150 = .ok (.lstore 16, 2) := dl_o55 kcX10_meets (by decide +kernel)
theorem dX10_meets_152 : decode cX10_meets 152 = .ok (.lload 8, 2) := dl_o22 kcX10_meets (by decide +kernel)
theorem dX10_meets_154 : decode cX10_meets 154 = .ok (.lload 6, 2) := dl_o22 kcX10_meets (by decide +kernel)
theorem dX10_meets_156 : decode cX10_meets 156 = .ok (.lmul, 1) := dl_o105 kcX10_meets (by decide +kernel)
theorem dX10_meets_157 : decode cX10_meets 157 = .ok (.lload 4, 2) := dl_o22 kcX10_meets (by decide +kernel)
theorem dX10_meets_159 : decode cX10_meets 159 = .ok (.lload 10, 2) := dl_o22 kcX10_meets (by decide +kernel)
theorem dX10_meets_161 : decode cX10_meets 161 = .ok (.lmul, 1) := dl_o105 kcX10_meets (by decide +kernel)
theorem dX10_meets_162 : decode cX10_meets 162 = .ok (.lsub, 1) := dl_o101 kcX10_meets (by decide +kernel)
theorem dX10_meets_163 : decode cX10_meets 163 = .ok (.lstore 18, 2) := dl_o55 kcX10_meets (by decide +kernel)
theorem dX10_meets_165 : decode cX10_meets 165 = .ok (.lload 4, 2) := dl_o22 kcX10_meets (by decide +kernel)
theorem dX10_meets_167 : decode cX10_meets 167 = .ok (.lload 14, 2) := dl_o22 kcX10_meets (by decide +kernel)
theorem dX10_meets_169 : decode cX10_meets 169 = .ok (.lmul, 1) := dl_o105 kcX10_meets (by decide +kernel)
theorem dX10_meets_170 : decode cX10_meets 170 = .ok (.lload 12, 2) := dl_o22 kcX10_meets (by decide +kernel)
theorem dX10_meets_172 : decode cX10_meets 172 = .ok (.lload 6, 2) := dl_o22 kcX10_meets (by decide +kernel)
theorem dX10_meets_174 : decode cX10_meets 174 = .ok (.lmul, 1) := dl_o105 kcX10_meets (by decide +kernel)
theorem dX10_meets_175 : decode cX10_meets 175 = .ok (.lsub, 1) := dl_o101 kcX10_meets (by decide +kernel)
theorem dX10_meets_176 : decode cX10_meets 176 = .ok (.lstore 20, 2) := dl_o55 kcX10_meets (by decide +kernel)
theorem dX10_meets_178 : decode cX10_meets 178 = .ok (.lload 16, 2) := dl_o22 kcX10_meets (by decide +kernel)
theorem dX10_meets_180 : decode cX10_meets 180 = .ok (.lload 18, 2) := dl_o22 kcX10_meets (by decide +kernel)
theorem dX10_meets_182 : decode cX10_meets 182 = .ok (.ladd, 1) := dl_o97 kcX10_meets (by decide +kernel)
theorem dX10_meets_183 : decode cX10_meets 183 = .ok (.lload 20, 2) := dl_o22 kcX10_meets (by decide +kernel)
theorem dX10_meets_185 : decode cX10_meets 185 = .ok (.ladd, 1) := dl_o97 kcX10_meets (by decide +kernel)
theorem dX10_meets_186 : decode cX10_meets 186 = .ok (.lstore 22, 2) := dl_o55 kcX10_meets (by decide +kernel)
theorem dX10_meets_188 : decode cX10_meets 188 = .ok (.lload 22, 2) := dl_o22 kcX10_meets (by decide +kernel)
theorem dX10_meets_190 : decode cX10_meets 190 = .ok (.lconst 0, 1) := dl_o9 kcX10_meets (by decide +kernel)
theorem dX10_meets_191 : decode cX10_meets 191 = .ok (.lcmp, 1) := dl_o148 kcX10_meets (by decide +kernel)
theorem dX10_meets_192 : decode cX10_meets 192 = .ok (.ifCond .ne 54, 3) := dl_o154 kcX10_meets 54 (by decide +kernel) (by decide +kernel)
theorem dX10_meets_195 : decode cX10_meets 195 = .ok (.lload 16, 2) := dl_o22 kcX10_meets (by decide +kernel)
theorem dX10_meets_197 : decode cX10_meets 197 = .ok (.lconst 0, 1) := dl_o9 kcX10_meets (by decide +kernel)
theorem dX10_meets_198 : decode cX10_meets 198 = .ok (.lcmp, 1) := dl_o148 kcX10_meets (by decide +kernel)
theorem dX10_meets_199 : decode cX10_meets 199 = .ok (.ifCond .ne 45, 3) := dl_o154 kcX10_meets 45 (by decide +kernel) (by decide +kernel)
theorem dX10_meets_202 : decode cX10_meets 202 = .ok (.lload 18, 2) := dl_o22 kcX10_meets (by decide +kernel)
theorem dX10_meets_204 : decode cX10_meets 204 = .ok (.lconst 0, 1) := dl_o9 kcX10_meets (by decide +kernel)
theorem dX10_meets_205 : decode cX10_meets 205 = .ok (.lcmp, 1) := dl_o148 kcX10_meets (by decide +kernel)
theorem dX10_meets_206 : decode cX10_meets 206 = .ok (.ifCond .ne 38, 3) := dl_o154 kcX10_meets 38 (by decide +kernel) (by decide +kernel)
theorem dX10_meets_209 : decode cX10_meets 209 = .ok (.lload 20, 2) := dl_o22 kcX10_meets (by decide +kernel)
theorem dX10_meets_211 : decode cX10_meets 211 = .ok (.lconst 0, 1) := dl_o9 kcX10_meets (by decide +kernel)
theorem dX10_meets_212 : decode cX10_meets 212 = .ok (.lcmp, 1) := dl_o148 kcX10_meets (by decide +kernel)
theorem dX10_meets_213 : decode cX10_meets 213 = .ok (.ifCond .ne 31, 3) := dl_o154 kcX10_meets 31 (by decide +kernel) (by decide +kernel)
theorem dX10_meets_216 : decode cX10_meets 216 = .ok (.lload 4, 2) := dl_o22 kcX10_meets (by decide +kernel)
theorem dX10_meets_218 : decode cX10_meets 218 = .ok (.lload 12, 2) := dl_o22 kcX10_meets (by decide +kernel)
theorem dX10_meets_220 : decode cX10_meets 220 = .ok (.lload 8, 2) := dl_o22 kcX10_meets (by decide +kernel)
theorem dX10_meets_222 : decode cX10_meets 222 = .ok (.invokestatic 105, 3) := dl_o184 kcX10_meets (by decide +kernel)
theorem dX10_meets_225 : decode cX10_meets 225 = .ok (.ifCond .eq 19, 3) := dl_o153 kcX10_meets 19 (by decide +kernel) (by decide +kernel)
theorem dX10_meets_228 : decode cX10_meets 228 = .ok (.lload 6, 2) := dl_o22 kcX10_meets (by decide +kernel)
theorem dX10_meets_230 : decode cX10_meets 230 = .ok (.lload 14, 2) := dl_o22 kcX10_meets (by decide +kernel)
theorem dX10_meets_232 : decode cX10_meets 232 = .ok (.lload 10, 2) := dl_o22 kcX10_meets (by decide +kernel)
theorem dX10_meets_234 : decode cX10_meets 234 = .ok (.invokestatic 105, 3) := dl_o184 kcX10_meets (by decide +kernel)
theorem dX10_meets_237 : decode cX10_meets 237 = .ok (.ifCond .eq 7, 3) := dl_o153 kcX10_meets 7 (by decide +kernel) (by decide +kernel)
theorem dX10_meets_240 : decode cX10_meets 240 = .ok (.iconst 1, 1) := dl_o4 kcX10_meets (by decide +kernel)
theorem dX10_meets_241 : decode cX10_meets 241 = .ok (.goto 4, 3) := dl_o167 kcX10_meets 4 (by decide +kernel) (by decide +kernel)
theorem dX10_meets_244 : decode cX10_meets 244 = .ok (.iconst 0, 1) := dl_o3 kcX10_meets (by decide +kernel)
theorem dX10_meets_245 : decode cX10_meets 245 = .ok (.ireturn, 1) := dl_o172 kcX10_meets (by decide +kernel)
theorem dX10_meets_246 : decode cX10_meets 246 = .ok (.lload 22, 2) := dl_o22 kcX10_meets (by decide +kernel)
theorem dX10_meets_248 : decode cX10_meets 248 = .ok (.lconst 0, 1) := dl_o9 kcX10_meets (by decide +kernel)
theorem dX10_meets_249 : decode cX10_meets 249 = .ok (.lcmp, 1) := dl_o148 kcX10_meets (by decide +kernel)
theorem dX10_meets_250 : decode cX10_meets 250 = .ok (.ifCond .ge 7, 3) := dl_o156 kcX10_meets 7 (by decide +kernel) (by decide +kernel)
theorem dX10_meets_253 : decode cX10_meets 253 = .ok (.iconst (-1), 1) := dl_o2 kcX10_meets (by decide +kernel)
theorem dX10_meets_254 : decode cX10_meets 254 = .ok (.goto 4, 3) := dl_o167 kcX10_meets 4 (by decide +kernel) (by decide +kernel)
theorem dX10_meets_257 : decode cX10_meets 257 = .ok (.iconst 1, 1) := dl_o4 kcX10_meets (by decide +kernel)
theorem dX10_meets_258 : decode cX10_meets 258 = .ok (.istore 24, 2) := dl_o54 kcX10_meets (by decide +kernel)
theorem dX10_meets_260 : decode cX10_meets 260 = .ok (.lload 16, 2) := dl_o22 kcX10_meets (by decide +kernel)
theorem dX10_meets_262 : decode cX10_meets 262 = .ok (.iload 24, 2) := dl_o21 kcX10_meets (by decide +kernel)
theorem dX10_meets_264 : decode cX10_meets 264 = .ok (.i2l, 1) := dl_o133 kcX10_meets (by decide +kernel)
theorem dX10_meets_265 : decode cX10_meets 265 = .ok (.lmul, 1) := dl_o105 kcX10_meets (by decide +kernel)
theorem dX10_meets_266 : decode cX10_meets 266 = .ok (.lconst 0, 1) := dl_o9 kcX10_meets (by decide +kernel)
theorem dX10_meets_267 : decode cX10_meets 267 = .ok (.lcmp, 1) := dl_o148 kcX10_meets (by decide +kernel)
theorem dX10_meets_268 : decode cX10_meets 268 = .ok (.ifCond .lt 25, 3) := dl_o155 kcX10_meets 25 (by decide +kernel) (by decide +kernel)
theorem dX10_meets_271 : decode cX10_meets 271 = .ok (.lload 18, 2) := dl_o22 kcX10_meets (by decide +kernel)
theorem dX10_meets_273 : decode cX10_meets 273 = .ok (.iload 24, 2) := dl_o21 kcX10_meets (by decide +kernel)
theorem dX10_meets_275 : decode cX10_meets 275 = .ok (.i2l, 1) := dl_o133 kcX10_meets (by decide +kernel)
theorem dX10_meets_276 : decode cX10_meets 276 = .ok (.lmul, 1) := dl_o105 kcX10_meets (by decide +kernel)
theorem dX10_meets_277 : decode cX10_meets 277 = .ok (.lconst 0, 1) := dl_o9 kcX10_meets (by decide +kernel)
theorem dX10_meets_278 : decode cX10_meets 278 = .ok (.lcmp, 1) := dl_o148 kcX10_meets (by decide +kernel)
theorem dX10_meets_279 : decode cX10_meets 279 = .ok (.ifCond .lt 14, 3) := dl_o155 kcX10_meets 14 (by decide +kernel) (by decide +kernel)
theorem dX10_meets_282 : decode cX10_meets 282 = .ok (.lload 20, 2) := dl_o22 kcX10_meets (by decide +kernel)
theorem dX10_meets_284 : decode cX10_meets 284 = .ok (.iload 24, 2) := dl_o21 kcX10_meets (by decide +kernel)
theorem dX10_meets_286 : decode cX10_meets 286 = .ok (.i2l, 1) := dl_o133 kcX10_meets (by decide +kernel)
theorem dX10_meets_287 : decode cX10_meets 287 = .ok (.lmul, 1) := dl_o105 kcX10_meets (by decide +kernel)
theorem dX10_meets_288 : decode cX10_meets 288 = .ok (.lconst 0, 1) := dl_o9 kcX10_meets (by decide +kernel)
theorem dX10_meets_289 : decode cX10_meets 289 = .ok (.lcmp, 1) := dl_o148 kcX10_meets (by decide +kernel)
theorem dX10_meets_290 : decode cX10_meets 290 = .ok (.ifCond .ge 5, 3) := dl_o156 kcX10_meets 5 (by decide +kernel) (by decide +kernel)
theorem dX10_meets_293 : decode cX10_meets 293 = .ok (.iconst 0, 1) := dl_o3 kcX10_meets (by decide +kernel)
theorem dX10_meets_294 : decode cX10_meets 294 = .ok (.ireturn, 1) := dl_o172 kcX10_meets (by decide +kernel)
theorem dX10_meets_295 : decode cX10_meets 295 = .ok (.ldc2_w 109, 3) := dl_o20 kcX10_meets (by decide +kernel)
theorem dX10_meets_298 : decode cX10_meets 298 = .ok (.lload 16, 2) := dl_o22 kcX10_meets (by decide +kernel)
theorem dX10_meets_300 : decode cX10_meets 300 = .ok (.lmul, 1) := dl_o105 kcX10_meets (by decide +kernel)
theorem dX10_meets_301 : decode cX10_meets 301 = .ok (.lload 20, 2) := dl_o22 kcX10_meets (by decide +kernel)
theorem dX10_meets_303 : decode cX10_meets 303 = .ok (.lmul, 1) := dl_o105 kcX10_meets (by decide +kernel)
theorem dX10_meets_304 : decode cX10_meets 304 = .ok (.lload 18, 2) := dl_o22 kcX10_meets (by decide +kernel)
theorem dX10_meets_306 : decode cX10_meets 306 = .ok (.lload 18, 2) := dl_o22 kcX10_meets (by decide +kernel)
theorem dX10_meets_308 : decode cX10_meets 308 = .ok (.lmul, 1) := dl_o105 kcX10_meets (by decide +kernel)
theorem dX10_meets_309 : decode cX10_meets 309 = .ok (.lsub, 1) := dl_o101 kcX10_meets (by decide +kernel)
theorem dX10_meets_310 : decode cX10_meets 310 = .ok (.lstore 25, 2) := dl_o55 kcX10_meets (by decide +kernel)
theorem dX10_meets_312 : decode cX10_meets 312 = .ok (.lload 25, 2) := dl_o22 kcX10_meets (by decide +kernel)
theorem dX10_meets_314 : decode cX10_meets 314 = .ok (.lconst 0, 1) := dl_o9 kcX10_meets (by decide +kernel)
theorem dX10_meets_315 : decode cX10_meets 315 = .ok (.lcmp, 1) := dl_o148 kcX10_meets (by decide +kernel)
theorem dX10_meets_316 : decode cX10_meets 316 = .ok (.ifCond .le 38, 3) := dl_o158 kcX10_meets 38 (by decide +kernel) (by decide +kernel)
theorem dX10_meets_319 : decode cX10_meets 319 = .ok (.lload 18, 2) := dl_o22 kcX10_meets (by decide +kernel)
theorem dX10_meets_321 : decode cX10_meets 321 = .ok (.lconst 0, 1) := dl_o9 kcX10_meets (by decide +kernel)
theorem dX10_meets_322 : decode cX10_meets 322 = .ok (.lcmp, 1) := dl_o148 kcX10_meets (by decide +kernel)
theorem dX10_meets_323 : decode cX10_meets 323 = .ok (.ifCond .ne 20, 3) := dl_o154 kcX10_meets 20 (by decide +kernel) (by decide +kernel)
theorem dX10_meets_326 : decode cX10_meets 326 = .ok (.iload 24, 2) := dl_o21 kcX10_meets (by decide +kernel)
theorem dX10_meets_328 : decode cX10_meets 328 = .ok (.lload 8, 2) := dl_o22 kcX10_meets (by decide +kernel)
theorem dX10_meets_330 : decode cX10_meets 330 = .ok (.lload 10, 2) := dl_o22 kcX10_meets (by decide +kernel)
theorem dX10_meets_332 : decode cX10_meets 332 = .ok (.lload 4, 2) := dl_o22 kcX10_meets (by decide +kernel)
theorem dX10_meets_334 : decode cX10_meets 334 = .ok (.lload 6, 2) := dl_o22 kcX10_meets (by decide +kernel)
theorem dX10_meets_336 : decode cX10_meets 336 = .ok (.invokestatic 111, 3) := dl_o184 kcX10_meets (by decide +kernel)
theorem dX10_meets_339 : decode cX10_meets 339 = .ok (.imul, 1) := dl_o104 kcX10_meets (by decide +kernel)
theorem dX10_meets_340 : decode cX10_meets 340 = .ok (.ifCond .le 14, 3) := dl_o158 kcX10_meets 14 (by decide +kernel) (by decide +kernel)
theorem dX10_meets_343 : decode cX10_meets 343 = .ok (.aload_n 0, 1) := dl_o42 kcX10_meets (by decide +kernel)
theorem dX10_meets_344 : decode cX10_meets 344 = .ok (.dup, 1) := dl_o89 kcX10_meets (by decide +kernel)
theorem dX10_meets_345 : decode cX10_meets 345 = .ok (.getfield 94, 3) := dl_o180 kcX10_meets (by decide +kernel)
theorem dX10_meets_348 : decode cX10_meets 348 = .ok (.iload 24, 2) := dl_o21 kcX10_meets (by decide +kernel)
theorem dX10_meets_350 : decode cX10_meets 350 = .ok (.iadd, 1) := dl_o96 kcX10_meets (by decide +kernel)
theorem dX10_meets_351 : decode cX10_meets 351 = .ok (.putfield 94, 3) := dl_o181 kcX10_meets (by decide +kernel)
theorem dX10_meets_354 : decode cX10_meets 354 = .ok (.lload 25, 2) := dl_o22 kcX10_meets (by decide +kernel)
theorem dX10_meets_356 : decode cX10_meets 356 = .ok (.lconst 0, 1) := dl_o9 kcX10_meets (by decide +kernel)
theorem dX10_meets_357 : decode cX10_meets 357 = .ok (.lcmp, 1) := dl_o148 kcX10_meets (by decide +kernel)
theorem dX10_meets_358 : decode cX10_meets 358 = .ok (.ifCond .ne 7, 3) := dl_o154 kcX10_meets 7 (by decide +kernel) (by decide +kernel)
theorem dX10_meets_361 : decode cX10_meets 361 = .ok (.iconst 1, 1) := dl_o4 kcX10_meets (by decide +kernel)
theorem dX10_meets_362 : decode cX10_meets 362 = .ok (.goto 4, 3) := dl_o167 kcX10_meets 4 (by decide +kernel) (by decide +kernel)
theorem dX10_meets_365 : decode cX10_meets 365 = .ok (.iconst 0, 1) := dl_o3 kcX10_meets (by decide +kernel)
theorem dX10_meets_366 : decode cX10_meets 366 = .ok (.ireturn, 1) := dl_o172 kcX10_meets (by decide +kernel)
def B_X10_meets_354  (l25 : Int64) (V : sv_V) : Option (Int32 × sv_V) := if (lg_cmp l25 (0 : Int64)) = 0 then (some ((1 : Int32), V)) else (some ((0 : Int32), V))
set_option maxRecDepth 20000 in
theorem tB_X10_meets_354 {g : sx_G} (hG : sx_Go g) {P : Option Value → sv_V → Prop} {r : Int32} {Vr : sv_V} (hP : P (some (.int r)) Vr)   {l25 : Int64} {V : sv_V} (h : B_X10_meets_354  l25 V = some (r, Vr)) : sv_N g qX10_meets 2 354 [(25, .long l25)] [] V P := by
  unfold B_X10_meets_354 at h
  refine sx_lload (pc := 354) dX10_meets_354 sx_m0 ?_
  refine sx_lconst (pc := 356) (v := 0) dX10_meets_356 rfl ?_
  refine sx_lcmp (pc := 357) dX10_meets_357 ?_
  refine sx_if_ne (pc := 358) (tgt := 365) dX10_meets_358 (by decide) (fun c1 => ?_) (fun c1 => ?_)
  · have h := sx_neg c1 h
    refine sx_iconst (pc := 365) (v := 0) dX10_meets_365 (by decide) ?_
    exact sv_zret (pc := 366) dX10_meets_366 rfl rfl h hP
  · have h := sx_pos c1 h
    refine sx_iconst (pc := 361) (v := 1) dX10_meets_361 (by decide) ?_
    refine sx_goto (pc := 362) (tgt := 366) dX10_meets_362 (by decide) ?_
    exact sv_zret (pc := 366) dX10_meets_366 rfl rfl h hP
def B_X10_meets_343  (l24 : Int32) (l25 : Int64) (V : sv_V) : Option (Int32 × sv_V) := sx_let (sv_I V 60 10 ((V.1 60 10) + l24)) (fun V2 => B_X10_meets_354  l25 V2)
set_option maxRecDepth 20000 in
theorem tB_X10_meets_343 {g : sx_G} (hG : sx_Go g) {P : Option Value → sv_V → Prop} {r : Int32} {Vr : sv_V} (hP : P (some (.int r)) Vr)   {l24 : Int32} {l25 : Int64} {V : sv_V} (h : B_X10_meets_343  l24 l25 V = some (r, Vr)) : sv_N g qX10_meets 2 343 [(0, .ref 60), (24, .int l24), (25, .long l25)] [] V P := by
  unfold B_X10_meets_343 at h
  refine sx_aload_n (pc := 343) dX10_meets_343 sx_m0 ?_
  refine sx_dup (pc := 344) dX10_meets_344 rfl ?_
  refine sv_getI (pc := 345) hG dX10_meets_345 f_10_94 lay_60 rfl ?_
  refine sx_iload (pc := 348) dX10_meets_348 sx_m1 ?_
  refine sx_iadd (pc := 350) dX10_meets_350 ?_
  obtain ⟨V2, hV2⟩ : ∃ z : sv_V, z = sv_I V 60 10 ((V.1 60 10) + l24) := ⟨_, rfl⟩
  have h := sx_letE hV2 h
  refine sv_putI (pc := 351) hG dX10_meets_351 f_10_94 lay_60 rfl hV2 ?_
  refine sx_wk (sx_s1 sx_m2 sx_s0) ?_
  exact tB_X10_meets_354 hG hP  h
def B_X10_meets_258  (l4 : Int64) (l6 : Int64) (l8 : Int64) (l10 : Int64) (l16 : Int64) (l18 : Int64) (l20 : Int64) (s0 : Int32) (V : sv_V) : Option (Int32 × sv_V) := if (lg_cmp (l16 * s0.toInt64) (0 : Int64)) < 0 then (some ((0 : Int32), V)) else (if (lg_cmp (l18 * s0.toInt64) (0 : Int64)) < 0 then (some ((0 : Int32), V)) else (if 0 ≤ (lg_cmp (l20 * s0.toInt64) (0 : Int64)) then (sx_let ((((4 : Int64) * l16) * l20) - (l18 * l18)) (fun x6 => if (lg_cmp x6 (0 : Int64)) ≤ 0 then (B_X10_meets_354  x6 V) else (if (lg_cmp l18 (0 : Int64)) = 0 then ((F_X10_sideOf l8 l10 l4 l6 V).bind (fun (x11, V9) => if (s0 * x11) ≤ 0 then (B_X10_meets_354  x6 V9) else (B_X10_meets_343  s0 x6 V9))) else (B_X10_meets_343  s0 x6 V)))) else (some ((0 : Int32), V))))
set_option maxRecDepth 20000 in
theorem tB_X10_meets_258 {g : sx_G} (hG : sx_Go g) {P : Option Value → sv_V → Prop} {r : Int32} {Vr : sv_V} (hP : P (some (.int r)) Vr)   {l4 : Int64} {l6 : Int64} {l8 : Int64} {l10 : Int64} {l16 : Int64} {l18 : Int64} {l20 : Int64} {s0 : Int32} {V : sv_V} (h : B_X10_meets_258  l4 l6 l8 l10 l16 l18 l20 s0 V = some (r, Vr)) : sv_N g qX10_meets 2 258 [(0, .ref 60), (4, .long l4), (6, .long l6), (8, .long l8), (10, .long l10), (16, .long l16), (18, .long l18), (20, .long l20)] [.int s0] V P := by
  unfold B_X10_meets_258 at h
  refine sx_istore (pc := 258) (lo' := [(24, .int s0), (0, .ref 60), (4, .long l4), (6, .long l6), (8, .long l8), (10, .long l10), (16, .long l16), (18, .long l18), (20, .long l20)]) dX10_meets_258 (by decide) rfl ?_
  refine sx_lload (pc := 260) dX10_meets_260 sx_m6 ?_
  refine sx_iload (pc := 262) dX10_meets_262 sx_m0 ?_
  refine sx_i2l (pc := 264) dX10_meets_264 ?_
  refine sx_lmul (pc := 265) dX10_meets_265 ?_
  refine sx_lconst (pc := 266) (v := 0) dX10_meets_266 rfl ?_
  refine sx_lcmp (pc := 267) dX10_meets_267 ?_
  refine sx_if_lt (pc := 268) (tgt := 293) dX10_meets_268 (by decide) (fun c3 => ?_) (fun c3 => ?_)
  · have h := sx_pos c3 h
    refine sx_iconst (pc := 293) (v := 0) dX10_meets_293 (by decide) ?_
    exact sv_zret (pc := 294) dX10_meets_294 rfl rfl h hP
  · have h := sx_neg c3 h
    refine sx_lload (pc := 271) dX10_meets_271 sx_m7 ?_
    refine sx_iload (pc := 273) dX10_meets_273 sx_m0 ?_
    refine sx_i2l (pc := 275) dX10_meets_275 ?_
    refine sx_lmul (pc := 276) dX10_meets_276 ?_
    refine sx_lconst (pc := 277) (v := 0) dX10_meets_277 rfl ?_
    refine sx_lcmp (pc := 278) dX10_meets_278 ?_
    refine sx_if_lt (pc := 279) (tgt := 293) dX10_meets_279 (by decide) (fun c4 => ?_) (fun c4 => ?_)
    · have h := sx_pos c4 h
      refine sx_iconst (pc := 293) (v := 0) dX10_meets_293 (by decide) ?_
      exact sv_zret (pc := 294) dX10_meets_294 rfl rfl h hP
    · have h := sx_neg c4 h
      refine sx_lload (pc := 282) dX10_meets_282 sx_m8 ?_
      refine sx_iload (pc := 284) dX10_meets_284 sx_m0 ?_
      refine sx_i2l (pc := 286) dX10_meets_286 ?_
      refine sx_lmul (pc := 287) dX10_meets_287 ?_
      refine sx_lconst (pc := 288) (v := 0) dX10_meets_288 rfl ?_
      refine sx_lcmp (pc := 289) dX10_meets_289 ?_
      refine sx_if_ge (pc := 290) (tgt := 295) dX10_meets_290 (by decide) (fun c5 => ?_) (fun c5 => ?_)
      · have h := sx_pos c5 h
        refine sx_ldc2 (pc := 295) dX10_meets_295 k_X10_109 ?_
        refine sx_lload (pc := 298) dX10_meets_298 sx_m6 ?_
        refine sx_lmul (pc := 300) dX10_meets_300 ?_
        refine sx_lload (pc := 301) dX10_meets_301 sx_m8 ?_
        refine sx_lmul (pc := 303) dX10_meets_303 ?_
        refine sx_lload (pc := 304) dX10_meets_304 sx_m7 ?_
        refine sx_lload (pc := 306) dX10_meets_306 sx_m7 ?_
        refine sx_lmul (pc := 308) dX10_meets_308 ?_
        refine sx_lsub (pc := 309) dX10_meets_309 ?_
        refine sv_tJ (fun x6 hx6 => ?_)
        have h := sx_letE hx6 h
        refine sx_lstore (pc := 310) (lo' := [(25, .long x6), (24, .int s0), (0, .ref 60), (4, .long l4), (6, .long l6), (8, .long l8), (10, .long l10), (16, .long l16), (18, .long l18), (20, .long l20)]) dX10_meets_310 (by decide) rfl ?_
        refine sx_lload (pc := 312) dX10_meets_312 sx_m0 ?_
        refine sx_lconst (pc := 314) (v := 0) dX10_meets_314 rfl ?_
        refine sx_lcmp (pc := 315) dX10_meets_315 ?_
        refine sx_if_le (pc := 316) (tgt := 354) dX10_meets_316 (by decide) (fun c7 => ?_) (fun c7 => ?_)
        · have h := sx_pos c7 h
          refine sx_wk (sx_s1 sx_m0 sx_s0) ?_
          exact tB_X10_meets_354 hG hP  h
        · have h := sx_neg c7 h
          refine sx_lload (pc := 319) dX10_meets_319 sx_m8 ?_
          refine sx_lconst (pc := 321) (v := 0) dX10_meets_321 rfl ?_
          refine sx_lcmp (pc := 322) dX10_meets_322 ?_
          refine sx_if_ne (pc := 323) (tgt := 343) dX10_meets_323 (by decide) (fun c8 => ?_) (fun c8 => ?_)
          · have h := sx_neg c8 h
            refine sx_wk (sx_s1 sx_m2 (sx_s1 sx_m1 (sx_s1 sx_m0 sx_s0))) ?_
            exact tB_X10_meets_343 hG hP  h
          · have h := sx_pos c8 h
            refine sx_iload (pc := 326) dX10_meets_326 sx_m1 ?_
            refine sx_lload (pc := 328) dX10_meets_328 sx_m5 ?_
            refine sx_lload (pc := 330) dX10_meets_330 sx_m6 ?_
            refine sx_lload (pc := 332) dX10_meets_332 sx_m3 ?_
            refine sx_lload (pc := 334) dX10_meets_334 sx_m4 ?_
            obtain ⟨⟨x11, V9⟩, g10, h⟩ := sx_bnd h
            refine sv_cS (pc := 336) (y := qX10_sideOf) (o := (some (.int x11))) (as := [.long l8, .long l10, .long l4, .long l6]) (V1 := V9) dX10_meets_336 l_X10_111 y0X10_sideOf ysX10_sideOf rfl (Nat.le_of_ble_eq_true rfl) (by decide) (Nat.le_of_ble_eq_true rfl) rfl rfl rfl (t_X10_sideOf hG ⟨rfl, rfl⟩ g10) ?_
            refine sx_imul (pc := 339) dX10_meets_339 ?_
            refine sx_if_le (pc := 340) (tgt := 354) dX10_meets_340 (by decide) (fun c12 => ?_) (fun c12 => ?_)
            · have h := sx_pos c12 h
              refine sx_wk (sx_s1 sx_m0 sx_s0) ?_
              exact tB_X10_meets_354 hG hP  h
            · have h := sx_neg c12 h
              refine sx_wk (sx_s1 sx_m2 (sx_s1 sx_m1 (sx_s1 sx_m0 sx_s0))) ?_
              exact tB_X10_meets_343 hG hP  h
      · have h := sx_neg c5 h
        refine sx_iconst (pc := 293) (v := 0) dX10_meets_293 (by decide) ?_
        exact sv_zret (pc := 294) dX10_meets_294 rfl rfl h hP
def F_X10_meets (l1 : Int32) (l2 : Int32) (l3 : Int32) (V : sv_V) : Option (Int32 × sv_V) := if sx_in l1 100 = true then sx_let (((V.1 61 l1.toNatClampNeg) - l2).toInt64) (fun x14 => if sx_in l1 100 = true then sx_let (((V.1 62 l1.toNatClampNeg) - l3).toInt64) (fun x16 => if sx_in l1 100 = true then sx_let (((V.1 65 l1.toNatClampNeg) - l2).toInt64) (fun x18 => if sx_in l1 100 = true then sx_let (((V.1 66 l1.toNatClampNeg) - l3).toInt64) (fun x20 => (F_X10_crossing x14 x16 x18 x20 V).bind (fun (x23, V21) => sx_let (sv_I V21 60 10 ((V.1 60 10) + x23)) (fun V24 => if sx_in l1 100 = true then if (V24.1 67 l1.toNatClampNeg) = 0 then (if (lg_cmp (x14 * x20) (x18 * x16)) = 0 then ((F_X10_reaches x14 x14 x18 V24).bind (fun (x51, V49) => if x51 = 0 then (some ((0 : Int32), V49)) else ((F_X10_reaches x16 x16 x20 V49).bind (fun (x55, V53) => if x55 = 0 then (some ((0 : Int32), V53)) else (some ((1 : Int32), V53)))))) else (some ((0 : Int32), V24))) else (if sx_in l1 100 = true then sx_let (((V24.1 63 l1.toNatClampNeg) - l2).toInt64) (fun x28 => if sx_in l1 100 = true then sx_let (((V24.1 64 l1.toNatClampNeg) - l3).toInt64) (fun x30 => sx_let ((x28 * x20) - (x18 * x30)) (fun x31 => sx_let ((x18 * x16) - (x14 * x20)) (fun x32 => sx_let ((x14 * x30) - (x28 * x16)) (fun x33 => sx_let ((x31 + x32) + x33) (fun x34 => if (lg_cmp x34 (0 : Int64)) = 0 then (if (lg_cmp x31 (0 : Int64)) = 0 then (if (lg_cmp x32 (0 : Int64)) = 0 then (if (lg_cmp x33 (0 : Int64)) = 0 then ((F_X10_reaches x14 x28 x18 V24).bind (fun (x42, V40) => if x42 = 0 then (some ((0 : Int32), V40)) else ((F_X10_reaches x16 x30 x20 V40).bind (fun (x46, V44) => if x46 = 0 then (some ((0 : Int32), V44)) else (some ((1 : Int32), V44)))))) else (some ((0 : Int32), V24))) else (some ((0 : Int32), V24))) else (some ((0 : Int32), V24))) else (if 0 ≤ (lg_cmp x34 (0 : Int64)) then (B_X10_meets_258  x14 x16 x18 x20 x31 x32 x33 (1 : Int32) V24) else (B_X10_meets_258  x14 x16 x18 x20 x31 x32 x33 (-1 : Int32) V24))))))) else none) else none) else none))) else none) else none) else none) else none
set_option maxRecDepth 20000 in
theorem t_X10_meets {g : sx_G} (hG : sx_Go g) {P : Option Value → sv_V → Prop} {r : Int32} {Vr : sv_V} (hP : P (some (.int r)) Vr) {l1 : Int32} {l2 : Int32} {l3 : Int32} {V : sv_V} (h : F_X10_meets l1 l2 l3 V = some (r, Vr)) : sv_N g qX10_meets 2 0 [(0, .ref 60), (1, .int l1), (2, .int l2), (3, .int l3)] [] V P := by
  unfold F_X10_meets at h
  refine sx_aload_n (pc := 0) dX10_meets_0 sx_m0 ?_
  refine sv_getA (pc := 1) hG dX10_meets_1 f_10_9 lay_60 rfl cr_60_0 ?_
  refine sx_iload_n (pc := 4) dX10_meets_4 sx_m1 ?_
  obtain ⟨g13, h⟩ := sx_grd h
  refine sv_iald (pc := 5) hG dX10_meets_5 lay_61 g13 ?_
  refine sx_iload_n (pc := 6) dX10_meets_6 sx_m2 ?_
  refine sx_isub (pc := 7) dX10_meets_7 ?_
  refine sx_i2l (pc := 8) dX10_meets_8 ?_
  refine sv_tJ (fun x14 hx14 => ?_)
  have h := sx_letE hx14 h
  refine sx_lstore (pc := 9) (lo' := [(4, .long x14), (0, .ref 60), (1, .int l1), (2, .int l2), (3, .int l3)]) dX10_meets_9 (by decide) rfl ?_
  refine sx_aload_n (pc := 11) dX10_meets_11 sx_m1 ?_
  refine sv_getA (pc := 12) hG dX10_meets_12 f_10_15 lay_60 rfl cr_60_1 ?_
  refine sx_iload_n (pc := 15) dX10_meets_15 sx_m2 ?_
  obtain ⟨g15, h⟩ := sx_grd h
  refine sv_iald (pc := 16) hG dX10_meets_16 lay_62 g15 ?_
  refine sx_iload_n (pc := 17) dX10_meets_17 sx_m4 ?_
  refine sx_isub (pc := 18) dX10_meets_18 ?_
  refine sx_i2l (pc := 19) dX10_meets_19 ?_
  refine sv_tJ (fun x16 hx16 => ?_)
  have h := sx_letE hx16 h
  refine sx_lstore (pc := 20) (lo' := [(6, .long x16), (4, .long x14), (0, .ref 60), (1, .int l1), (2, .int l2), (3, .int l3)]) dX10_meets_20 (by decide) rfl ?_
  refine sx_aload_n (pc := 22) dX10_meets_22 sx_m2 ?_
  refine sv_getA (pc := 23) hG dX10_meets_23 f_10_24 lay_60 rfl cr_60_4 ?_
  refine sx_iload_n (pc := 26) dX10_meets_26 sx_m3 ?_
  obtain ⟨g17, h⟩ := sx_grd h
  refine sv_iald (pc := 27) hG dX10_meets_27 lay_65 g17 ?_
  refine sx_iload_n (pc := 28) dX10_meets_28 sx_m4 ?_
  refine sx_isub (pc := 29) dX10_meets_29 ?_
  refine sx_i2l (pc := 30) dX10_meets_30 ?_
  refine sv_tJ (fun x18 hx18 => ?_)
  have h := sx_letE hx18 h
  refine sx_lstore (pc := 31) (lo' := [(8, .long x18), (6, .long x16), (4, .long x14), (0, .ref 60), (1, .int l1), (2, .int l2), (3, .int l3)]) dX10_meets_31 (by decide) rfl ?_
  refine sx_aload_n (pc := 33) dX10_meets_33 sx_m3 ?_
  refine sv_getA (pc := 34) hG dX10_meets_34 f_10_27 lay_60 rfl cr_60_5 ?_
  refine sx_iload_n (pc := 37) dX10_meets_37 sx_m4 ?_
  obtain ⟨g19, h⟩ := sx_grd h
  refine sv_iald (pc := 38) hG dX10_meets_38 lay_66 g19 ?_
  refine sx_iload_n (pc := 39) dX10_meets_39 sx_m6 ?_
  refine sx_isub (pc := 40) dX10_meets_40 ?_
  refine sx_i2l (pc := 41) dX10_meets_41 ?_
  refine sv_tJ (fun x20 hx20 => ?_)
  have h := sx_letE hx20 h
  refine sx_lstore (pc := 42) (lo' := [(10, .long x20), (8, .long x18), (6, .long x16), (4, .long x14), (0, .ref 60), (1, .int l1), (2, .int l2), (3, .int l3)]) dX10_meets_42 (by decide) rfl ?_
  refine sx_aload_n (pc := 44) dX10_meets_44 sx_m4 ?_
  refine sx_dup (pc := 45) dX10_meets_45 rfl ?_
  refine sv_getI (pc := 46) hG dX10_meets_46 f_10_94 lay_60 rfl ?_
  refine sx_lload (pc := 49) dX10_meets_49 sx_m3 ?_
  refine sx_lload (pc := 51) dX10_meets_51 sx_m2 ?_
  refine sx_lload (pc := 53) dX10_meets_53 sx_m1 ?_
  refine sx_lload (pc := 55) dX10_meets_55 sx_m0 ?_
  obtain ⟨⟨x23, V21⟩, g22, h⟩ := sx_bnd h
  refine sv_cS (pc := 57) (y := qX10_crossing) (o := (some (.int x23))) (as := [.long x14, .long x16, .long x18, .long x20]) (V1 := V21) dX10_meets_57 l_X10_101 y0X10_crossing ysX10_crossing rfl (Nat.le_of_ble_eq_true rfl) (by decide) (Nat.le_of_ble_eq_true rfl) rfl rfl rfl (t_X10_crossing hG ⟨rfl, rfl⟩ g22) ?_
  refine sx_iadd (pc := 60) dX10_meets_60 ?_
  obtain ⟨V24, hV24⟩ : ∃ z : sv_V, z = sv_I V21 60 10 ((V.1 60 10) + x23) := ⟨_, rfl⟩
  have h := sx_letE hV24 h
  refine sv_putI (pc := 61) hG dX10_meets_61 f_10_94 lay_60 rfl hV24 ?_
  refine sx_aload_n (pc := 64) dX10_meets_64 sx_m4 ?_
  refine sv_getA (pc := 65) hG dX10_meets_65 f_10_30 lay_60 rfl cr_60_6 ?_
  refine sx_iload_n (pc := 68) dX10_meets_68 sx_m5 ?_
  obtain ⟨g25, h⟩ := sx_grd h
  refine sv_zald (pc := 69) hG dX10_meets_69 lay_67 g25 ?_
  refine sx_if_ne (pc := 70) (tgt := 117) dX10_meets_70 (by decide) (fun c26 => ?_) (fun c26 => ?_)
  · have h := sx_neg c26 h
    refine sx_aload_n (pc := 117) dX10_meets_117 sx_m4 ?_
    refine sv_getA (pc := 118) hG dX10_meets_118 f_10_18 lay_60 rfl cr_60_2 ?_
    refine sx_iload_n (pc := 121) dX10_meets_121 sx_m5 ?_
    obtain ⟨g27, h⟩ := sx_grd h
    refine sv_iald (pc := 122) hG dX10_meets_122 lay_63 g27 ?_
    refine sx_iload_n (pc := 123) dX10_meets_123 sx_m6 ?_
    refine sx_isub (pc := 124) dX10_meets_124 ?_
    refine sx_i2l (pc := 125) dX10_meets_125 ?_
    refine sv_tJ (fun x28 hx28 => ?_)
    have h := sx_letE hx28 h
    refine sx_lstore (pc := 126) (lo' := [(12, .long x28), (10, .long x20), (8, .long x18), (6, .long x16), (4, .long x14), (0, .ref 60), (1, .int l1), (2, .int l2), (3, .int l3)]) dX10_meets_126 (by decide) rfl ?_
    refine sx_aload_n (pc := 128) dX10_meets_128 sx_m5 ?_
    refine sv_getA (pc := 129) hG dX10_meets_129 f_10_21 lay_60 rfl cr_60_3 ?_
    refine sx_iload_n (pc := 132) dX10_meets_132 sx_m6 ?_
    obtain ⟨g29, h⟩ := sx_grd h
    refine sv_iald (pc := 133) hG dX10_meets_133 lay_64 g29 ?_
    refine sx_iload_n (pc := 134) dX10_meets_134 sx_m8 ?_
    refine sx_isub (pc := 135) dX10_meets_135 ?_
    refine sx_i2l (pc := 136) dX10_meets_136 ?_
    refine sv_tJ (fun x30 hx30 => ?_)
    have h := sx_letE hx30 h
    refine sx_lstore (pc := 137) (lo' := [(14, .long x30), (12, .long x28), (10, .long x20), (8, .long x18), (6, .long x16), (4, .long x14), (0, .ref 60), (1, .int l1), (2, .int l2), (3, .int l3)]) dX10_meets_137 (by decide) rfl ?_
    refine sx_lload (pc := 139) dX10_meets_139 sx_m1 ?_
    refine sx_lload (pc := 141) dX10_meets_141 sx_m2 ?_
    refine sx_lmul (pc := 143) dX10_meets_143 ?_
    refine sx_lload (pc := 144) dX10_meets_144 sx_m3 ?_
    refine sx_lload (pc := 146) dX10_meets_146 sx_m0 ?_
    refine sx_lmul (pc := 148) dX10_meets_148 ?_
    refine sx_lsub (pc := 149) dX10_meets_149 ?_
    refine sv_tJ (fun x31 hx31 => ?_)
    have h := sx_letE hx31 h
    refine sx_lstore (pc := 150) (lo' := [(16, .long x31), (14, .long x30), (12, .long x28), (10, .long x20), (8, .long x18), (6, .long x16), (4, .long x14), (0, .ref 60), (1, .int l1), (2, .int l2), (3, .int l3)]) dX10_meets_150 (by decide) rfl ?_
    refine sx_lload (pc := 152) dX10_meets_152 sx_m4 ?_
    refine sx_lload (pc := 154) dX10_meets_154 sx_m5 ?_
    refine sx_lmul (pc := 156) dX10_meets_156 ?_
    refine sx_lload (pc := 157) dX10_meets_157 sx_m6 ?_
    refine sx_lload (pc := 159) dX10_meets_159 sx_m3 ?_
    refine sx_lmul (pc := 161) dX10_meets_161 ?_
    refine sx_lsub (pc := 162) dX10_meets_162 ?_
    refine sv_tJ (fun x32 hx32 => ?_)
    have h := sx_letE hx32 h
    refine sx_lstore (pc := 163) (lo' := [(18, .long x32), (16, .long x31), (14, .long x30), (12, .long x28), (10, .long x20), (8, .long x18), (6, .long x16), (4, .long x14), (0, .ref 60), (1, .int l1), (2, .int l2), (3, .int l3)]) dX10_meets_163 (by decide) rfl ?_
    refine sx_lload (pc := 165) dX10_meets_165 sx_m7 ?_
    refine sx_lload (pc := 167) dX10_meets_167 sx_m2 ?_
    refine sx_lmul (pc := 169) dX10_meets_169 ?_
    refine sx_lload (pc := 170) dX10_meets_170 sx_m3 ?_
    refine sx_lload (pc := 172) dX10_meets_172 sx_m6 ?_
    refine sx_lmul (pc := 174) dX10_meets_174 ?_
    refine sx_lsub (pc := 175) dX10_meets_175 ?_
    refine sv_tJ (fun x33 hx33 => ?_)
    have h := sx_letE hx33 h
    refine sx_lstore (pc := 176) (lo' := [(20, .long x33), (18, .long x32), (16, .long x31), (14, .long x30), (12, .long x28), (10, .long x20), (8, .long x18), (6, .long x16), (4, .long x14), (0, .ref 60), (1, .int l1), (2, .int l2), (3, .int l3)]) dX10_meets_176 (by decide) rfl ?_
    refine sx_lload (pc := 178) dX10_meets_178 sx_m2 ?_
    refine sx_lload (pc := 180) dX10_meets_180 sx_m1 ?_
    refine sx_ladd (pc := 182) dX10_meets_182 ?_
    refine sx_lload (pc := 183) dX10_meets_183 sx_m0 ?_
    refine sx_ladd (pc := 185) dX10_meets_185 ?_
    refine sv_tJ (fun x34 hx34 => ?_)
    have h := sx_letE hx34 h
    refine sx_lstore (pc := 186) (lo' := [(22, .long x34), (20, .long x33), (18, .long x32), (16, .long x31), (14, .long x30), (12, .long x28), (10, .long x20), (8, .long x18), (6, .long x16), (4, .long x14), (0, .ref 60), (1, .int l1), (2, .int l2), (3, .int l3)]) dX10_meets_186 (by decide) rfl ?_
    refine sx_lload (pc := 188) dX10_meets_188 sx_m0 ?_
    refine sx_lconst (pc := 190) (v := 0) dX10_meets_190 rfl ?_
    refine sx_lcmp (pc := 191) dX10_meets_191 ?_
    refine sx_if_ne (pc := 192) (tgt := 246) dX10_meets_192 (by decide) (fun c35 => ?_) (fun c35 => ?_)
    · have h := sx_neg c35 h
      refine sx_lload (pc := 246) dX10_meets_246 sx_m0 ?_
      refine sx_lconst (pc := 248) (v := 0) dX10_meets_248 rfl ?_
      refine sx_lcmp (pc := 249) dX10_meets_249 ?_
      refine sx_if_ge (pc := 250) (tgt := 257) dX10_meets_250 (by decide) (fun c36 => ?_) (fun c36 => ?_)
      · have h := sx_pos c36 h
        refine sx_iconst (pc := 257) (v := 1) dX10_meets_257 (by decide) ?_
        refine sx_wk (sx_s1 sx_m10 (sx_s1 sx_m9 (sx_s1 sx_m8 (sx_s1 sx_m7 (sx_s1 sx_m6 (sx_s1 sx_m3 (sx_s1 sx_m2 (sx_s1 sx_m1 sx_s0)))))))) ?_
        exact tB_X10_meets_258 hG hP  h
      · have h := sx_neg c36 h
        refine sx_iconst (pc := 253) (v := (-1)) dX10_meets_253 (by decide) ?_
        refine sx_goto (pc := 254) (tgt := 258) dX10_meets_254 (by decide) ?_
        refine sx_wk (sx_s1 sx_m10 (sx_s1 sx_m9 (sx_s1 sx_m8 (sx_s1 sx_m7 (sx_s1 sx_m6 (sx_s1 sx_m3 (sx_s1 sx_m2 (sx_s1 sx_m1 sx_s0)))))))) ?_
        exact tB_X10_meets_258 hG hP  h
    · have h := sx_pos c35 h
      refine sx_lload (pc := 195) dX10_meets_195 sx_m3 ?_
      refine sx_lconst (pc := 197) (v := 0) dX10_meets_197 rfl ?_
      refine sx_lcmp (pc := 198) dX10_meets_198 ?_
      refine sx_if_ne (pc := 199) (tgt := 244) dX10_meets_199 (by decide) (fun c37 => ?_) (fun c37 => ?_)
      · have h := sx_neg c37 h
        refine sx_iconst (pc := 244) (v := 0) dX10_meets_244 (by decide) ?_
        exact sv_zret (pc := 245) dX10_meets_245 rfl rfl h hP
      · have h := sx_pos c37 h
        refine sx_lload (pc := 202) dX10_meets_202 sx_m2 ?_
        refine sx_lconst (pc := 204) (v := 0) dX10_meets_204 rfl ?_
        refine sx_lcmp (pc := 205) dX10_meets_205 ?_
        refine sx_if_ne (pc := 206) (tgt := 244) dX10_meets_206 (by decide) (fun c38 => ?_) (fun c38 => ?_)
        · have h := sx_neg c38 h
          refine sx_iconst (pc := 244) (v := 0) dX10_meets_244 (by decide) ?_
          exact sv_zret (pc := 245) dX10_meets_245 rfl rfl h hP
        · have h := sx_pos c38 h
          refine sx_lload (pc := 209) dX10_meets_209 sx_m1 ?_
          refine sx_lconst (pc := 211) (v := 0) dX10_meets_211 rfl ?_
          refine sx_lcmp (pc := 212) dX10_meets_212 ?_
          refine sx_if_ne (pc := 213) (tgt := 244) dX10_meets_213 (by decide) (fun c39 => ?_) (fun c39 => ?_)
          · have h := sx_neg c39 h
            refine sx_iconst (pc := 244) (v := 0) dX10_meets_244 (by decide) ?_
            exact sv_zret (pc := 245) dX10_meets_245 rfl rfl h hP
          · have h := sx_pos c39 h
            refine sx_lload (pc := 216) dX10_meets_216 sx_m9 ?_
            refine sx_lload (pc := 218) dX10_meets_218 sx_m5 ?_
            refine sx_lload (pc := 220) dX10_meets_220 sx_m7 ?_
            obtain ⟨⟨x42, V40⟩, g41, h⟩ := sx_bnd h
            refine sv_cS (pc := 222) (y := qX10_reaches) (o := (some (.int x42))) (as := [.long x14, .long x28, .long x18]) (V1 := V40) dX10_meets_222 l_X10_105 y0X10_reaches ysX10_reaches rfl (Nat.le_of_ble_eq_true rfl) (by decide) (Nat.le_of_ble_eq_true rfl) rfl rfl rfl (t_X10_reaches hG ⟨rfl, rfl⟩ g41) ?_
            refine sx_if_eq (pc := 225) (tgt := 244) dX10_meets_225 (by decide) (fun c43 => ?_) (fun c43 => ?_)
            · have h := sx_pos c43 h
              refine sx_iconst (pc := 244) (v := 0) dX10_meets_244 (by decide) ?_
              exact sv_zret (pc := 245) dX10_meets_245 rfl rfl h hP
            · have h := sx_neg c43 h
              refine sx_lload (pc := 228) dX10_meets_228 sx_m8 ?_
              refine sx_lload (pc := 230) dX10_meets_230 sx_m4 ?_
              refine sx_lload (pc := 232) dX10_meets_232 sx_m6 ?_
              obtain ⟨⟨x46, V44⟩, g45, h⟩ := sx_bnd h
              refine sv_cS (pc := 234) (y := qX10_reaches) (o := (some (.int x46))) (as := [.long x16, .long x30, .long x20]) (V1 := V44) dX10_meets_234 l_X10_105 y0X10_reaches ysX10_reaches rfl (Nat.le_of_ble_eq_true rfl) (by decide) (Nat.le_of_ble_eq_true rfl) rfl rfl rfl (t_X10_reaches hG ⟨rfl, rfl⟩ g45) ?_
              refine sx_if_eq (pc := 237) (tgt := 244) dX10_meets_237 (by decide) (fun c47 => ?_) (fun c47 => ?_)
              · have h := sx_pos c47 h
                refine sx_iconst (pc := 244) (v := 0) dX10_meets_244 (by decide) ?_
                exact sv_zret (pc := 245) dX10_meets_245 rfl rfl h hP
              · have h := sx_neg c47 h
                refine sx_iconst (pc := 240) (v := 1) dX10_meets_240 (by decide) ?_
                refine sx_goto (pc := 241) (tgt := 245) dX10_meets_241 (by decide) ?_
                exact sv_zret (pc := 245) dX10_meets_245 rfl rfl h hP
  · have h := sx_pos c26 h
    refine sx_lload (pc := 73) dX10_meets_73 sx_m3 ?_
    refine sx_lload (pc := 75) dX10_meets_75 sx_m0 ?_
    refine sx_lmul (pc := 77) dX10_meets_77 ?_
    refine sx_lload (pc := 78) dX10_meets_78 sx_m1 ?_
    refine sx_lload (pc := 80) dX10_meets_80 sx_m2 ?_
    refine sx_lmul (pc := 82) dX10_meets_82 ?_
    refine sx_lcmp (pc := 83) dX10_meets_83 ?_
    refine sx_if_ne (pc := 84) (tgt := 115) dX10_meets_84 (by decide) (fun c48 => ?_) (fun c48 => ?_)
    · have h := sx_neg c48 h
      refine sx_iconst (pc := 115) (v := 0) dX10_meets_115 (by decide) ?_
      exact sv_zret (pc := 116) dX10_meets_116 rfl rfl h hP
    · have h := sx_pos c48 h
      refine sx_lload (pc := 87) dX10_meets_87 sx_m3 ?_
      refine sx_lload (pc := 89) dX10_meets_89 sx_m3 ?_
      refine sx_lload (pc := 91) dX10_meets_91 sx_m1 ?_
      obtain ⟨⟨x51, V49⟩, g50, h⟩ := sx_bnd h
      refine sv_cS (pc := 93) (y := qX10_reaches) (o := (some (.int x51))) (as := [.long x14, .long x14, .long x18]) (V1 := V49) dX10_meets_93 l_X10_105 y0X10_reaches ysX10_reaches rfl (Nat.le_of_ble_eq_true rfl) (by decide) (Nat.le_of_ble_eq_true rfl) rfl rfl rfl (t_X10_reaches hG ⟨rfl, rfl⟩ g50) ?_
      refine sx_if_eq (pc := 96) (tgt := 115) dX10_meets_96 (by decide) (fun c52 => ?_) (fun c52 => ?_)
      · have h := sx_pos c52 h
        refine sx_iconst (pc := 115) (v := 0) dX10_meets_115 (by decide) ?_
        exact sv_zret (pc := 116) dX10_meets_116 rfl rfl h hP
      · have h := sx_neg c52 h
        refine sx_lload (pc := 99) dX10_meets_99 sx_m2 ?_
        refine sx_lload (pc := 101) dX10_meets_101 sx_m2 ?_
        refine sx_lload (pc := 103) dX10_meets_103 sx_m0 ?_
        obtain ⟨⟨x55, V53⟩, g54, h⟩ := sx_bnd h
        refine sv_cS (pc := 105) (y := qX10_reaches) (o := (some (.int x55))) (as := [.long x16, .long x16, .long x20]) (V1 := V53) dX10_meets_105 l_X10_105 y0X10_reaches ysX10_reaches rfl (Nat.le_of_ble_eq_true rfl) (by decide) (Nat.le_of_ble_eq_true rfl) rfl rfl rfl (t_X10_reaches hG ⟨rfl, rfl⟩ g54) ?_
        refine sx_if_eq (pc := 108) (tgt := 115) dX10_meets_108 (by decide) (fun c56 => ?_) (fun c56 => ?_)
        · have h := sx_pos c56 h
          refine sx_iconst (pc := 115) (v := 0) dX10_meets_115 (by decide) ?_
          exact sv_zret (pc := 116) dX10_meets_116 rfl rfl h hP
        · have h := sx_neg c56 h
          refine sx_iconst (pc := 111) (v := 1) dX10_meets_111 (by decide) ?_
          refine sx_goto (pc := 112) (tgt := 116) dX10_meets_112 (by decide) ?_
          exact sv_zret (pc := 116) dX10_meets_116 rfl rfl h hP
def ncX11_glyph : Nat := 3959327310010223444610178737536345881429701580939073088388793506970915635133203143063892725885948690180042617621709924845994397108465536135486588285727562949270778455064767995957303745745166645337736293317777636035921945177443431135168589315175152322269817230394292171633858332515944000287333739478265105489709702719664864495205020170189492519392678477260127656911227260929481245324854106944939537450
theorem kcX11_glyph : CK cX11_glyph ncX11_glyph 166 := ⟨by decide +kernel, by decide +kernel⟩
theorem dX11_glyph_0 : decode cX11_glyph 0 = .ok (.aload_n 0, 1) := dl_o42 kcX11_glyph (by decide +kernel)
theorem dX11_glyph_1 : decode cX11_glyph 1 = .ok (.getfield 16, 3) := dl_o180 kcX11_glyph (by decide +kernel)
theorem dX11_glyph_4 : decode cX11_glyph 4 = .ok (.getfield 67, 3) := dl_o180 kcX11_glyph (by decide +kernel)
theorem dX11_glyph_7 : decode cX11_glyph 7 = .ok (.ifCond .ne 6, 3) := dl_o154 kcX11_glyph 6 (by decide +kernel) (by decide +kernel)
theorem dX11_glyph_10 : decode cX11_glyph 10 = .ok (.bipush (-3), 2) := dl_o16 kcX11_glyph 253 (by decide +kernel) (by decide +kernel)
theorem dX11_glyph_12 : decode cX11_glyph 12 = .ok (.ireturn, 1) := dl_o172 kcX11_glyph (by decide +kernel)
theorem dX11_glyph_13 : decode cX11_glyph 13 = .ok (.aload_n 0, 1) := dl_o42 kcX11_glyph (by decide +kernel)
theorem dX11_glyph_14 : decode cX11_glyph 14 = .ok (.getfield 16, 3) := dl_o180 kcX11_glyph (by decide +kernel)
theorem dX11_glyph_17 : decode cX11_glyph 17 = .ok (.iload_n 1, 1) := dl_o27 kcX11_glyph (by decide +kernel)
theorem dX11_glyph_18 : decode cX11_glyph 18 = .ok (.invokevirtual 116, 3) := dl_o182 kcX11_glyph (by decide +kernel)
theorem dX11_glyph_21 : decode cX11_glyph 21 = .ok (.ifCond .ne 5, 3) := dl_o154 kcX11_glyph 5 (by decide +kernel) (by decide +kernel)
theorem dX11_glyph_24 : decode cX11_glyph 24 = .ok (.iconst (-1), 1) := dl_o2 kcX11_glyph (by decide +kernel)
theorem dX11_glyph_25 : decode cX11_glyph 25 = .ok (.ireturn, 1) := dl_o172 kcX11_glyph (by decide +kernel)
theorem dX11_glyph_26 : decode cX11_glyph 26 = .ok (.iload_n 2, 1) := dl_o28 kcX11_glyph (by decide +kernel)
theorem dX11_glyph_27 : decode cX11_glyph 27 = .ok (.tableswitch 136 0 7 #[45, 54, 63, 75, 87, 99, 111, 123], 45) := by decide +kernel
theorem dX11_glyph_72 : decode cX11_glyph 72 = .ok (.aload_n 0, 1) := dl_o42 kcX11_glyph (by decide +kernel)
theorem dX11_glyph_73 : decode cX11_glyph 73 = .ok (.getfield 16, 3) := dl_o180 kcX11_glyph (by decide +kernel)
theorem dX11_glyph_76 : decode cX11_glyph 76 = .ok (.iload_n 1, 1) := dl_o27 kcX11_glyph (by decide +kernel)
theorem dX11_glyph_77 : decode cX11_glyph 77 = .ok (.invokevirtual 120, 3) := dl_o182 kcX11_glyph (by decide +kernel)
theorem dX11_glyph_80 : decode cX11_glyph 80 = .ok (.ireturn, 1) := dl_o172 kcX11_glyph (by decide +kernel)
theorem dX11_glyph_81 : decode cX11_glyph 81 = .ok (.aload_n 0, 1) := dl_o42 kcX11_glyph (by decide +kernel)
theorem dX11_glyph_82 : decode cX11_glyph 82 = .ok (.getfield 16, 3) := dl_o180 kcX11_glyph (by decide +kernel)
theorem dX11_glyph_85 : decode cX11_glyph 85 = .ok (.iload_n 1, 1) := dl_o27 kcX11_glyph (by decide +kernel)
theorem dX11_glyph_86 : decode cX11_glyph 86 = .ok (.invokevirtual 123, 3) := dl_o182 kcX11_glyph (by decide +kernel)
theorem dX11_glyph_89 : decode cX11_glyph 89 = .ok (.ireturn, 1) := dl_o172 kcX11_glyph (by decide +kernel)
theorem dX11_glyph_90 : decode cX11_glyph 90 = .ok (.aload_n 0, 1) := dl_o42 kcX11_glyph (by decide +kernel)
theorem dX11_glyph_91 : decode cX11_glyph 91 = .ok (.getfield 16, 3) := dl_o180 kcX11_glyph (by decide +kernel)
theorem dX11_glyph_94 : decode cX11_glyph 94 = .ok (.getfield 126, 3) := dl_o180 kcX11_glyph (by decide +kernel)
theorem dX11_glyph_97 : decode cX11_glyph 97 = .ok (.iconst 1, 1) := dl_o4 kcX11_glyph (by decide +kernel)
theorem dX11_glyph_98 : decode cX11_glyph 98 = .ok (.aaload, 1) := dl_o50 kcX11_glyph (by decide +kernel)
theorem dX11_glyph_99 : decode cX11_glyph 99 = .ok (.iload_n 1, 1) := dl_o27 kcX11_glyph (by decide +kernel)
theorem dX11_glyph_100 : decode cX11_glyph 100 = .ok (.iaload, 1) := dl_o46 kcX11_glyph (by decide +kernel)
theorem dX11_glyph_101 : decode cX11_glyph 101 = .ok (.ireturn, 1) := dl_o172 kcX11_glyph (by decide +kernel)
theorem dX11_glyph_102 : decode cX11_glyph 102 = .ok (.aload_n 0, 1) := dl_o42 kcX11_glyph (by decide +kernel)
theorem dX11_glyph_103 : decode cX11_glyph 103 = .ok (.getfield 16, 3) := dl_o180 kcX11_glyph (by decide +kernel)
theorem dX11_glyph_106 : decode cX11_glyph 106 = .ok (.getfield 126, 3) := dl_o180 kcX11_glyph (by decide +kernel)
theorem dX11_glyph_109 : decode cX11_glyph 109 = .ok (.iconst 2, 1) := dl_o5 kcX11_glyph (by decide +kernel)
theorem dX11_glyph_110 : decode cX11_glyph 110 = .ok (.aaload, 1) := dl_o50 kcX11_glyph (by decide +kernel)
theorem dX11_glyph_111 : decode cX11_glyph 111 = .ok (.iload_n 1, 1) := dl_o27 kcX11_glyph (by decide +kernel)
theorem dX11_glyph_112 : decode cX11_glyph 112 = .ok (.iaload, 1) := dl_o46 kcX11_glyph (by decide +kernel)
theorem dX11_glyph_113 : decode cX11_glyph 113 = .ok (.ireturn, 1) := dl_o172 kcX11_glyph (by decide +kernel)
theorem dX11_glyph_114 : decode cX11_glyph 114 = .ok (.aload_n 0, 1) := dl_o42 kcX11_glyph (by decide +kernel)
theorem dX11_glyph_115 : decode cX11_glyph 115 = .ok (.getfield 16, 3) := dl_o180 kcX11_glyph (by decide +kernel)
theorem dX11_glyph_118 : decode cX11_glyph 118 = .ok (.getfield 126, 3) := dl_o180 kcX11_glyph (by decide +kernel)
theorem dX11_glyph_121 : decode cX11_glyph 121 = .ok (.iconst 3, 1) := dl_o6 kcX11_glyph (by decide +kernel)
theorem dX11_glyph_122 : decode cX11_glyph 122 = .ok (.aaload, 1) := dl_o50 kcX11_glyph (by decide +kernel)
theorem dX11_glyph_123 : decode cX11_glyph 123 = .ok (.iload_n 1, 1) := dl_o27 kcX11_glyph (by decide +kernel)
theorem dX11_glyph_124 : decode cX11_glyph 124 = .ok (.iaload, 1) := dl_o46 kcX11_glyph (by decide +kernel)
theorem dX11_glyph_125 : decode cX11_glyph 125 = .ok (.ireturn, 1) := dl_o172 kcX11_glyph (by decide +kernel)
theorem dX11_glyph_126 : decode cX11_glyph 126 = .ok (.aload_n 0, 1) := dl_o42 kcX11_glyph (by decide +kernel)
theorem dX11_glyph_127 : decode cX11_glyph 127 = .ok (.getfield 16, 3) := dl_o180 kcX11_glyph (by decide +kernel)
theorem dX11_glyph_130 : decode cX11_glyph 130 = .ok (.getfield 126, 3) := dl_o180 kcX11_glyph (by decide +kernel)
theorem dX11_glyph_133 : decode cX11_glyph 133 = .ok (.iconst 4, 1) := dl_o7 kcX11_glyph (by decide +kernel)
theorem dX11_glyph_134 : decode cX11_glyph 134 = .ok (.aaload, 1) := dl_o50 kcX11_glyph (by decide +kernel)
theorem dX11_glyph_135 : decode cX11_glyph 135 = .ok (.iload_n 1, 1) := dl_o27 kcX11_glyph (by decide +kernel)
theorem dX11_glyph_136 : decode cX11_glyph 136 = .ok (.iaload, 1) := dl_o46 kcX11_glyph (by decide +kernel)
theorem dX11_glyph_137 : decode cX11_glyph 137 = .ok (.ireturn, 1) := dl_o172 kcX11_glyph (by decide +kernel)
theorem dX11_glyph_138 : decode cX11_glyph 138 = .ok (.aload_n 0, 1) := dl_o42 kcX11_glyph (by decide +kernel)
theorem dX11_glyph_139 : decode cX11_glyph 139 = .ok (.getfield 16, 3) := dl_o180 kcX11_glyph (by decide +kernel)
theorem dX11_glyph_142 : decode cX11_glyph 142 = .ok (.getfield 126, 3) := dl_o180 kcX11_glyph (by decide +kernel)
theorem dX11_glyph_145 : decode cX11_glyph 145 = .ok (.iconst 5, 1) := dl_o8 kcX11_glyph (by decide +kernel)
theorem dX11_glyph_146 : decode cX11_glyph 146 = .ok (.aaload, 1) := dl_o50 kcX11_glyph (by decide +kernel)
theorem dX11_glyph_147 : decode cX11_glyph 147 = .ok (.iload_n 1, 1) := dl_o27 kcX11_glyph (by decide +kernel)
theorem dX11_glyph_148 : decode cX11_glyph 148 = .ok (.iaload, 1) := dl_o46 kcX11_glyph (by decide +kernel)
theorem dX11_glyph_149 : decode cX11_glyph 149 = .ok (.ireturn, 1) := dl_o172 kcX11_glyph (by decide +kernel)
theorem dX11_glyph_150 : decode cX11_glyph 150 = .ok (.aload_n 0, 1) := dl_o42 kcX11_glyph (by decide +kernel)
theorem dX11_glyph_151 : decode cX11_glyph 151 = .ok (.getfield 16, 3) := dl_o180 kcX11_glyph (by decide +kernel)
theorem dX11_glyph_154 : decode cX11_glyph 154 = .ok (.getfield 126, 3) := dl_o180 kcX11_glyph (by decide +kernel)
theorem dX11_glyph_157 : decode cX11_glyph 157 = .ok (.bipush 7, 2) := dl_o16 kcX11_glyph 7 (by decide +kernel) (by decide +kernel)
theorem dX11_glyph_159 : decode cX11_glyph 159 = .ok (.aaload, 1) := dl_o50 kcX11_glyph (by decide +kernel)
theorem dX11_glyph_160 : decode cX11_glyph 160 = .ok (.iload_n 1, 1) := dl_o27 kcX11_glyph (by decide +kernel)
theorem dX11_glyph_161 : decode cX11_glyph 161 = .ok (.iaload, 1) := dl_o46 kcX11_glyph (by decide +kernel)
theorem dX11_glyph_162 : decode cX11_glyph 162 = .ok (.ireturn, 1) := dl_o172 kcX11_glyph (by decide +kernel)
theorem dX11_glyph_163 : decode cX11_glyph 163 = .ok (.bipush (-2), 2) := dl_o16 kcX11_glyph 254 (by decide +kernel) (by decide +kernel)
theorem dX11_glyph_165 : decode cX11_glyph 165 = .ok (.ireturn, 1) := dl_o172 kcX11_glyph (by decide +kernel)
def F_X11_glyph (l1 : Int32) (l2 : Int32) (V : sv_V) : Option (Int32 × sv_V) := if (V.1 2 2) = 0 then (some ((-3 : Int32), V)) else ((F_X2_hasGlyph l1 V).bind (fun (x4, V2) => if x4 = 0 then (some ((-1 : Int32), V2)) else (if l2 = 0 then ((F_X2_advanceOf l1 V2).bind (fun (x9, V7) => some (x9, V7))) else (if l2 = 1 then ((F_X2_bearingOf l1 V2).bind (fun (x13, V11) => some (x13, V11))) else (if l2 = 2 then ((cr 7 (1 : Int32).toNatClampNeg).bind (fun b15 => (sv_len 0 b15).bind (fun n17 => if sx_in l1 n17 = true then some (V2.1 b15 l1.toNatClampNeg, V2) else none))) else (if l2 = 3 then ((cr 7 (2 : Int32).toNatClampNeg).bind (fun b21 => (sv_len 0 b21).bind (fun n23 => if sx_in l1 n23 = true then some (V2.1 b21 l1.toNatClampNeg, V2) else none))) else (if l2 = 4 then ((cr 7 (3 : Int32).toNatClampNeg).bind (fun b27 => (sv_len 0 b27).bind (fun n29 => if sx_in l1 n29 = true then some (V2.1 b27 l1.toNatClampNeg, V2) else none))) else (if l2 = 5 then ((cr 7 (4 : Int32).toNatClampNeg).bind (fun b33 => (sv_len 0 b33).bind (fun n35 => if sx_in l1 n35 = true then some (V2.1 b33 l1.toNatClampNeg, V2) else none))) else (if l2 = 6 then ((cr 7 (5 : Int32).toNatClampNeg).bind (fun b39 => (sv_len 0 b39).bind (fun n41 => if sx_in l1 n41 = true then some (V2.1 b39 l1.toNatClampNeg, V2) else none))) else (if l2 = 7 then ((cr 7 (7 : Int32).toNatClampNeg).bind (fun b45 => (sv_len 0 b45).bind (fun n47 => if sx_in l1 n47 = true then some (V2.1 b45 l1.toNatClampNeg, V2) else none))) else (some ((-2 : Int32), V2))))))))))))
set_option maxRecDepth 20000 in
theorem t_X11_glyph {g : sx_G} (hG : sx_Go g) {P : Option Value → sv_V → Prop} {r : Int32} {Vr : sv_V} (hP : P (some (.int r)) Vr) {l1 : Int32} {l2 : Int32} {V : sv_V} (h : F_X11_glyph l1 l2 V = some (r, Vr)) : sv_N g qX11_glyph 2 0 [(0, .ref 0), (1, .int l1), (2, .int l2)] [] V P := by
  unfold F_X11_glyph at h
  refine sx_aload_n (pc := 0) dX11_glyph_0 sx_m0 ?_
  refine sv_getO (pc := 1) hG dX11_glyph_1 f_11_16 lay_0 rfl cr_0_2 ?_
  refine sv_getZ (pc := 4) hG dX11_glyph_4 f_11_67 lay_2 rfl ?_
  refine sx_if_ne (pc := 7) (tgt := 13) dX11_glyph_7 (by decide) (fun c1 => ?_) (fun c1 => ?_)
  · have h := sx_neg c1 h
    refine sx_aload_n (pc := 13) dX11_glyph_13 sx_m0 ?_
    refine sv_getO (pc := 14) hG dX11_glyph_14 f_11_16 lay_0 rfl cr_0_2 ?_
    refine sx_iload_n (pc := 17) dX11_glyph_17 sx_m1 ?_
    obtain ⟨⟨x4, V2⟩, g3, h⟩ := sx_bnd h
    refine sv_cV (pc := 18) (y := qX2_hasGlyph) (o := (some (.int x4))) (as := [.int l1]) (V1 := V2) hG dX11_glyph_18 l_X11_116 y0X2_hasGlyph yvX2_hasGlyph rfl (Nat.le_of_ble_eq_true rfl) lay_2 kr_2 (by decide) (Nat.le_of_ble_eq_true rfl) rfl rfl rfl (t_X2_hasGlyph hG ⟨rfl, rfl⟩ g3) ?_
    refine sx_if_ne (pc := 21) (tgt := 26) dX11_glyph_21 (by decide) (fun c5 => ?_) (fun c5 => ?_)
    · have h := sx_neg c5 h
      refine sx_iload_n (pc := 26) dX11_glyph_26 sx_m2 ?_
      by_cases c6 : l2 = 0
      · have h := sx_pos c6 h
        refine sx_tabI (pc := 27) (off := 45) (tgt := 72) dX11_glyph_27 (by rw [c6]; decide) (by rw [c6]; decide) (by rw [c6]; rfl) (by decide) ?_
        refine sx_aload_n (pc := 72) dX11_glyph_72 sx_m0 ?_
        refine sv_getO (pc := 73) hG dX11_glyph_73 f_11_16 lay_0 rfl cr_0_2 ?_
        refine sx_iload_n (pc := 76) dX11_glyph_76 sx_m1 ?_
        obtain ⟨⟨x9, V7⟩, g8, h⟩ := sx_bnd h
        refine sv_cV (pc := 77) (y := qX2_advanceOf) (o := (some (.int x9))) (as := [.int l1]) (V1 := V7) hG dX11_glyph_77 l_X11_120 y0X2_advanceOf yvX2_advanceOf rfl (Nat.le_of_ble_eq_true rfl) lay_2 kr_2 (by decide) (Nat.le_of_ble_eq_true rfl) rfl rfl rfl (t_X2_advanceOf hG ⟨rfl, rfl⟩ g8) ?_
        exact sv_iret (pc := 80) dX11_glyph_80 rfl h hP
      have h := sx_neg c6 h
      by_cases c10 : l2 = 1
      · have h := sx_pos c10 h
        refine sx_tabI (pc := 27) (off := 54) (tgt := 81) dX11_glyph_27 (by rw [c10]; decide) (by rw [c10]; decide) (by rw [c10]; rfl) (by decide) ?_
        refine sx_aload_n (pc := 81) dX11_glyph_81 sx_m0 ?_
        refine sv_getO (pc := 82) hG dX11_glyph_82 f_11_16 lay_0 rfl cr_0_2 ?_
        refine sx_iload_n (pc := 85) dX11_glyph_85 sx_m1 ?_
        obtain ⟨⟨x13, V11⟩, g12, h⟩ := sx_bnd h
        refine sv_cV (pc := 86) (y := qX2_bearingOf) (o := (some (.int x13))) (as := [.int l1]) (V1 := V11) hG dX11_glyph_86 l_X11_123 y0X2_bearingOf yvX2_bearingOf rfl (Nat.le_of_ble_eq_true rfl) lay_2 kr_2 (by decide) (Nat.le_of_ble_eq_true rfl) rfl rfl rfl (t_X2_bearingOf hG ⟨rfl, rfl⟩ g12) ?_
        exact sv_iret (pc := 89) dX11_glyph_89 rfl h hP
      have h := sx_neg c10 h
      by_cases c14 : l2 = 2
      · have h := sx_pos c14 h
        refine sx_tabI (pc := 27) (off := 63) (tgt := 90) dX11_glyph_27 (by rw [c14]; decide) (by rw [c14]; decide) (by rw [c14]; rfl) (by decide) ?_
        refine sx_aload_n (pc := 90) dX11_glyph_90 sx_m0 ?_
        refine sv_getO (pc := 91) hG dX11_glyph_91 f_11_16 lay_0 rfl cr_0_2 ?_
        refine sv_getA (pc := 94) hG dX11_glyph_94 f_11_126 lay_2 rfl cr_2_16 ?_
        refine sx_iconst (pc := 97) (v := 1) dX11_glyph_97 (by decide) ?_
        obtain ⟨b15, g16, h⟩ := sx_bnd h
        refine sv_aald (pc := 98) hG dX11_glyph_98 (by decide) lay_7 (by decide) g16 ?_
        refine sx_iload_n (pc := 99) dX11_glyph_99 sx_m1 ?_
        obtain ⟨n17, g18, h⟩ := sx_bnd h
        obtain ⟨g19, h⟩ := sx_grd h
        refine sv_iald (pc := 100) hG dX11_glyph_100 (sv_len_e g18) g19 ?_
        exact sv_iret (pc := 101) dX11_glyph_101 rfl h hP
      have h := sx_neg c14 h
      by_cases c20 : l2 = 3
      · have h := sx_pos c20 h
        refine sx_tabI (pc := 27) (off := 75) (tgt := 102) dX11_glyph_27 (by rw [c20]; decide) (by rw [c20]; decide) (by rw [c20]; rfl) (by decide) ?_
        refine sx_aload_n (pc := 102) dX11_glyph_102 sx_m0 ?_
        refine sv_getO (pc := 103) hG dX11_glyph_103 f_11_16 lay_0 rfl cr_0_2 ?_
        refine sv_getA (pc := 106) hG dX11_glyph_106 f_11_126 lay_2 rfl cr_2_16 ?_
        refine sx_iconst (pc := 109) (v := 2) dX11_glyph_109 (by decide) ?_
        obtain ⟨b21, g22, h⟩ := sx_bnd h
        refine sv_aald (pc := 110) hG dX11_glyph_110 (by decide) lay_7 (by decide) g22 ?_
        refine sx_iload_n (pc := 111) dX11_glyph_111 sx_m1 ?_
        obtain ⟨n23, g24, h⟩ := sx_bnd h
        obtain ⟨g25, h⟩ := sx_grd h
        refine sv_iald (pc := 112) hG dX11_glyph_112 (sv_len_e g24) g25 ?_
        exact sv_iret (pc := 113) dX11_glyph_113 rfl h hP
      have h := sx_neg c20 h
      by_cases c26 : l2 = 4
      · have h := sx_pos c26 h
        refine sx_tabI (pc := 27) (off := 87) (tgt := 114) dX11_glyph_27 (by rw [c26]; decide) (by rw [c26]; decide) (by rw [c26]; rfl) (by decide) ?_
        refine sx_aload_n (pc := 114) dX11_glyph_114 sx_m0 ?_
        refine sv_getO (pc := 115) hG dX11_glyph_115 f_11_16 lay_0 rfl cr_0_2 ?_
        refine sv_getA (pc := 118) hG dX11_glyph_118 f_11_126 lay_2 rfl cr_2_16 ?_
        refine sx_iconst (pc := 121) (v := 3) dX11_glyph_121 (by decide) ?_
        obtain ⟨b27, g28, h⟩ := sx_bnd h
        refine sv_aald (pc := 122) hG dX11_glyph_122 (by decide) lay_7 (by decide) g28 ?_
        refine sx_iload_n (pc := 123) dX11_glyph_123 sx_m1 ?_
        obtain ⟨n29, g30, h⟩ := sx_bnd h
        obtain ⟨g31, h⟩ := sx_grd h
        refine sv_iald (pc := 124) hG dX11_glyph_124 (sv_len_e g30) g31 ?_
        exact sv_iret (pc := 125) dX11_glyph_125 rfl h hP
      have h := sx_neg c26 h
      by_cases c32 : l2 = 5
      · have h := sx_pos c32 h
        refine sx_tabI (pc := 27) (off := 99) (tgt := 126) dX11_glyph_27 (by rw [c32]; decide) (by rw [c32]; decide) (by rw [c32]; rfl) (by decide) ?_
        refine sx_aload_n (pc := 126) dX11_glyph_126 sx_m0 ?_
        refine sv_getO (pc := 127) hG dX11_glyph_127 f_11_16 lay_0 rfl cr_0_2 ?_
        refine sv_getA (pc := 130) hG dX11_glyph_130 f_11_126 lay_2 rfl cr_2_16 ?_
        refine sx_iconst (pc := 133) (v := 4) dX11_glyph_133 (by decide) ?_
        obtain ⟨b33, g34, h⟩ := sx_bnd h
        refine sv_aald (pc := 134) hG dX11_glyph_134 (by decide) lay_7 (by decide) g34 ?_
        refine sx_iload_n (pc := 135) dX11_glyph_135 sx_m1 ?_
        obtain ⟨n35, g36, h⟩ := sx_bnd h
        obtain ⟨g37, h⟩ := sx_grd h
        refine sv_iald (pc := 136) hG dX11_glyph_136 (sv_len_e g36) g37 ?_
        exact sv_iret (pc := 137) dX11_glyph_137 rfl h hP
      have h := sx_neg c32 h
      by_cases c38 : l2 = 6
      · have h := sx_pos c38 h
        refine sx_tabI (pc := 27) (off := 111) (tgt := 138) dX11_glyph_27 (by rw [c38]; decide) (by rw [c38]; decide) (by rw [c38]; rfl) (by decide) ?_
        refine sx_aload_n (pc := 138) dX11_glyph_138 sx_m0 ?_
        refine sv_getO (pc := 139) hG dX11_glyph_139 f_11_16 lay_0 rfl cr_0_2 ?_
        refine sv_getA (pc := 142) hG dX11_glyph_142 f_11_126 lay_2 rfl cr_2_16 ?_
        refine sx_iconst (pc := 145) (v := 5) dX11_glyph_145 (by decide) ?_
        obtain ⟨b39, g40, h⟩ := sx_bnd h
        refine sv_aald (pc := 146) hG dX11_glyph_146 (by decide) lay_7 (by decide) g40 ?_
        refine sx_iload_n (pc := 147) dX11_glyph_147 sx_m1 ?_
        obtain ⟨n41, g42, h⟩ := sx_bnd h
        obtain ⟨g43, h⟩ := sx_grd h
        refine sv_iald (pc := 148) hG dX11_glyph_148 (sv_len_e g42) g43 ?_
        exact sv_iret (pc := 149) dX11_glyph_149 rfl h hP
      have h := sx_neg c38 h
      by_cases c44 : l2 = 7
      · have h := sx_pos c44 h
        refine sx_tabI (pc := 27) (off := 123) (tgt := 150) dX11_glyph_27 (by rw [c44]; decide) (by rw [c44]; decide) (by rw [c44]; rfl) (by decide) ?_
        refine sx_aload_n (pc := 150) dX11_glyph_150 sx_m0 ?_
        refine sv_getO (pc := 151) hG dX11_glyph_151 f_11_16 lay_0 rfl cr_0_2 ?_
        refine sv_getA (pc := 154) hG dX11_glyph_154 f_11_126 lay_2 rfl cr_2_16 ?_
        refine sx_bipush (pc := 157) (v := 7) dX11_glyph_157 (by decide) ?_
        obtain ⟨b45, g46, h⟩ := sx_bnd h
        refine sv_aald (pc := 159) hG dX11_glyph_159 (by decide) lay_7 (by decide) g46 ?_
        refine sx_iload_n (pc := 160) dX11_glyph_160 sx_m1 ?_
        obtain ⟨n47, g48, h⟩ := sx_bnd h
        obtain ⟨g49, h⟩ := sx_grd h
        refine sv_iald (pc := 161) hG dX11_glyph_161 (sv_len_e g48) g49 ?_
        exact sv_iret (pc := 162) dX11_glyph_162 rfl h hP
      have h := sx_neg c44 h
      refine sx_tabO (pc := 27) (tgt := 163) dX11_glyph_27 (by have ec6 := lv_neT (a := 0) c6 rfl; have ec10 := lv_neT (a := 1) c10 rfl; have ec14 := lv_neT (a := 2) c14 rfl; have ec20 := lv_neT (a := 3) c20 rfl; have ec26 := lv_neT (a := 4) c26 rfl; have ec32 := lv_neT (a := 5) c32 rfl; have ec38 := lv_neT (a := 6) c38 rfl; have ec44 := lv_neT (a := 7) c44 rfl; omega) (by decide) ?_
      refine sx_bipush (pc := 163) (v := (-2)) dX11_glyph_163 (by decide) ?_
      exact sv_iret (pc := 165) dX11_glyph_165 rfl h hP
    · have h := sx_pos c5 h
      refine sx_iconst (pc := 24) (v := (-1)) dX11_glyph_24 (by decide) ?_
      exact sv_iret (pc := 25) dX11_glyph_25 rfl h hP
  · have h := sx_pos c1 h
    refine sx_bipush (pc := 10) (v := (-3)) dX11_glyph_10 (by decide) ?_
    exact sv_iret (pc := 12) dX11_glyph_12 rfl h hP
end
section
/-! methods: X11_canvas, X11_toWholePixel, X12_nearest, X12_simple, X12_map, X12_settings, X12_rounded, X12_direction, X12_follow -/
def ncX11_canvas : Nat := 21900598112480414916555367022406332535707856178509081980066526475454723530999389275251868699
theorem kcX11_canvas : CK cX11_canvas ncX11_canvas 38 := ⟨by decide +kernel, by decide +kernel⟩
theorem dX11_canvas_0 : decode cX11_canvas 0 = .ok (.iload_n 1, 1) := dl_o27 kcX11_canvas (by decide +kernel)
theorem dX11_canvas_1 : decode cX11_canvas 1 = .ok (.iconst 1, 1) := dl_o4 kcX11_canvas (by decide +kernel)
theorem dX11_canvas_2 : decode cX11_canvas 2 = .ok (.if_icmp .lt 22, 3) := dl_o161 kcX11_canvas 22 (by decide +kernel) (by decide +kernel)
theorem dX11_canvas_5 : decode cX11_canvas 5 = .ok (.iload_n 1, 1) := dl_o27 kcX11_canvas (by decide +kernel)
theorem dX11_canvas_6 : decode cX11_canvas 6 = .ok (.sipush 128, 3) := dl_o17 kcX11_canvas 128 (by decide +kernel) (by decide +kernel)
theorem dX11_canvas_9 : decode cX11_canvas 9 = .ok (.if_icmp .gt 15, 3) := dl_o163 kcX11_canvas 15 (by decide +kernel) (by decide +kernel)
theorem dX11_canvas_12 : decode cX11_canvas 12 = .ok (.iload_n 2, 1) := dl_o28 kcX11_canvas (by decide +kernel)
theorem dX11_canvas_13 : decode cX11_canvas 13 = .ok (.iconst 1, 1) := dl_o4 kcX11_canvas (by decide +kernel)
theorem dX11_canvas_14 : decode cX11_canvas 14 = .ok (.if_icmp .lt 10, 3) := dl_o161 kcX11_canvas 10 (by decide +kernel) (by decide +kernel)
theorem dX11_canvas_17 : decode cX11_canvas 17 = .ok (.iload_n 2, 1) := dl_o28 kcX11_canvas (by decide +kernel)
theorem dX11_canvas_18 : decode cX11_canvas 18 = .ok (.sipush 128, 3) := dl_o17 kcX11_canvas 128 (by decide +kernel) (by decide +kernel)
theorem dX11_canvas_21 : decode cX11_canvas 21 = .ok (.if_icmp .le 6, 3) := dl_o164 kcX11_canvas 6 (by decide +kernel) (by decide +kernel)
theorem dX11_canvas_24 : decode cX11_canvas 24 = .ok (.bipush (-2), 2) := dl_o16 kcX11_canvas 254 (by decide +kernel) (by decide +kernel)
theorem dX11_canvas_26 : decode cX11_canvas 26 = .ok (.ireturn, 1) := dl_o172 kcX11_canvas (by decide +kernel)
theorem dX11_canvas_27 : decode cX11_canvas 27 = .ok (.aload_n 0, 1) := dl_o42 kcX11_canvas (by decide +kernel)
theorem dX11_canvas_28 : decode cX11_canvas 28 = .ok (.getfield 44, 3) := dl_o180 kcX11_canvas (by decide +kernel)
theorem dX11_canvas_31 : decode cX11_canvas 31 = .ok (.iload_n 1, 1) := dl_o27 kcX11_canvas (by decide +kernel)
theorem dX11_canvas_32 : decode cX11_canvas 32 = .ok (.iload_n 2, 1) := dl_o28 kcX11_canvas (by decide +kernel)
theorem dX11_canvas_33 : decode cX11_canvas 33 = .ok (.invokevirtual 243, 3) := dl_o182 kcX11_canvas (by decide +kernel)
theorem dX11_canvas_36 : decode cX11_canvas 36 = .ok (.iconst 1, 1) := dl_o4 kcX11_canvas (by decide +kernel)
theorem dX11_canvas_37 : decode cX11_canvas 37 = .ok (.ireturn, 1) := dl_o172 kcX11_canvas (by decide +kernel)
def F_X11_canvas (N : Nat) (l1 : Int32) (l2 : Int32) (V : sv_V) : Option (Int32 × sv_V) := if l1 < (1 : Int32) then (some ((-2 : Int32), V)) else (if (128 : Int32) < l1 then (some ((-2 : Int32), V)) else (if l2 < (1 : Int32) then (some ((-2 : Int32), V)) else (if l2 ≤ (128 : Int32) then ((F_X1_renew N l1 l2 V).bind (fun V5 => some ((1 : Int32), V5))) else (some ((-2 : Int32), V)))))
set_option maxRecDepth 20000 in
theorem t_X11_canvas {g : sx_G} (hG : sx_Go g) {P : Option Value → sv_V → Prop} {r : Int32} {Vr : sv_V} (hP : P (some (.int r)) Vr) {N : Nat} {l1 : Int32} {l2 : Int32} {V : sv_V} (h : F_X11_canvas N l1 l2 V = some (r, Vr)) : sv_N g qX11_canvas 2 0 [(0, .ref 0), (1, .int l1), (2, .int l2)] [] V P := by
  unfold F_X11_canvas at h
  refine sx_iload_n (pc := 0) dX11_canvas_0 sx_m1 ?_
  refine sx_iconst (pc := 1) (v := 1) dX11_canvas_1 (by decide) ?_
  refine sx_icmp_lt (pc := 2) (tgt := 24) dX11_canvas_2 (by decide) (fun c1 => ?_) (fun c1 => ?_)
  · have h := sx_pos c1 h
    refine sx_bipush (pc := 24) (v := (-2)) dX11_canvas_24 (by decide) ?_
    exact sv_iret (pc := 26) dX11_canvas_26 rfl h hP
  · have h := sx_neg c1 h
    refine sx_iload_n (pc := 5) dX11_canvas_5 sx_m1 ?_
    refine sx_sipush (pc := 6) (v := 128) dX11_canvas_6 (by decide) ?_
    refine sx_icmp_gt (pc := 9) (tgt := 24) dX11_canvas_9 (by decide) (fun c2 => ?_) (fun c2 => ?_)
    · have h := sx_pos c2 h
      refine sx_bipush (pc := 24) (v := (-2)) dX11_canvas_24 (by decide) ?_
      exact sv_iret (pc := 26) dX11_canvas_26 rfl h hP
    · have h := sx_neg c2 h
      refine sx_iload_n (pc := 12) dX11_canvas_12 sx_m2 ?_
      refine sx_iconst (pc := 13) (v := 1) dX11_canvas_13 (by decide) ?_
      refine sx_icmp_lt (pc := 14) (tgt := 24) dX11_canvas_14 (by decide) (fun c3 => ?_) (fun c3 => ?_)
      · have h := sx_pos c3 h
        refine sx_bipush (pc := 24) (v := (-2)) dX11_canvas_24 (by decide) ?_
        exact sv_iret (pc := 26) dX11_canvas_26 rfl h hP
      · have h := sx_neg c3 h
        refine sx_iload_n (pc := 17) dX11_canvas_17 sx_m2 ?_
        refine sx_sipush (pc := 18) (v := 128) dX11_canvas_18 (by decide) ?_
        refine sx_icmp_le (pc := 21) (tgt := 27) dX11_canvas_21 (by decide) (fun c4 => ?_) (fun c4 => ?_)
        · have h := sx_pos c4 h
          refine sx_aload_n (pc := 27) dX11_canvas_27 sx_m0 ?_
          refine sv_getO (pc := 28) hG dX11_canvas_28 f_11_44 lay_0 rfl cr_0_5 ?_
          refine sx_iload_n (pc := 31) dX11_canvas_31 sx_m1 ?_
          refine sx_iload_n (pc := 32) dX11_canvas_32 sx_m2 ?_
          obtain ⟨V5, g6, h⟩ := sx_bnd h
          refine sv_cV (pc := 33) (y := qX1_renew) (o := none) (as := [.int l1, .int l2]) (V1 := V5) hG dX11_canvas_33 l_X11_243 y0X1_renew yvX1_renew rfl (Nat.le_of_ble_eq_true rfl) lay_143 kr_1 (by decide) (Nat.le_of_ble_eq_true rfl) rfl rfl rfl (t_X1_renew hG ⟨rfl, rfl⟩ g6) ?_
          refine sx_iconst (pc := 36) (v := 1) dX11_canvas_36 (by decide) ?_
          exact sv_iret (pc := 37) dX11_canvas_37 rfl h hP
        · have h := sx_neg c4 h
          refine sx_bipush (pc := 24) (v := (-2)) dX11_canvas_24 (by decide) ?_
          exact sv_iret (pc := 26) dX11_canvas_26 rfl h hP
def ncX11_toWholePixel : Nat := 230501938762519080255683930640657486878
theorem kcX11_toWholePixel : CK cX11_toWholePixel ncX11_toWholePixel 16 := ⟨by decide +kernel, by decide +kernel⟩
theorem dX11_toWholePixel_0 : decode cX11_toWholePixel 0 = .ok (.lload_n 0, 1) := dl_o30 kcX11_toWholePixel (by decide +kernel)
theorem dX11_toWholePixel_1 : decode cX11_toWholePixel 1 = .ok (.ldc2_w 269, 3) := dl_o20 kcX11_toWholePixel (by decide +kernel)
theorem dX11_toWholePixel_4 : decode cX11_toWholePixel 4 = .ok (.ladd, 1) := dl_o97 kcX11_toWholePixel (by decide +kernel)
theorem dX11_toWholePixel_5 : decode cX11_toWholePixel 5 = .ok (.ldc2_w 271, 3) := dl_o20 kcX11_toWholePixel (by decide +kernel)
theorem dX11_toWholePixel_8 : decode cX11_toWholePixel 8 = .ok (.invokestatic 273, 3) := dl_o184 kcX11_toWholePixel (by decide +kernel)
theorem dX11_toWholePixel_11 : decode cX11_toWholePixel 11 = .ok (.ldc2_w 271, 3) := dl_o20 kcX11_toWholePixel (by decide +kernel)
theorem dX11_toWholePixel_14 : decode cX11_toWholePixel 14 = .ok (.lmul, 1) := dl_o105 kcX11_toWholePixel (by decide +kernel)
theorem dX11_toWholePixel_15 : decode cX11_toWholePixel 15 = .ok (.lreturn, 1) := dl_o173 kcX11_toWholePixel (by decide +kernel)
def F_X11_toWholePixel (l0 : Int64) (V : sv_V) : Option (Int64 × sv_V) := (F_J9_floorDiv_f86c9 (l0 + (32 : Int64)) (64 : Int64) V).bind (fun (x3, V1) => some (x3 * (64 : Int64), V1))
set_option maxRecDepth 20000 in
theorem t_X11_toWholePixel {g : sx_G} (hG : sx_Go g) {P : Option Value → sv_V → Prop} {r : Int64} {Vr : sv_V} (hP : P (some (.long r)) Vr) {l0 : Int64} {V : sv_V} (h : F_X11_toWholePixel l0 V = some (r, Vr)) : sv_N g qX11_toWholePixel 1 0 [(0, .long l0)] [] V P := by
  unfold F_X11_toWholePixel at h
  refine sx_lload_n (pc := 0) dX11_toWholePixel_0 sx_m0 ?_
  refine sx_ldc2 (pc := 1) dX11_toWholePixel_1 k_X11_269 ?_
  refine sx_ladd (pc := 4) dX11_toWholePixel_4 ?_
  refine sx_ldc2 (pc := 5) dX11_toWholePixel_5 k_X11_271 ?_
  obtain ⟨⟨x3, V1⟩, g2, h⟩ := sx_bnd h
  refine sv_cS (pc := 8) (y := qJ9_floorDiv_f86c9) (o := (some (.long x3))) (as := [.long (l0 + (32 : Int64)), .long (64 : Int64)]) (V1 := V1) dX11_toWholePixel_8 l_X11_273 y0J9_floorDiv_f86c9 ysJ9_floorDiv_f86c9 rfl (Nat.le_of_ble_eq_true rfl) (by decide) (Nat.le_of_ble_eq_true rfl) rfl rfl rfl (t_J9_floorDiv_f86c9 hG ⟨rfl, rfl⟩ g2) ?_
  refine sx_ldc2 (pc := 11) dX11_toWholePixel_11 k_X11_271 ?_
  refine sx_lmul (pc := 14) dX11_toWholePixel_14 ?_
  exact sv_lret (pc := 15) dX11_toWholePixel_15 rfl h hP
def ncX12_nearest : Nat := 167522537279542440798258283936403112017932093612391114380044286696795549719600204568109296297391786732526233216931376266166001179093182011090877576614114692025822697168379934
theorem kcX12_nearest : CK cX12_nearest ncX12_nearest 72 := ⟨by decide +kernel, by decide +kernel⟩
theorem dX12_nearest_0 : decode cX12_nearest 0 = .ok (.lload_n 0, 1) := dl_o30 kcX12_nearest (by decide +kernel)
theorem dX12_nearest_1 : decode cX12_nearest 1 = .ok (.lload_n 2, 1) := dl_o32 kcX12_nearest (by decide +kernel)
theorem dX12_nearest_2 : decode cX12_nearest 2 = .ok (.ldiv, 1) := dl_o109 kcX12_nearest (by decide +kernel)
theorem dX12_nearest_3 : decode cX12_nearest 3 = .ok (.lstore 4, 2) := dl_o55 kcX12_nearest (by decide +kernel)
theorem dX12_nearest_5 : decode cX12_nearest 5 = .ok (.lload_n 0, 1) := dl_o30 kcX12_nearest (by decide +kernel)
theorem dX12_nearest_6 : decode cX12_nearest 6 = .ok (.lload_n 2, 1) := dl_o32 kcX12_nearest (by decide +kernel)
theorem dX12_nearest_7 : decode cX12_nearest 7 = .ok (.lrem, 1) := dl_o113 kcX12_nearest (by decide +kernel)
theorem dX12_nearest_8 : decode cX12_nearest 8 = .ok (.invokestatic 198, 3) := dl_o184 kcX12_nearest (by decide +kernel)
theorem dX12_nearest_11 : decode cX12_nearest 11 = .ok (.lstore 6, 2) := dl_o55 kcX12_nearest (by decide +kernel)
theorem dX12_nearest_13 : decode cX12_nearest 13 = .ok (.lload 6, 2) := dl_o22 kcX12_nearest (by decide +kernel)
theorem dX12_nearest_15 : decode cX12_nearest 15 = .ok (.lload_n 2, 1) := dl_o32 kcX12_nearest (by decide +kernel)
theorem dX12_nearest_16 : decode cX12_nearest 16 = .ok (.invokestatic 198, 3) := dl_o184 kcX12_nearest (by decide +kernel)
theorem dX12_nearest_19 : decode cX12_nearest 19 = .ok (.lload 6, 2) := dl_o22 kcX12_nearest (by decide +kernel)
theorem dX12_nearest_21 : decode cX12_nearest 21 = .ok (.lsub, 1) := dl_o101 kcX12_nearest (by decide +kernel)
theorem dX12_nearest_22 : decode cX12_nearest 22 = .ok (.lcmp, 1) := dl_o148 kcX12_nearest (by decide +kernel)
theorem dX12_nearest_23 : decode cX12_nearest 23 = .ok (.ifCond .lt 7, 3) := dl_o155 kcX12_nearest 7 (by decide +kernel) (by decide +kernel)
theorem dX12_nearest_26 : decode cX12_nearest 26 = .ok (.lconst 1, 1) := dl_o10 kcX12_nearest (by decide +kernel)
theorem dX12_nearest_27 : decode cX12_nearest 27 = .ok (.goto 4, 3) := dl_o167 kcX12_nearest 4 (by decide +kernel) (by decide +kernel)
theorem dX12_nearest_30 : decode cX12_nearest 30 = .ok (.lconst 0, 1) := dl_o9 kcX12_nearest (by decide +kernel)
theorem dX12_nearest_31 : decode cX12_nearest 31 = .ok (.lstore 8, 2) := dl_o55 kcX12_nearest (by decide +kernel)
theorem dX12_nearest_33 : decode cX12_nearest 33 = .ok (.lload_n 0, 1) := dl_o30 kcX12_nearest (by decide +kernel)
theorem dX12_nearest_34 : decode cX12_nearest 34 = .ok (.lconst 0, 1) := dl_o9 kcX12_nearest (by decide +kernel)
theorem dX12_nearest_35 : decode cX12_nearest 35 = .ok (.lcmp, 1) := dl_o148 kcX12_nearest (by decide +kernel)
theorem dX12_nearest_36 : decode cX12_nearest 36 = .ok (.ifCond .ge 7, 3) := dl_o156 kcX12_nearest 7 (by decide +kernel) (by decide +kernel)
theorem dX12_nearest_39 : decode cX12_nearest 39 = .ok (.iconst 1, 1) := dl_o4 kcX12_nearest (by decide +kernel)
theorem dX12_nearest_40 : decode cX12_nearest 40 = .ok (.goto 4, 3) := dl_o167 kcX12_nearest 4 (by decide +kernel) (by decide +kernel)
theorem dX12_nearest_43 : decode cX12_nearest 43 = .ok (.iconst 0, 1) := dl_o3 kcX12_nearest (by decide +kernel)
theorem dX12_nearest_44 : decode cX12_nearest 44 = .ok (.lload_n 2, 1) := dl_o32 kcX12_nearest (by decide +kernel)
theorem dX12_nearest_45 : decode cX12_nearest 45 = .ok (.lconst 0, 1) := dl_o9 kcX12_nearest (by decide +kernel)
theorem dX12_nearest_46 : decode cX12_nearest 46 = .ok (.lcmp, 1) := dl_o148 kcX12_nearest (by decide +kernel)
theorem dX12_nearest_47 : decode cX12_nearest 47 = .ok (.ifCond .ge 7, 3) := dl_o156 kcX12_nearest 7 (by decide +kernel) (by decide +kernel)
theorem dX12_nearest_50 : decode cX12_nearest 50 = .ok (.iconst 1, 1) := dl_o4 kcX12_nearest (by decide +kernel)
theorem dX12_nearest_51 : decode cX12_nearest 51 = .ok (.goto 4, 3) := dl_o167 kcX12_nearest 4 (by decide +kernel) (by decide +kernel)
theorem dX12_nearest_54 : decode cX12_nearest 54 = .ok (.iconst 0, 1) := dl_o3 kcX12_nearest (by decide +kernel)
theorem dX12_nearest_55 : decode cX12_nearest 55 = .ok (.if_icmp .ne 11, 3) := dl_o160 kcX12_nearest 11 (by decide +kernel) (by decide +kernel)
theorem dX12_nearest_58 : decode cX12_nearest 58 = .ok (.lload 4, 2) := dl_o22 kcX12_nearest (by decide +kernel)
theorem dX12_nearest_60 : decode cX12_nearest 60 = .ok (.lload 8, 2) := dl_o22 kcX12_nearest (by decide +kernel)
theorem dX12_nearest_62 : decode cX12_nearest 62 = .ok (.ladd, 1) := dl_o97 kcX12_nearest (by decide +kernel)
theorem dX12_nearest_63 : decode cX12_nearest 63 = .ok (.goto 8, 3) := dl_o167 kcX12_nearest 8 (by decide +kernel) (by decide +kernel)
theorem dX12_nearest_66 : decode cX12_nearest 66 = .ok (.lload 4, 2) := dl_o22 kcX12_nearest (by decide +kernel)
theorem dX12_nearest_68 : decode cX12_nearest 68 = .ok (.lload 8, 2) := dl_o22 kcX12_nearest (by decide +kernel)
theorem dX12_nearest_70 : decode cX12_nearest 70 = .ok (.lsub, 1) := dl_o101 kcX12_nearest (by decide +kernel)
theorem dX12_nearest_71 : decode cX12_nearest 71 = .ok (.lreturn, 1) := dl_o173 kcX12_nearest (by decide +kernel)
def B_X12_nearest_55  (l4 : Int64) (l8 : Int64) (s0 : Int32) (s1 : Int32) (V : sv_V) : Option (Int64 × sv_V) := if s0 = s1 then (some (l4 + l8, V)) else (some (l4 - l8, V))
set_option maxRecDepth 20000 in
theorem tB_X12_nearest_55 {g : sx_G} (hG : sx_Go g) {P : Option Value → sv_V → Prop} {r : Int64} {Vr : sv_V} (hP : P (some (.long r)) Vr)   {l4 : Int64} {l8 : Int64} {s0 : Int32} {s1 : Int32} {V : sv_V} (h : B_X12_nearest_55  l4 l8 s0 s1 V = some (r, Vr)) : sv_N g qX12_nearest 1 55 [(4, .long l4), (8, .long l8)] [.int s1, .int s0] V P := by
  unfold B_X12_nearest_55 at h
  refine sx_icmp_ne (pc := 55) (tgt := 66) dX12_nearest_55 (by decide) (fun c1 => ?_) (fun c1 => ?_)
  · have h := sx_neg c1 h
    refine sx_lload (pc := 66) dX12_nearest_66 sx_m0 ?_
    refine sx_lload (pc := 68) dX12_nearest_68 sx_m1 ?_
    refine sx_lsub (pc := 70) dX12_nearest_70 ?_
    exact sv_lret (pc := 71) dX12_nearest_71 rfl h hP
  · have h := sx_pos c1 h
    refine sx_lload (pc := 58) dX12_nearest_58 sx_m0 ?_
    refine sx_lload (pc := 60) dX12_nearest_60 sx_m1 ?_
    refine sx_ladd (pc := 62) dX12_nearest_62 ?_
    refine sx_goto (pc := 63) (tgt := 71) dX12_nearest_63 (by decide) ?_
    exact sv_lret (pc := 71) dX12_nearest_71 rfl h hP
def B_X12_nearest_44  (l2 : Int64) (l4 : Int64) (l8 : Int64) (s0 : Int32) (V : sv_V) : Option (Int64 × sv_V) := if 0 ≤ (lg_cmp l2 (0 : Int64)) then (B_X12_nearest_55  l4 l8 s0 (0 : Int32) V) else (B_X12_nearest_55  l4 l8 s0 (1 : Int32) V)
set_option maxRecDepth 20000 in
theorem tB_X12_nearest_44 {g : sx_G} (hG : sx_Go g) {P : Option Value → sv_V → Prop} {r : Int64} {Vr : sv_V} (hP : P (some (.long r)) Vr)   {l2 : Int64} {l4 : Int64} {l8 : Int64} {s0 : Int32} {V : sv_V} (h : B_X12_nearest_44  l2 l4 l8 s0 V = some (r, Vr)) : sv_N g qX12_nearest 1 44 [(2, .long l2), (4, .long l4), (8, .long l8)] [.int s0] V P := by
  unfold B_X12_nearest_44 at h
  refine sx_lload_n (pc := 44) dX12_nearest_44 sx_m0 ?_
  refine sx_lconst (pc := 45) (v := 0) dX12_nearest_45 rfl ?_
  refine sx_lcmp (pc := 46) dX12_nearest_46 ?_
  refine sx_if_ge (pc := 47) (tgt := 54) dX12_nearest_47 (by decide) (fun c2 => ?_) (fun c2 => ?_)
  · have h := sx_pos c2 h
    refine sx_iconst (pc := 54) (v := 0) dX12_nearest_54 (by decide) ?_
    refine sx_wk (sx_s1 sx_m1 (sx_s1 sx_m2 sx_s0)) ?_
    exact tB_X12_nearest_55 hG hP  h
  · have h := sx_neg c2 h
    refine sx_iconst (pc := 50) (v := 1) dX12_nearest_50 (by decide) ?_
    refine sx_goto (pc := 51) (tgt := 55) dX12_nearest_51 (by decide) ?_
    refine sx_wk (sx_s1 sx_m1 (sx_s1 sx_m2 sx_s0)) ?_
    exact tB_X12_nearest_55 hG hP  h
def B_X12_nearest_31  (l0 : Int64) (l2 : Int64) (l4 : Int64) (s0 : Int64) (V : sv_V) : Option (Int64 × sv_V) := if 0 ≤ (lg_cmp l0 (0 : Int64)) then (B_X12_nearest_44  l2 l4 s0 (0 : Int32) V) else (B_X12_nearest_44  l2 l4 s0 (1 : Int32) V)
set_option maxRecDepth 20000 in
theorem tB_X12_nearest_31 {g : sx_G} (hG : sx_Go g) {P : Option Value → sv_V → Prop} {r : Int64} {Vr : sv_V} (hP : P (some (.long r)) Vr)   {l0 : Int64} {l2 : Int64} {l4 : Int64} {s0 : Int64} {V : sv_V} (h : B_X12_nearest_31  l0 l2 l4 s0 V = some (r, Vr)) : sv_N g qX12_nearest 1 31 [(0, .long l0), (2, .long l2), (4, .long l4)] [.long s0] V P := by
  unfold B_X12_nearest_31 at h
  refine sx_lstore (pc := 31) (lo' := [(8, .long s0), (0, .long l0), (2, .long l2), (4, .long l4)]) dX12_nearest_31 (by decide) rfl ?_
  refine sx_lload_n (pc := 33) dX12_nearest_33 sx_m1 ?_
  refine sx_lconst (pc := 34) (v := 0) dX12_nearest_34 rfl ?_
  refine sx_lcmp (pc := 35) dX12_nearest_35 ?_
  refine sx_if_ge (pc := 36) (tgt := 43) dX12_nearest_36 (by decide) (fun c3 => ?_) (fun c3 => ?_)
  · have h := sx_pos c3 h
    refine sx_iconst (pc := 43) (v := 0) dX12_nearest_43 (by decide) ?_
    refine sx_wk (sx_s1 sx_m2 (sx_s1 sx_m3 (sx_s1 sx_m0 sx_s0))) ?_
    exact tB_X12_nearest_44 hG hP  h
  · have h := sx_neg c3 h
    refine sx_iconst (pc := 39) (v := 1) dX12_nearest_39 (by decide) ?_
    refine sx_goto (pc := 40) (tgt := 44) dX12_nearest_40 (by decide) ?_
    refine sx_wk (sx_s1 sx_m2 (sx_s1 sx_m3 (sx_s1 sx_m0 sx_s0))) ?_
    exact tB_X12_nearest_44 hG hP  h
def F_X12_nearest (l0 : Int64) (l2 : Int64) (V : sv_V) : Option (Int64 × sv_V) := if ¬ l2 = 0 then sx_let (l0 / l2) (fun x5 => if ¬ l2 = 0 then (F_X12_sizeOf (l0 - l0 / l2 * l2) V).bind (fun (x9, V7) => (F_X12_sizeOf l2 V7).bind (fun (x12, V10) => if (lg_cmp x9 (x12 - x9)) < 0 then (B_X12_nearest_31  l0 l2 x5 (0 : Int64) V10) else (B_X12_nearest_31  l0 l2 x5 (1 : Int64) V10))) else none) else none
set_option maxRecDepth 20000 in
theorem t_X12_nearest {g : sx_G} (hG : sx_Go g) {P : Option Value → sv_V → Prop} {r : Int64} {Vr : sv_V} (hP : P (some (.long r)) Vr) {l0 : Int64} {l2 : Int64} {V : sv_V} (h : F_X12_nearest l0 l2 V = some (r, Vr)) : sv_N g qX12_nearest 1 0 [(0, .long l0), (2, .long l2)] [] V P := by
  unfold F_X12_nearest at h
  refine sx_lload_n (pc := 0) dX12_nearest_0 sx_m0 ?_
  refine sx_lload_n (pc := 1) dX12_nearest_1 sx_m1 ?_
  obtain ⟨g4, h⟩ := sx_grd h
  refine sx_ldiv (pc := 2) dX12_nearest_2 g4 ?_
  refine sv_tJ (fun x5 hx5 => ?_)
  have h := sx_letE hx5 h
  refine sx_lstore (pc := 3) (lo' := [(4, .long x5), (0, .long l0), (2, .long l2)]) dX12_nearest_3 (by decide) rfl ?_
  refine sx_lload_n (pc := 5) dX12_nearest_5 sx_m1 ?_
  refine sx_lload_n (pc := 6) dX12_nearest_6 sx_m2 ?_
  obtain ⟨g6, h⟩ := sx_grd h
  refine sx_lrem (pc := 7) dX12_nearest_7 g6 ?_
  obtain ⟨⟨x9, V7⟩, g8, h⟩ := sx_bnd h
  refine sv_cS (pc := 8) (y := qX12_sizeOf) (o := (some (.long x9))) (as := [.long (l0 - l0 / l2 * l2)]) (V1 := V7) dX12_nearest_8 l_X12_198 y0X12_sizeOf ysX12_sizeOf rfl (Nat.le_of_ble_eq_true rfl) (by decide) (Nat.le_of_ble_eq_true rfl) rfl rfl rfl (t_X12_sizeOf hG ⟨rfl, rfl⟩ g8) ?_
  refine sx_lstore (pc := 11) (lo' := [(6, .long x9), (4, .long x5), (0, .long l0), (2, .long l2)]) dX12_nearest_11 (by decide) rfl ?_
  refine sx_lload (pc := 13) dX12_nearest_13 sx_m0 ?_
  refine sx_lload_n (pc := 15) dX12_nearest_15 sx_m3 ?_
  obtain ⟨⟨x12, V10⟩, g11, h⟩ := sx_bnd h
  refine sv_cS (pc := 16) (y := qX12_sizeOf) (o := (some (.long x12))) (as := [.long l2]) (V1 := V10) dX12_nearest_16 l_X12_198 y0X12_sizeOf ysX12_sizeOf rfl (Nat.le_of_ble_eq_true rfl) (by decide) (Nat.le_of_ble_eq_true rfl) rfl rfl rfl (t_X12_sizeOf hG ⟨rfl, rfl⟩ g11) ?_
  refine sx_lload (pc := 19) dX12_nearest_19 sx_m0 ?_
  refine sx_lsub (pc := 21) dX12_nearest_21 ?_
  refine sx_lcmp (pc := 22) dX12_nearest_22 ?_
  refine sx_if_lt (pc := 23) (tgt := 30) dX12_nearest_23 (by decide) (fun c13 => ?_) (fun c13 => ?_)
  · have h := sx_pos c13 h
    refine sx_lconst (pc := 30) (v := 0) dX12_nearest_30 rfl ?_
    refine sx_wk (sx_s1 sx_m2 (sx_s1 sx_m3 (sx_s1 sx_m1 sx_s0))) ?_
    exact tB_X12_nearest_31 hG hP  h
  · have h := sx_neg c13 h
    refine sx_lconst (pc := 26) (v := 1) dX12_nearest_26 rfl ?_
    refine sx_goto (pc := 27) (tgt := 31) dX12_nearest_27 (by decide) ?_
    refine sx_wk (sx_s1 sx_m2 (sx_s1 sx_m3 (sx_s1 sx_m1 sx_s0))) ?_
    exact tB_X12_nearest_31 hG hP  h
def ncX12_simple : Nat := 149867802086987658912855646603851736855964792885237264946935502762847479918089573287812586211091755758174031772131364786357859223949866400914194256751993454172272899332233792516391100246757449838074621631535633473980596759489585512621960939190752288368193511838632221000982613107369624799912742031907913984362413564376467232083810938828184530536921300820050921176076590131716250949004233835419780359391549983424254565452037847815323660807606785899341087036547837471883307154822393564969911369737312253821630475354683076944952859060007597065226730950682774118099301580474553599257308411101613928992502205688617114786831451289902485551876348383521002803974434385696522482657804083242578986
theorem kcX12_simple : CK cX12_simple ncX12_simple 285 := ⟨by decide +kernel, by decide +kernel⟩
theorem dX12_simple_0 : decode cX12_simple 0 = .ok (.aload_n 0, 1) := dl_o42 kcX12_simple (by decide +kernel)
theorem dX12_simple_1 : decode cX12_simple 1 = .ok (.getfield 342, 3) := dl_o180 kcX12_simple (by decide +kernel)
theorem dX12_simple_4 : decode cX12_simple 4 = .ok (.bipush 10, 2) := dl_o16 kcX12_simple 10 (by decide +kernel) (by decide +kernel)
theorem dX12_simple_6 : decode cX12_simple 6 = .ok (.iadd, 1) := dl_o96 kcX12_simple (by decide +kernel)
theorem dX12_simple_7 : decode cX12_simple 7 = .ok (.istore_n 1, 1) := dl_o60 kcX12_simple (by decide +kernel)
theorem dX12_simple_8 : decode cX12_simple 8 = .ok (.iload_n 1, 1) := dl_o27 kcX12_simple (by decide +kernel)
theorem dX12_simple_9 : decode cX12_simple 9 = .ok (.iconst 2, 1) := dl_o5 kcX12_simple (by decide +kernel)
theorem dX12_simple_10 : decode cX12_simple 10 = .ok (.aload_n 0, 1) := dl_o42 kcX12_simple (by decide +kernel)
theorem dX12_simple_11 : decode cX12_simple 11 = .ok (.getfield 348, 3) := dl_o180 kcX12_simple (by decide +kernel)
theorem dX12_simple_14 : decode cX12_simple 14 = .ok (.imul, 1) := dl_o104 kcX12_simple (by decide +kernel)
theorem dX12_simple_15 : decode cX12_simple 15 = .ok (.iadd, 1) := dl_o96 kcX12_simple (by decide +kernel)
theorem dX12_simple_16 : decode cX12_simple 16 = .ok (.iconst 2, 1) := dl_o5 kcX12_simple (by decide +kernel)
theorem dX12_simple_17 : decode cX12_simple 17 = .ok (.iadd, 1) := dl_o96 kcX12_simple (by decide +kernel)
theorem dX12_simple_18 : decode cX12_simple 18 = .ok (.aload_n 0, 1) := dl_o42 kcX12_simple (by decide +kernel)
theorem dX12_simple_19 : decode cX12_simple 19 = .ok (.getfield 345, 3) := dl_o180 kcX12_simple (by decide +kernel)
theorem dX12_simple_22 : decode cX12_simple 22 = .ok (.if_icmp .le 5, 3) := dl_o164 kcX12_simple 5 (by decide +kernel) (by decide +kernel)
theorem dX12_simple_25 : decode cX12_simple 25 = .ok (.iconst 0, 1) := dl_o3 kcX12_simple (by decide +kernel)
theorem dX12_simple_26 : decode cX12_simple 26 = .ok (.ireturn, 1) := dl_o172 kcX12_simple (by decide +kernel)
theorem dX12_simple_27 : decode cX12_simple 27 = .ok (.iconst (-1), 1) := dl_o2 kcX12_simple (by decide +kernel)
theorem dX12_simple_28 : decode cX12_simple 28 = .ok (.istore_n 2, 1) := dl_o61 kcX12_simple (by decide +kernel)
theorem dX12_simple_29 : decode cX12_simple 29 = .ok (.iconst 0, 1) := dl_o3 kcX12_simple (by decide +kernel)
theorem dX12_simple_30 : decode cX12_simple 30 = .ok (.istore_n 3, 1) := dl_o62 kcX12_simple (by decide +kernel)
theorem dX12_simple_31 : decode cX12_simple 31 = .ok (.iload_n 3, 1) := dl_o29 kcX12_simple (by decide +kernel)
theorem dX12_simple_32 : decode cX12_simple 32 = .ok (.aload_n 0, 1) := dl_o42 kcX12_simple (by decide +kernel)
theorem dX12_simple_33 : decode cX12_simple 33 = .ok (.getfield 348, 3) := dl_o180 kcX12_simple (by decide +kernel)
theorem dX12_simple_36 : decode cX12_simple 36 = .ok (.if_icmp .ge 45, 3) := dl_o162 kcX12_simple 45 (by decide +kernel) (by decide +kernel)
theorem dX12_simple_39 : decode cX12_simple 39 = .ok (.aload_n 0, 1) := dl_o42 kcX12_simple (by decide +kernel)
theorem dX12_simple_40 : decode cX12_simple 40 = .ok (.iload_n 1, 1) := dl_o27 kcX12_simple (by decide +kernel)
theorem dX12_simple_41 : decode cX12_simple 41 = .ok (.invokevirtual 213, 3) := dl_o182 kcX12_simple (by decide +kernel)
theorem dX12_simple_44 : decode cX12_simple 44 = .ok (.istore 4, 2) := dl_o54 kcX12_simple (by decide +kernel)
theorem dX12_simple_46 : decode cX12_simple 46 = .ok (.iload 4, 2) := dl_o21 kcX12_simple (by decide +kernel)
theorem dX12_simple_48 : decode cX12_simple 48 = .ok (.iload_n 2, 1) := dl_o28 kcX12_simple (by decide +kernel)
theorem dX12_simple_49 : decode cX12_simple 49 = .ok (.if_icmp .le 10, 3) := dl_o164 kcX12_simple 10 (by decide +kernel) (by decide +kernel)
theorem dX12_simple_52 : decode cX12_simple 52 = .ok (.iload 4, 2) := dl_o21 kcX12_simple (by decide +kernel)
theorem dX12_simple_54 : decode cX12_simple 54 = .ok (.bipush 100, 2) := dl_o16 kcX12_simple 100 (by decide +kernel) (by decide +kernel)
theorem dX12_simple_56 : decode cX12_simple 56 = .ok (.if_icmp .lt 5, 3) := dl_o161 kcX12_simple 5 (by decide +kernel) (by decide +kernel)
theorem dX12_simple_59 : decode cX12_simple 59 = .ok (.iconst 0, 1) := dl_o3 kcX12_simple (by decide +kernel)
theorem dX12_simple_60 : decode cX12_simple 60 = .ok (.ireturn, 1) := dl_o172 kcX12_simple (by decide +kernel)
theorem dX12_simple_61 : decode cX12_simple 61 = .ok (.aload_n 0, 1) := dl_o42 kcX12_simple (by decide +kernel)
theorem dX12_simple_62 : decode cX12_simple 62 = .ok (.getfield 30, 3) := dl_o180 kcX12_simple (by decide +kernel)
theorem dX12_simple_65 : decode cX12_simple 65 = .ok (.iload_n 3, 1) := dl_o29 kcX12_simple (by decide +kernel)
theorem dX12_simple_66 : decode cX12_simple 66 = .ok (.iload 4, 2) := dl_o21 kcX12_simple (by decide +kernel)
theorem dX12_simple_68 : decode cX12_simple 68 = .ok (.iastore, 1) := dl_o79 kcX12_simple (by decide +kernel)
theorem dX12_simple_69 : decode cX12_simple 69 = .ok (.iload 4, 2) := dl_o21 kcX12_simple (by decide +kernel)
theorem dX12_simple_71 : decode cX12_simple 71 = .ok (.istore_n 2, 1) := dl_o61 kcX12_simple (by decide +kernel)
theorem dX12_simple_72 : decode cX12_simple 72 = .ok (.iinc 1 2, 3) := by decide +kernel
theorem dX12_simple_75 : decode cX12_simple 75 = .ok (.iinc 3 1, 3) := by decide +kernel
theorem dX12_simple_78 : decode cX12_simple 78 = .ok (.goto (-47), 3) := dl_o167 kcX12_simple 65489 (by decide +kernel) (by decide +kernel)
theorem dX12_simple_81 : decode cX12_simple 81 = .ok (.aload_n 0, 1) := dl_o42 kcX12_simple (by decide +kernel)
theorem dX12_simple_82 : decode cX12_simple 82 = .ok (.iload_n 2, 1) := dl_o28 kcX12_simple (by decide +kernel)
theorem dX12_simple_83 : decode cX12_simple 83 = .ok (.iconst 1, 1) := dl_o4 kcX12_simple (by decide +kernel)
theorem dX12_simple_84 : decode cX12_simple 84 = .ok (.iadd, 1) := dl_o96 kcX12_simple (by decide +kernel)
theorem dX12_simple_85 : decode cX12_simple 85 = .ok (.putfield 351, 3) := dl_o181 kcX12_simple (by decide +kernel)
theorem dX12_simple_88 : decode cX12_simple 88 = .ok (.aload_n 0, 1) := dl_o42 kcX12_simple (by decide +kernel)
theorem dX12_simple_89 : decode cX12_simple 89 = .ok (.aload_n 0, 1) := dl_o42 kcX12_simple (by decide +kernel)
theorem dX12_simple_90 : decode cX12_simple 90 = .ok (.iload_n 1, 1) := dl_o27 kcX12_simple (by decide +kernel)
theorem dX12_simple_91 : decode cX12_simple 91 = .ok (.invokevirtual 213, 3) := dl_o182 kcX12_simple (by decide +kernel)
theorem dX12_simple_94 : decode cX12_simple 94 = .ok (.putfield 360, 3) := dl_o181 kcX12_simple (by decide +kernel)
theorem dX12_simple_97 : decode cX12_simple 97 = .ok (.aload_n 0, 1) := dl_o42 kcX12_simple (by decide +kernel)
theorem dX12_simple_98 : decode cX12_simple 98 = .ok (.iload_n 1, 1) := dl_o27 kcX12_simple (by decide +kernel)
theorem dX12_simple_99 : decode cX12_simple 99 = .ok (.iconst 2, 1) := dl_o5 kcX12_simple (by decide +kernel)
theorem dX12_simple_100 : decode cX12_simple 100 = .ok (.iadd, 1) := dl_o96 kcX12_simple (by decide +kernel)
theorem dX12_simple_101 : decode cX12_simple 101 = .ok (.putfield 357, 3) := dl_o181 kcX12_simple (by decide +kernel)
theorem dX12_simple_104 : decode cX12_simple 104 = .ok (.iload_n 1, 1) := dl_o27 kcX12_simple (by decide +kernel)
theorem dX12_simple_105 : decode cX12_simple 105 = .ok (.iconst 2, 1) := dl_o5 kcX12_simple (by decide +kernel)
theorem dX12_simple_106 : decode cX12_simple 106 = .ok (.aload_n 0, 1) := dl_o42 kcX12_simple (by decide +kernel)
theorem dX12_simple_107 : decode cX12_simple 107 = .ok (.getfield 360, 3) := dl_o180 kcX12_simple (by decide +kernel)
theorem dX12_simple_110 : decode cX12_simple 110 = .ok (.iadd, 1) := dl_o96 kcX12_simple (by decide +kernel)
theorem dX12_simple_111 : decode cX12_simple 111 = .ok (.iadd, 1) := dl_o96 kcX12_simple (by decide +kernel)
theorem dX12_simple_112 : decode cX12_simple 112 = .ok (.istore_n 1, 1) := dl_o60 kcX12_simple (by decide +kernel)
theorem dX12_simple_113 : decode cX12_simple 113 = .ok (.aload_n 0, 1) := dl_o42 kcX12_simple (by decide +kernel)
theorem dX12_simple_114 : decode cX12_simple 114 = .ok (.getfield 360, 3) := dl_o180 kcX12_simple (by decide +kernel)
theorem dX12_simple_117 : decode cX12_simple 117 = .ok (.sipush 400, 3) := dl_o17 kcX12_simple 400 (by decide +kernel) (by decide +kernel)
theorem dX12_simple_120 : decode cX12_simple 120 = .ok (.if_icmp .gt 11, 3) := dl_o163 kcX12_simple 11 (by decide +kernel) (by decide +kernel)
theorem dX12_simple_123 : decode cX12_simple 123 = .ok (.iload_n 1, 1) := dl_o27 kcX12_simple (by decide +kernel)
theorem dX12_simple_124 : decode cX12_simple 124 = .ok (.aload_n 0, 1) := dl_o42 kcX12_simple (by decide +kernel)
theorem dX12_simple_125 : decode cX12_simple 125 = .ok (.getfield 345, 3) := dl_o180 kcX12_simple (by decide +kernel)
theorem dX12_simple_128 : decode cX12_simple 128 = .ok (.if_icmp .le 5, 3) := dl_o164 kcX12_simple 5 (by decide +kernel) (by decide +kernel)
theorem dX12_simple_131 : decode cX12_simple 131 = .ok (.iconst 0, 1) := dl_o3 kcX12_simple (by decide +kernel)
theorem dX12_simple_132 : decode cX12_simple 132 = .ok (.ireturn, 1) := dl_o172 kcX12_simple (by decide +kernel)
theorem dX12_simple_133 : decode cX12_simple 133 = .ok (.iconst 0, 1) := dl_o3 kcX12_simple (by decide +kernel)
theorem dX12_simple_134 : decode cX12_simple 134 = .ok (.istore_n 3, 1) := dl_o62 kcX12_simple (by decide +kernel)
theorem dX12_simple_135 : decode cX12_simple 135 = .ok (.iload_n 3, 1) := dl_o29 kcX12_simple (by decide +kernel)
theorem dX12_simple_136 : decode cX12_simple 136 = .ok (.aload_n 0, 1) := dl_o42 kcX12_simple (by decide +kernel)
theorem dX12_simple_137 : decode cX12_simple 137 = .ok (.getfield 351, 3) := dl_o180 kcX12_simple (by decide +kernel)
theorem dX12_simple_140 : decode cX12_simple 140 = .ok (.if_icmp .ge 99, 3) := dl_o162 kcX12_simple 99 (by decide +kernel) (by decide +kernel)
theorem dX12_simple_143 : decode cX12_simple 143 = .ok (.iload_n 1, 1) := dl_o27 kcX12_simple (by decide +kernel)
theorem dX12_simple_144 : decode cX12_simple 144 = .ok (.aload_n 0, 1) := dl_o42 kcX12_simple (by decide +kernel)
theorem dX12_simple_145 : decode cX12_simple 145 = .ok (.getfield 345, 3) := dl_o180 kcX12_simple (by decide +kernel)
theorem dX12_simple_148 : decode cX12_simple 148 = .ok (.if_icmp .lt 5, 3) := dl_o161 kcX12_simple 5 (by decide +kernel) (by decide +kernel)
theorem dX12_simple_151 : decode cX12_simple 151 = .ok (.iconst 0, 1) := dl_o3 kcX12_simple (by decide +kernel)
theorem dX12_simple_152 : decode cX12_simple 152 = .ok (.ireturn, 1) := dl_o172 kcX12_simple (by decide +kernel)
theorem dX12_simple_153 : decode cX12_simple 153 = .ok (.aload_n 0, 1) := dl_o42 kcX12_simple (by decide +kernel)
theorem dX12_simple_154 : decode cX12_simple 154 = .ok (.iload_n 1, 1) := dl_o27 kcX12_simple (by decide +kernel)
theorem dX12_simple_155 : decode cX12_simple 155 = .ok (.invokevirtual 209, 3) := dl_o182 kcX12_simple (by decide +kernel)
theorem dX12_simple_158 : decode cX12_simple 158 = .ok (.istore 4, 2) := dl_o54 kcX12_simple (by decide +kernel)
theorem dX12_simple_160 : decode cX12_simple 160 = .ok (.iinc 1 1, 3) := by decide +kernel
theorem dX12_simple_163 : decode cX12_simple 163 = .ok (.iconst 0, 1) := dl_o3 kcX12_simple (by decide +kernel)
theorem dX12_simple_164 : decode cX12_simple 164 = .ok (.istore 5, 2) := dl_o54 kcX12_simple (by decide +kernel)
theorem dX12_simple_166 : decode cX12_simple 166 = .ok (.iload 4, 2) := dl_o21 kcX12_simple (by decide +kernel)
theorem dX12_simple_168 : decode cX12_simple 168 = .ok (.bipush 8, 2) := dl_o16 kcX12_simple 8 (by decide +kernel) (by decide +kernel)
theorem dX12_simple_170 : decode cX12_simple 170 = .ok (.iand, 1) := dl_o126 kcX12_simple (by decide +kernel)
theorem dX12_simple_171 : decode cX12_simple 171 = .ok (.ifCond .eq 23, 3) := dl_o153 kcX12_simple 23 (by decide +kernel) (by decide +kernel)
theorem dX12_simple_174 : decode cX12_simple 174 = .ok (.iload_n 1, 1) := dl_o27 kcX12_simple (by decide +kernel)
theorem dX12_simple_175 : decode cX12_simple 175 = .ok (.aload_n 0, 1) := dl_o42 kcX12_simple (by decide +kernel)
theorem dX12_simple_176 : decode cX12_simple 176 = .ok (.getfield 345, 3) := dl_o180 kcX12_simple (by decide +kernel)
theorem dX12_simple_179 : decode cX12_simple 179 = .ok (.if_icmp .lt 5, 3) := dl_o161 kcX12_simple 5 (by decide +kernel) (by decide +kernel)
theorem dX12_simple_182 : decode cX12_simple 182 = .ok (.iconst 0, 1) := dl_o3 kcX12_simple (by decide +kernel)
theorem dX12_simple_183 : decode cX12_simple 183 = .ok (.ireturn, 1) := dl_o172 kcX12_simple (by decide +kernel)
theorem dX12_simple_184 : decode cX12_simple 184 = .ok (.aload_n 0, 1) := dl_o42 kcX12_simple (by decide +kernel)
theorem dX12_simple_185 : decode cX12_simple 185 = .ok (.iload_n 1, 1) := dl_o27 kcX12_simple (by decide +kernel)
theorem dX12_simple_186 : decode cX12_simple 186 = .ok (.invokevirtual 209, 3) := dl_o182 kcX12_simple (by decide +kernel)
theorem dX12_simple_189 : decode cX12_simple 189 = .ok (.istore 5, 2) := dl_o54 kcX12_simple (by decide +kernel)
theorem dX12_simple_191 : decode cX12_simple 191 = .ok (.iinc 1 1, 3) := by decide +kernel
theorem dX12_simple_194 : decode cX12_simple 194 = .ok (.iload_n 3, 1) := dl_o29 kcX12_simple (by decide +kernel)
theorem dX12_simple_195 : decode cX12_simple 195 = .ok (.iconst 1, 1) := dl_o4 kcX12_simple (by decide +kernel)
theorem dX12_simple_196 : decode cX12_simple 196 = .ok (.iadd, 1) := dl_o96 kcX12_simple (by decide +kernel)
theorem dX12_simple_197 : decode cX12_simple 197 = .ok (.iload 5, 2) := dl_o21 kcX12_simple (by decide +kernel)
theorem dX12_simple_199 : decode cX12_simple 199 = .ok (.iadd, 1) := dl_o96 kcX12_simple (by decide +kernel)
theorem dX12_simple_200 : decode cX12_simple 200 = .ok (.aload_n 0, 1) := dl_o42 kcX12_simple (by decide +kernel)
theorem dX12_simple_201 : decode cX12_simple 201 = .ok (.getfield 351, 3) := dl_o180 kcX12_simple (by decide +kernel)
theorem dX12_simple_204 : decode cX12_simple 204 = .ok (.if_icmp .le 5, 3) := dl_o164 kcX12_simple 5 (by decide +kernel) (by decide +kernel)
theorem dX12_simple_207 : decode cX12_simple 207 = .ok (.iconst 0, 1) := dl_o3 kcX12_simple (by decide +kernel)
theorem dX12_simple_208 : decode cX12_simple 208 = .ok (.ireturn, 1) := dl_o172 kcX12_simple (by decide +kernel)
theorem dX12_simple_209 : decode cX12_simple 209 = .ok (.iconst 0, 1) := dl_o3 kcX12_simple (by decide +kernel)
theorem dX12_simple_210 : decode cX12_simple 210 = .ok (.istore 6, 2) := dl_o54 kcX12_simple (by decide +kernel)
theorem dX12_simple_212 : decode cX12_simple 212 = .ok (.iload 6, 2) := dl_o21 kcX12_simple (by decide +kernel)
theorem dX12_simple_214 : decode cX12_simple 214 = .ok (.iload 5, 2) := dl_o21 kcX12_simple (by decide +kernel)
theorem dX12_simple_216 : decode cX12_simple 216 = .ok (.if_icmp .gt 20, 3) := dl_o163 kcX12_simple 20 (by decide +kernel) (by decide +kernel)
theorem dX12_simple_219 : decode cX12_simple 219 = .ok (.aload_n 0, 1) := dl_o42 kcX12_simple (by decide +kernel)
theorem dX12_simple_220 : decode cX12_simple 220 = .ok (.getfield 39, 3) := dl_o180 kcX12_simple (by decide +kernel)
theorem dX12_simple_223 : decode cX12_simple 223 = .ok (.iload_n 3, 1) := dl_o29 kcX12_simple (by decide +kernel)
theorem dX12_simple_224 : decode cX12_simple 224 = .ok (.iload 4, 2) := dl_o21 kcX12_simple (by decide +kernel)
theorem dX12_simple_226 : decode cX12_simple 226 = .ok (.iastore, 1) := dl_o79 kcX12_simple (by decide +kernel)
theorem dX12_simple_227 : decode cX12_simple 227 = .ok (.iinc 3 1, 3) := by decide +kernel
theorem dX12_simple_230 : decode cX12_simple 230 = .ok (.iinc 6 1, 3) := by decide +kernel
theorem dX12_simple_233 : decode cX12_simple 233 = .ok (.goto (-21), 3) := dl_o167 kcX12_simple 65515 (by decide +kernel) (by decide +kernel)
theorem dX12_simple_236 : decode cX12_simple 236 = .ok (.goto (-101), 3) := dl_o167 kcX12_simple 65435 (by decide +kernel) (by decide +kernel)
theorem dX12_simple_239 : decode cX12_simple 239 = .ok (.aload_n 0, 1) := dl_o42 kcX12_simple (by decide +kernel)
theorem dX12_simple_240 : decode cX12_simple 240 = .ok (.iload_n 1, 1) := dl_o27 kcX12_simple (by decide +kernel)
theorem dX12_simple_241 : decode cX12_simple 241 = .ok (.aload_n 0, 1) := dl_o42 kcX12_simple (by decide +kernel)
theorem dX12_simple_242 : decode cX12_simple 242 = .ok (.getfield 33, 3) := dl_o180 kcX12_simple (by decide +kernel)
theorem dX12_simple_245 : decode cX12_simple 245 = .ok (.iconst 2, 1) := dl_o5 kcX12_simple (by decide +kernel)
theorem dX12_simple_246 : decode cX12_simple 246 = .ok (.bipush 16, 2) := dl_o16 kcX12_simple 16 (by decide +kernel) (by decide +kernel)
theorem dX12_simple_248 : decode cX12_simple 248 = .ok (.invokevirtual 373, 3) := dl_o182 kcX12_simple (by decide +kernel)
theorem dX12_simple_251 : decode cX12_simple 251 = .ok (.istore_n 1, 1) := dl_o60 kcX12_simple (by decide +kernel)
theorem dX12_simple_252 : decode cX12_simple 252 = .ok (.iload_n 1, 1) := dl_o27 kcX12_simple (by decide +kernel)
theorem dX12_simple_253 : decode cX12_simple 253 = .ok (.iconst (-1), 1) := dl_o2 kcX12_simple (by decide +kernel)
theorem dX12_simple_254 : decode cX12_simple 254 = .ok (.if_icmp .ne 7, 3) := dl_o160 kcX12_simple 7 (by decide +kernel) (by decide +kernel)
theorem dX12_simple_257 : decode cX12_simple 257 = .ok (.iconst (-1), 1) := dl_o2 kcX12_simple (by decide +kernel)
theorem dX12_simple_258 : decode cX12_simple 258 = .ok (.goto 15, 3) := dl_o167 kcX12_simple 15 (by decide +kernel) (by decide +kernel)
theorem dX12_simple_261 : decode cX12_simple 261 = .ok (.aload_n 0, 1) := dl_o42 kcX12_simple (by decide +kernel)
theorem dX12_simple_262 : decode cX12_simple 262 = .ok (.iload_n 1, 1) := dl_o27 kcX12_simple (by decide +kernel)
theorem dX12_simple_263 : decode cX12_simple 263 = .ok (.aload_n 0, 1) := dl_o42 kcX12_simple (by decide +kernel)
theorem dX12_simple_264 : decode cX12_simple 264 = .ok (.getfield 36, 3) := dl_o180 kcX12_simple (by decide +kernel)
theorem dX12_simple_267 : decode cX12_simple 267 = .ok (.iconst 4, 1) := dl_o7 kcX12_simple (by decide +kernel)
theorem dX12_simple_268 : decode cX12_simple 268 = .ok (.bipush 32, 2) := dl_o16 kcX12_simple 32 (by decide +kernel) (by decide +kernel)
theorem dX12_simple_270 : decode cX12_simple 270 = .ok (.invokevirtual 373, 3) := dl_o182 kcX12_simple (by decide +kernel)
theorem dX12_simple_273 : decode cX12_simple 273 = .ok (.istore_n 1, 1) := dl_o60 kcX12_simple (by decide +kernel)
theorem dX12_simple_274 : decode cX12_simple 274 = .ok (.iload_n 1, 1) := dl_o27 kcX12_simple (by decide +kernel)
theorem dX12_simple_275 : decode cX12_simple 275 = .ok (.iconst (-1), 1) := dl_o2 kcX12_simple (by decide +kernel)
theorem dX12_simple_276 : decode cX12_simple 276 = .ok (.if_icmp .eq 7, 3) := dl_o159 kcX12_simple 7 (by decide +kernel) (by decide +kernel)
theorem dX12_simple_279 : decode cX12_simple 279 = .ok (.iconst 1, 1) := dl_o4 kcX12_simple (by decide +kernel)
theorem dX12_simple_280 : decode cX12_simple 280 = .ok (.goto 4, 3) := dl_o167 kcX12_simple 4 (by decide +kernel) (by decide +kernel)
theorem dX12_simple_283 : decode cX12_simple 283 = .ok (.iconst 0, 1) := dl_o3 kcX12_simple (by decide +kernel)
theorem dX12_simple_284 : decode cX12_simple 284 = .ok (.ireturn, 1) := dl_o172 kcX12_simple (by decide +kernel)
def B_X12_simple_212 (N : Nat) (k135 : Int32 → Int32 → sv_V → Option (Int32 × sv_V)) (k212 : Int32 → Int32 → Int32 → Int32 → Int32 → sv_V → Option (Int32 × sv_V)) (l1 : Int32) (l3 : Int32) (l4 : Int32) (l5 : Int32) (l6 : Int32) (V : sv_V) : Option (Int32 × sv_V) := if l5 < l6 then (k135 l1 l3 V) else (if sx_in l3 100 = true then sx_let (sv_I V 156 l3.toNatClampNeg l4) (fun V3 => sx_let (l3 + 1) (fun x4 => sx_let (l6 + 1) (fun x5 => k212 l1 x4 l4 l5 x5 V3))) else none)
set_option maxRecDepth 20000 in
theorem tB_X12_simple_212 {g : sx_G} (hG : sx_Go g) {P : Option Value → sv_V → Prop} {r : Int32} {Vr : sv_V} (hP : P (some (.int r)) Vr) {N : Nat} {k135 : Int32 → Int32 → sv_V → Option (Int32 × sv_V)} {k212 : Int32 → Int32 → Int32 → Int32 → Int32 → sv_V → Option (Int32 × sv_V)} (hk135 : ∀ (l1 : Int32) (l3 : Int32) (V : sv_V), k135 l1 l3 V = some (r, Vr) → sv_N g qX12_simple 4 135 [(0, .ref 146), (1, .int l1), (3, .int l3)] [] V P) (hk212 : ∀ (l1 : Int32) (l3 : Int32) (l4 : Int32) (l5 : Int32) (l6 : Int32) (V : sv_V), k212 l1 l3 l4 l5 l6 V = some (r, Vr) → sv_N g qX12_simple 4 212 [(0, .ref 146), (1, .int l1), (3, .int l3), (4, .int l4), (5, .int l5), (6, .int l6)] [] V P) {l1 : Int32} {l3 : Int32} {l4 : Int32} {l5 : Int32} {l6 : Int32} {V : sv_V} (h : B_X12_simple_212 N k135 k212 l1 l3 l4 l5 l6 V = some (r, Vr)) : sv_N g qX12_simple 4 212 [(0, .ref 146), (1, .int l1), (3, .int l3), (4, .int l4), (5, .int l5), (6, .int l6)] [] V P := by
  unfold B_X12_simple_212 at h
  refine sx_iload (pc := 212) dX12_simple_212 sx_m5 ?_
  refine sx_iload (pc := 214) dX12_simple_214 sx_m4 ?_
  refine sx_icmp_gt (pc := 216) (tgt := 236) dX12_simple_216 (by decide) (fun c1 => ?_) (fun c1 => ?_)
  · have h := sx_pos c1 h
    refine sx_goto (pc := 236) (tgt := 135) dX12_simple_236 (by decide) ?_
    refine sx_wk (sx_s1 sx_m0 (sx_s1 sx_m1 (sx_s1 sx_m2 sx_s0))) ?_
    exact hk135 _ _ _ h
  · have h := sx_neg c1 h
    refine sx_aload_n (pc := 219) dX12_simple_219 sx_m0 ?_
    refine sv_getA (pc := 220) hG dX12_simple_220 f_12_39 lay_146 rfl cr_146_36 ?_
    refine sx_iload_n (pc := 223) dX12_simple_223 sx_m2 ?_
    refine sx_iload (pc := 224) dX12_simple_224 sx_m3 ?_
    obtain ⟨g2, h⟩ := sx_grd h
    obtain ⟨V3, hV3⟩ : ∃ z : sv_V, z = sv_I V 156 l3.toNatClampNeg l4 := ⟨_, rfl⟩
    have h := sx_letE hV3 h
    refine sv_iast (pc := 226) hG dX12_simple_226 lay_156 g2 hV3 ?_
    obtain ⟨x4, hx4⟩ : ∃ z : Int32, z = l3 + 1 := ⟨_, rfl⟩
    have h := sx_letE hx4 h
    refine sx_iinc (pc := 227) (v := x4) (lo' := [(3, .int x4), (0, .ref 146), (1, .int l1), (4, .int l4), (5, .int l5), (6, .int l6)]) dX12_simple_227 sx_m2 (by rw [hx4]; rfl) (by decide) rfl ?_
    obtain ⟨x5, hx5⟩ : ∃ z : Int32, z = l6 + 1 := ⟨_, rfl⟩
    have h := sx_letE hx5 h
    refine sx_iinc (pc := 230) (v := x5) (lo' := [(6, .int x5), (3, .int x4), (0, .ref 146), (1, .int l1), (4, .int l4), (5, .int l5)]) dX12_simple_230 sx_m5 (by rw [hx5]; rfl) (by decide) rfl ?_
    refine sx_goto (pc := 233) (tgt := 212) dX12_simple_233 (by decide) ?_
    refine sx_wk (sx_s1 sx_m2 (sx_s1 sx_m3 (sx_s1 sx_m1 (sx_s1 sx_m4 (sx_s1 sx_m5 (sx_s1 sx_m0 sx_s0)))))) ?_
    exact hk212 _ _ _ _ _ _ h
theorem tL_X12_simple_212 {g : sx_G} (hG : sx_Go g) {P : Option Value → sv_V → Prop} {r : Int32} {Vr : sv_V} (hP : P (some (.int r)) Vr) {N : Nat} {k135 : Int32 → Int32 → sv_V → Option (Int32 × sv_V)} (hk135 : ∀ (l1 : Int32) (l3 : Int32) (V : sv_V), k135 l1 l3 V = some (r, Vr) → sv_N g qX12_simple 4 135 [(0, .ref 146), (1, .int l1), (3, .int l3)] [] V P) : ∀ (n : Nat) (l1 : Int32) (l3 : Int32) (l4 : Int32) (l5 : Int32) (l6 : Int32) (V : sv_V), sx_lp6 (B_X12_simple_212 N k135) n l1 l3 l4 l5 l6 V = some (r, Vr) → sv_N g qX12_simple 4 212 [(0, .ref 146), (1, .int l1), (3, .int l3), (4, .int l4), (5, .int l5), (6, .int l6)] [] V P :=
  sx_lp6_ind (fun k0 ih _ _ _ _ _ V h => tB_X12_simple_212 hG hP hk135 ih h)
def B_X12_simple_194 (N : Nat) (k135 : Int32 → Int32 → sv_V → Option (Int32 × sv_V)) (l1 : Int32) (l3 : Int32) (l4 : Int32) (l5 : Int32) (V : sv_V) : Option (Int32 × sv_V) := if ((l3 + (1 : Int32)) + l5) ≤ (V.1 146 29) then (sx_lp6 (B_X12_simple_212 N k135) N l1 l3 l4 l5 (0 : Int32) V) else (some ((0 : Int32), V))
set_option maxRecDepth 20000 in
theorem tB_X12_simple_194 {g : sx_G} (hG : sx_Go g) {P : Option Value → sv_V → Prop} {r : Int32} {Vr : sv_V} (hP : P (some (.int r)) Vr) {N : Nat} {k135 : Int32 → Int32 → sv_V → Option (Int32 × sv_V)} (hk135 : ∀ (l1 : Int32) (l3 : Int32) (V : sv_V), k135 l1 l3 V = some (r, Vr) → sv_N g qX12_simple 4 135 [(0, .ref 146), (1, .int l1), (3, .int l3)] [] V P) {l1 : Int32} {l3 : Int32} {l4 : Int32} {l5 : Int32} {V : sv_V} (h : B_X12_simple_194 N k135 l1 l3 l4 l5 V = some (r, Vr)) : sv_N g qX12_simple 4 194 [(0, .ref 146), (1, .int l1), (3, .int l3), (4, .int l4), (5, .int l5)] [] V P := by
  unfold B_X12_simple_194 at h
  refine sx_iload_n (pc := 194) dX12_simple_194 sx_m2 ?_
  refine sx_iconst (pc := 195) (v := 1) dX12_simple_195 (by decide) ?_
  refine sx_iadd (pc := 196) dX12_simple_196 ?_
  refine sx_iload (pc := 197) dX12_simple_197 sx_m4 ?_
  refine sx_iadd (pc := 199) dX12_simple_199 ?_
  refine sx_aload_n (pc := 200) dX12_simple_200 sx_m0 ?_
  refine sv_getI (pc := 201) hG dX12_simple_201 f_12_351 lay_146 rfl ?_
  refine sx_icmp_le (pc := 204) (tgt := 209) dX12_simple_204 (by decide) (fun c6 => ?_) (fun c6 => ?_)
  · have h := sx_pos c6 h
    refine sx_iconst (pc := 209) (v := 0) dX12_simple_209 (by decide) ?_
    refine sx_istore (pc := 210) (lo' := [(6, .int (0 : Int32)), (0, .ref 146), (1, .int l1), (3, .int l3), (4, .int l4), (5, .int l5)]) dX12_simple_210 (by decide) rfl ?_
    refine sx_wk (sx_s1 sx_m1 (sx_s1 sx_m2 (sx_s1 sx_m3 (sx_s1 sx_m4 (sx_s1 sx_m5 (sx_s1 sx_m0 sx_s0)))))) ?_
    exact tL_X12_simple_212 hG hP hk135 N _ _ _ _ _ _ h
  · have h := sx_neg c6 h
    refine sx_iconst (pc := 207) (v := 0) dX12_simple_207 (by decide) ?_
    exact sv_zret (pc := 208) dX12_simple_208 rfl rfl h hP
def B_X12_simple_273 (N : Nat)  (s0 : Int32) (V : sv_V) : Option (Int32 × sv_V) := if s0 = (-1 : Int32) then (some ((0 : Int32), V)) else (some ((1 : Int32), V))
set_option maxRecDepth 20000 in
theorem tB_X12_simple_273 {g : sx_G} (hG : sx_Go g) {P : Option Value → sv_V → Prop} {r : Int32} {Vr : sv_V} (hP : P (some (.int r)) Vr) {N : Nat}   {s0 : Int32} {V : sv_V} (h : B_X12_simple_273 N  s0 V = some (r, Vr)) : sv_N g qX12_simple 4 273 [] [.int s0] V P := by
  unfold B_X12_simple_273 at h
  refine sx_istore_n (pc := 273) (lo' := [(1, .int s0)]) dX12_simple_273 (by decide) rfl ?_
  refine sx_iload_n (pc := 274) dX12_simple_274 sx_m0 ?_
  refine sx_iconst (pc := 275) (v := (-1)) dX12_simple_275 (by decide) ?_
  refine sx_icmp_eq (pc := 276) (tgt := 283) dX12_simple_276 (by decide) (fun c7 => ?_) (fun c7 => ?_)
  · have h := sx_pos c7 h
    refine sx_iconst (pc := 283) (v := 0) dX12_simple_283 (by decide) ?_
    exact sv_zret (pc := 284) dX12_simple_284 rfl rfl h hP
  · have h := sx_neg c7 h
    refine sx_iconst (pc := 279) (v := 1) dX12_simple_279 (by decide) ?_
    refine sx_goto (pc := 280) (tgt := 284) dX12_simple_280 (by decide) ?_
    exact sv_zret (pc := 284) dX12_simple_284 rfl rfl h hP
def B_X12_simple_135 (N : Nat) (k135 : Int32 → Int32 → sv_V → Option (Int32 × sv_V)) (l1 : Int32) (l3 : Int32) (V : sv_V) : Option (Int32 × sv_V) := if (V.1 146 29) ≤ l3 then ((F_X12_coordinates N l1 154 (2 : Int32) (16 : Int32) V).bind (fun (x11, V9) => if x11 = (-1 : Int32) then (B_X12_simple_273 N  (-1 : Int32) V9) else ((F_X12_coordinates N x11 155 (4 : Int32) (32 : Int32) V9).bind (fun (x15, V13) => B_X12_simple_273 N  x15 V13)))) else (if l1 < (V.1 146 27) then ((F_X12_u1 l1 V).bind (fun (x19, V17) => sx_let (l1 + 1) (fun x20 => if (x19 &&& (8 : Int32)) = 0 then (B_X12_simple_194 N k135 x20 l3 x19 (0 : Int32) V17) else (if x20 < (V17.1 146 27) then ((F_X12_u1 x20 V17).bind (fun (x25, V23) => sx_let (x20 + 1) (fun x26 => B_X12_simple_194 N k135 x26 l3 x19 x25 V23))) else (some ((0 : Int32), V17)))))) else (some ((0 : Int32), V)))
set_option maxRecDepth 20000 in
theorem tB_X12_simple_135 {g : sx_G} (hG : sx_Go g) {P : Option Value → sv_V → Prop} {r : Int32} {Vr : sv_V} (hP : P (some (.int r)) Vr) {N : Nat} {k135 : Int32 → Int32 → sv_V → Option (Int32 × sv_V)} (hk135 : ∀ (l1 : Int32) (l3 : Int32) (V : sv_V), k135 l1 l3 V = some (r, Vr) → sv_N g qX12_simple 4 135 [(0, .ref 146), (1, .int l1), (3, .int l3)] [] V P) {l1 : Int32} {l3 : Int32} {V : sv_V} (h : B_X12_simple_135 N k135 l1 l3 V = some (r, Vr)) : sv_N g qX12_simple 4 135 [(0, .ref 146), (1, .int l1), (3, .int l3)] [] V P := by
  unfold B_X12_simple_135 at h
  refine sx_iload_n (pc := 135) dX12_simple_135 sx_m2 ?_
  refine sx_aload_n (pc := 136) dX12_simple_136 sx_m0 ?_
  refine sv_getI (pc := 137) hG dX12_simple_137 f_12_351 lay_146 rfl ?_
  refine sx_icmp_ge (pc := 140) (tgt := 239) dX12_simple_140 (by decide) (fun c8 => ?_) (fun c8 => ?_)
  · have h := sx_pos c8 h
    refine sx_aload_n (pc := 239) dX12_simple_239 sx_m0 ?_
    refine sx_iload_n (pc := 240) dX12_simple_240 sx_m1 ?_
    refine sx_aload_n (pc := 241) dX12_simple_241 sx_m0 ?_
    refine sv_getA (pc := 242) hG dX12_simple_242 f_12_33 lay_146 rfl cr_146_34 ?_
    refine sx_iconst (pc := 245) (v := 2) dX12_simple_245 (by decide) ?_
    refine sx_bipush (pc := 246) (v := 16) dX12_simple_246 (by decide) ?_
    obtain ⟨⟨x11, V9⟩, g10, h⟩ := sx_bnd h
    refine sv_cV (pc := 248) (y := qX12_coordinates) (o := (some (.int x11))) (as := [.int l1, .ref 154, .int (2 : Int32), .int (16 : Int32)]) (V1 := V9) hG dX12_simple_248 l_X12_373 y0X12_coordinates yvX12_coordinates rfl (Nat.le_of_ble_eq_true rfl) lay_146 kr_12 (by decide) (Nat.le_of_ble_eq_true rfl) rfl rfl rfl (t_X12_coordinates hG ⟨rfl, rfl⟩ g10) ?_
    refine sx_istore_n (pc := 251) (lo' := [(1, .int x11), (0, .ref 146), (3, .int l3)]) dX12_simple_251 (by decide) rfl ?_
    refine sx_iload_n (pc := 252) dX12_simple_252 sx_m0 ?_
    refine sx_iconst (pc := 253) (v := (-1)) dX12_simple_253 (by decide) ?_
    refine sx_icmp_ne (pc := 254) (tgt := 261) dX12_simple_254 (by decide) (fun c12 => ?_) (fun c12 => ?_)
    · have h := sx_neg c12 h
      refine sx_aload_n (pc := 261) dX12_simple_261 sx_m1 ?_
      refine sx_iload_n (pc := 262) dX12_simple_262 sx_m0 ?_
      refine sx_aload_n (pc := 263) dX12_simple_263 sx_m1 ?_
      refine sv_getA (pc := 264) hG dX12_simple_264 f_12_36 lay_146 rfl cr_146_35 ?_
      refine sx_iconst (pc := 267) (v := 4) dX12_simple_267 (by decide) ?_
      refine sx_bipush (pc := 268) (v := 32) dX12_simple_268 (by decide) ?_
      obtain ⟨⟨x15, V13⟩, g14, h⟩ := sx_bnd h
      refine sv_cV (pc := 270) (y := qX12_coordinates) (o := (some (.int x15))) (as := [.int x11, .ref 155, .int (4 : Int32), .int (32 : Int32)]) (V1 := V13) hG dX12_simple_270 l_X12_373 y0X12_coordinates yvX12_coordinates rfl (Nat.le_of_ble_eq_true rfl) lay_146 kr_12 (by decide) (Nat.le_of_ble_eq_true rfl) rfl rfl rfl (t_X12_coordinates hG ⟨rfl, rfl⟩ g14) ?_
      refine sx_wk sx_s0 ?_
      exact tB_X12_simple_273 hG hP  h
    · have h := sx_pos c12 h
      refine sx_iconst (pc := 257) (v := (-1)) dX12_simple_257 (by decide) ?_
      refine sx_goto (pc := 258) (tgt := 273) dX12_simple_258 (by decide) ?_
      refine sx_wk sx_s0 ?_
      exact tB_X12_simple_273 hG hP  h
  · have h := sx_neg c8 h
    refine sx_iload_n (pc := 143) dX12_simple_143 sx_m1 ?_
    refine sx_aload_n (pc := 144) dX12_simple_144 sx_m0 ?_
    refine sv_getI (pc := 145) hG dX12_simple_145 f_12_345 lay_146 rfl ?_
    refine sx_icmp_lt (pc := 148) (tgt := 153) dX12_simple_148 (by decide) (fun c16 => ?_) (fun c16 => ?_)
    · have h := sx_pos c16 h
      refine sx_aload_n (pc := 153) dX12_simple_153 sx_m0 ?_
      refine sx_iload_n (pc := 154) dX12_simple_154 sx_m1 ?_
      obtain ⟨⟨x19, V17⟩, g18, h⟩ := sx_bnd h
      refine sv_cV (pc := 155) (y := qX12_u1) (o := (some (.int x19))) (as := [.int l1]) (V1 := V17) hG dX12_simple_155 l_X12_209 y0X12_u1 yvX12_u1 rfl (Nat.le_of_ble_eq_true rfl) lay_146 kr_12 (by decide) (Nat.le_of_ble_eq_true rfl) rfl rfl rfl (t_X12_u1 hG ⟨rfl, rfl⟩ g18) ?_
      refine sx_istore (pc := 158) (lo' := [(4, .int x19), (0, .ref 146), (1, .int l1), (3, .int l3)]) dX12_simple_158 (by decide) rfl ?_
      obtain ⟨x20, hx20⟩ : ∃ z : Int32, z = l1 + 1 := ⟨_, rfl⟩
      have h := sx_letE hx20 h
      refine sx_iinc (pc := 160) (v := x20) (lo' := [(1, .int x20), (4, .int x19), (0, .ref 146), (3, .int l3)]) dX12_simple_160 sx_m2 (by rw [hx20]; rfl) (by decide) rfl ?_
      refine sx_iconst (pc := 163) (v := 0) dX12_simple_163 (by decide) ?_
      refine sx_istore (pc := 164) (lo' := [(5, .int (0 : Int32)), (1, .int x20), (4, .int x19), (0, .ref 146), (3, .int l3)]) dX12_simple_164 (by decide) rfl ?_
      refine sx_iload (pc := 166) dX12_simple_166 sx_m2 ?_
      refine sx_bipush (pc := 168) (v := 8) dX12_simple_168 (by decide) ?_
      refine sx_iand (pc := 170) dX12_simple_170 ?_
      refine sx_if_eq (pc := 171) (tgt := 194) dX12_simple_171 (by decide) (fun c21 => ?_) (fun c21 => ?_)
      · have h := sx_pos c21 h
        refine sx_wk (sx_s1 sx_m3 (sx_s1 sx_m1 (sx_s1 sx_m4 (sx_s1 sx_m2 (sx_s1 sx_m0 sx_s0))))) ?_
        exact tB_X12_simple_194 hG hP hk135 h
      · have h := sx_neg c21 h
        refine sx_iload_n (pc := 174) dX12_simple_174 sx_m1 ?_
        refine sx_aload_n (pc := 175) dX12_simple_175 sx_m3 ?_
        refine sv_getI (pc := 176) hG dX12_simple_176 f_12_345 lay_146 rfl ?_
        refine sx_icmp_lt (pc := 179) (tgt := 184) dX12_simple_179 (by decide) (fun c22 => ?_) (fun c22 => ?_)
        · have h := sx_pos c22 h
          refine sx_aload_n (pc := 184) dX12_simple_184 sx_m3 ?_
          refine sx_iload_n (pc := 185) dX12_simple_185 sx_m1 ?_
          obtain ⟨⟨x25, V23⟩, g24, h⟩ := sx_bnd h
          refine sv_cV (pc := 186) (y := qX12_u1) (o := (some (.int x25))) (as := [.int x20]) (V1 := V23) hG dX12_simple_186 l_X12_209 y0X12_u1 yvX12_u1 rfl (Nat.le_of_ble_eq_true rfl) lay_146 kr_12 (by decide) (Nat.le_of_ble_eq_true rfl) rfl rfl rfl (t_X12_u1 hG ⟨rfl, rfl⟩ g24) ?_
          refine sx_istore (pc := 189) (lo' := [(5, .int x25), (1, .int x20), (4, .int x19), (0, .ref 146), (3, .int l3)]) dX12_simple_189 (by decide) rfl ?_
          obtain ⟨x26, hx26⟩ : ∃ z : Int32, z = x20 + 1 := ⟨_, rfl⟩
          have h := sx_letE hx26 h
          refine sx_iinc (pc := 191) (v := x26) (lo' := [(1, .int x26), (5, .int x25), (4, .int x19), (0, .ref 146), (3, .int l3)]) dX12_simple_191 sx_m1 (by rw [hx26]; rfl) (by decide) rfl ?_
          refine sx_wk (sx_s1 sx_m3 (sx_s1 sx_m0 (sx_s1 sx_m4 (sx_s1 sx_m2 (sx_s1 sx_m1 sx_s0))))) ?_
          exact tB_X12_simple_194 hG hP hk135 h
        · have h := sx_neg c22 h
          refine sx_iconst (pc := 182) (v := 0) dX12_simple_182 (by decide) ?_
          exact sv_zret (pc := 183) dX12_simple_183 rfl rfl h hP
    · have h := sx_neg c16 h
      refine sx_iconst (pc := 151) (v := 0) dX12_simple_151 (by decide) ?_
      exact sv_zret (pc := 152) dX12_simple_152 rfl rfl h hP
theorem tL_X12_simple_135 {g : sx_G} (hG : sx_Go g) {P : Option Value → sv_V → Prop} {r : Int32} {Vr : sv_V} (hP : P (some (.int r)) Vr) {N : Nat}   : ∀ (n : Nat) (l1 : Int32) (l3 : Int32) (V : sv_V), sx_lp3 (B_X12_simple_135 N ) n l1 l3 V = some (r, Vr) → sv_N g qX12_simple 4 135 [(0, .ref 146), (1, .int l1), (3, .int l3)] [] V P :=
  sx_lp3_ind (fun k0 ih _ _ V h => tB_X12_simple_135 hG hP ih h)
def B_X12_simple_31 (N : Nat) (k31 : Int32 → Int32 → Int32 → sv_V → Option (Int32 × sv_V)) (l1 : Int32) (l2 : Int32) (l3 : Int32) (V : sv_V) : Option (Int32 × sv_V) := if (V.1 146 28) ≤ l3 then (sx_let (sv_I V 146 29 (l2 + (1 : Int32))) (fun V28 => (F_X12_u2 l1 V28).bind (fun (x31, V29) => sx_let (sv_I V29 146 32 x31) (fun V32 => sx_let (sv_I V32 146 31 (l1 + (2 : Int32))) (fun V33 => sx_let (l1 + ((2 : Int32) + (V33.1 146 32))) (fun x34 => if (400 : Int32) < (V33.1 146 32) then (some ((0 : Int32), V33)) else (if x34 ≤ (V33.1 146 27) then (sx_lp3 (B_X12_simple_135 N ) N x34 (0 : Int32) V33) else (some ((0 : Int32), V33))))))))) else ((F_X12_u2 l1 V).bind (fun (x39, V37) => if x39 ≤ l2 then (some ((0 : Int32), V37)) else (if x39 < (100 : Int32) then (if sx_in l3 12 = true then sx_let (sv_I V37 153 l3.toNatClampNeg x39) (fun V43 => sx_let (l1 + 2) (fun x44 => sx_let (l3 + 1) (fun x45 => k31 x44 x39 x45 V43))) else none) else (some ((0 : Int32), V37)))))
set_option maxRecDepth 20000 in
theorem tB_X12_simple_31 {g : sx_G} (hG : sx_Go g) {P : Option Value → sv_V → Prop} {r : Int32} {Vr : sv_V} (hP : P (some (.int r)) Vr) {N : Nat} {k31 : Int32 → Int32 → Int32 → sv_V → Option (Int32 × sv_V)} (hk31 : ∀ (l1 : Int32) (l2 : Int32) (l3 : Int32) (V : sv_V), k31 l1 l2 l3 V = some (r, Vr) → sv_N g qX12_simple 4 31 [(0, .ref 146), (1, .int l1), (2, .int l2), (3, .int l3)] [] V P) {l1 : Int32} {l2 : Int32} {l3 : Int32} {V : sv_V} (h : B_X12_simple_31 N k31 l1 l2 l3 V = some (r, Vr)) : sv_N g qX12_simple 4 31 [(0, .ref 146), (1, .int l1), (2, .int l2), (3, .int l3)] [] V P := by
  unfold B_X12_simple_31 at h
  refine sx_iload_n (pc := 31) dX12_simple_31 sx_m3 ?_
  refine sx_aload_n (pc := 32) dX12_simple_32 sx_m0 ?_
  refine sv_getI (pc := 33) hG dX12_simple_33 f_12_348 lay_146 rfl ?_
  refine sx_icmp_ge (pc := 36) (tgt := 81) dX12_simple_36 (by decide) (fun c27 => ?_) (fun c27 => ?_)
  · have h := sx_pos c27 h
    refine sx_aload_n (pc := 81) dX12_simple_81 sx_m0 ?_
    refine sx_iload_n (pc := 82) dX12_simple_82 sx_m2 ?_
    refine sx_iconst (pc := 83) (v := 1) dX12_simple_83 (by decide) ?_
    refine sx_iadd (pc := 84) dX12_simple_84 ?_
    obtain ⟨V28, hV28⟩ : ∃ z : sv_V, z = sv_I V 146 29 (l2 + (1 : Int32)) := ⟨_, rfl⟩
    have h := sx_letE hV28 h
    refine sv_putI (pc := 85) hG dX12_simple_85 f_12_351 lay_146 rfl hV28 ?_
    refine sx_aload_n (pc := 88) dX12_simple_88 sx_m0 ?_
    refine sx_aload_n (pc := 89) dX12_simple_89 sx_m0 ?_
    refine sx_iload_n (pc := 90) dX12_simple_90 sx_m1 ?_
    obtain ⟨⟨x31, V29⟩, g30, h⟩ := sx_bnd h
    refine sv_cV (pc := 91) (y := qX12_u2) (o := (some (.int x31))) (as := [.int l1]) (V1 := V29) hG dX12_simple_91 l_X12_213 y0X12_u2 yvX12_u2 rfl (Nat.le_of_ble_eq_true rfl) lay_146 kr_12 (by decide) (Nat.le_of_ble_eq_true rfl) rfl rfl rfl (t_X12_u2 hG ⟨rfl, rfl⟩ g30) ?_
    obtain ⟨V32, hV32⟩ : ∃ z : sv_V, z = sv_I V29 146 32 x31 := ⟨_, rfl⟩
    have h := sx_letE hV32 h
    refine sv_putI (pc := 94) hG dX12_simple_94 f_12_360 lay_146 rfl hV32 ?_
    refine sx_aload_n (pc := 97) dX12_simple_97 sx_m0 ?_
    refine sx_iload_n (pc := 98) dX12_simple_98 sx_m1 ?_
    refine sx_iconst (pc := 99) (v := 2) dX12_simple_99 (by decide) ?_
    refine sx_iadd (pc := 100) dX12_simple_100 ?_
    obtain ⟨V33, hV33⟩ : ∃ z : sv_V, z = sv_I V32 146 31 (l1 + (2 : Int32)) := ⟨_, rfl⟩
    have h := sx_letE hV33 h
    refine sv_putI (pc := 101) hG dX12_simple_101 f_12_357 lay_146 rfl hV33 ?_
    refine sx_iload_n (pc := 104) dX12_simple_104 sx_m1 ?_
    refine sx_iconst (pc := 105) (v := 2) dX12_simple_105 (by decide) ?_
    refine sx_aload_n (pc := 106) dX12_simple_106 sx_m0 ?_
    refine sv_getI (pc := 107) hG dX12_simple_107 f_12_360 lay_146 rfl ?_
    refine sx_iadd (pc := 110) dX12_simple_110 ?_
    refine sx_iadd (pc := 111) dX12_simple_111 ?_
    refine sv_tI (fun x34 hx34 => ?_)
    have h := sx_letE hx34 h
    refine sx_istore_n (pc := 112) (lo' := [(1, .int x34), (0, .ref 146), (2, .int l2), (3, .int l3)]) dX12_simple_112 (by decide) rfl ?_
    refine sx_aload_n (pc := 113) dX12_simple_113 sx_m1 ?_
    refine sv_getI (pc := 114) hG dX12_simple_114 f_12_360 lay_146 rfl ?_
    refine sx_sipush (pc := 117) (v := 400) dX12_simple_117 (by decide) ?_
    refine sx_icmp_gt (pc := 120) (tgt := 131) dX12_simple_120 (by decide) (fun c35 => ?_) (fun c35 => ?_)
    · have h := sx_pos c35 h
      refine sx_iconst (pc := 131) (v := 0) dX12_simple_131 (by decide) ?_
      exact sv_zret (pc := 132) dX12_simple_132 rfl rfl h hP
    · have h := sx_neg c35 h
      refine sx_iload_n (pc := 123) dX12_simple_123 sx_m0 ?_
      refine sx_aload_n (pc := 124) dX12_simple_124 sx_m1 ?_
      refine sv_getI (pc := 125) hG dX12_simple_125 f_12_345 lay_146 rfl ?_
      refine sx_icmp_le (pc := 128) (tgt := 133) dX12_simple_128 (by decide) (fun c36 => ?_) (fun c36 => ?_)
      · have h := sx_pos c36 h
        refine sx_iconst (pc := 133) (v := 0) dX12_simple_133 (by decide) ?_
        refine sx_istore_n (pc := 134) (lo' := [(3, .int (0 : Int32)), (1, .int x34), (0, .ref 146), (2, .int l2)]) dX12_simple_134 (by decide) rfl ?_
        refine sx_wk (sx_s1 sx_m2 (sx_s1 sx_m1 (sx_s1 sx_m0 sx_s0))) ?_
        exact tL_X12_simple_135 hG hP  N _ _ _ h
      · have h := sx_neg c36 h
        refine sx_iconst (pc := 131) (v := 0) dX12_simple_131 (by decide) ?_
        exact sv_zret (pc := 132) dX12_simple_132 rfl rfl h hP
  · have h := sx_neg c27 h
    refine sx_aload_n (pc := 39) dX12_simple_39 sx_m0 ?_
    refine sx_iload_n (pc := 40) dX12_simple_40 sx_m1 ?_
    obtain ⟨⟨x39, V37⟩, g38, h⟩ := sx_bnd h
    refine sv_cV (pc := 41) (y := qX12_u2) (o := (some (.int x39))) (as := [.int l1]) (V1 := V37) hG dX12_simple_41 l_X12_213 y0X12_u2 yvX12_u2 rfl (Nat.le_of_ble_eq_true rfl) lay_146 kr_12 (by decide) (Nat.le_of_ble_eq_true rfl) rfl rfl rfl (t_X12_u2 hG ⟨rfl, rfl⟩ g38) ?_
    refine sx_istore (pc := 44) (lo' := [(4, .int x39), (0, .ref 146), (1, .int l1), (2, .int l2), (3, .int l3)]) dX12_simple_44 (by decide) rfl ?_
    refine sx_iload (pc := 46) dX12_simple_46 sx_m0 ?_
    refine sx_iload_n (pc := 48) dX12_simple_48 sx_m3 ?_
    refine sx_icmp_le (pc := 49) (tgt := 59) dX12_simple_49 (by decide) (fun c40 => ?_) (fun c40 => ?_)
    · have h := sx_pos c40 h
      refine sx_iconst (pc := 59) (v := 0) dX12_simple_59 (by decide) ?_
      exact sv_zret (pc := 60) dX12_simple_60 rfl rfl h hP
    · have h := sx_neg c40 h
      refine sx_iload (pc := 52) dX12_simple_52 sx_m0 ?_
      refine sx_bipush (pc := 54) (v := 100) dX12_simple_54 (by decide) ?_
      refine sx_icmp_lt (pc := 56) (tgt := 61) dX12_simple_56 (by decide) (fun c41 => ?_) (fun c41 => ?_)
      · have h := sx_pos c41 h
        refine sx_aload_n (pc := 61) dX12_simple_61 sx_m1 ?_
        refine sv_getA (pc := 62) hG dX12_simple_62 f_12_30 lay_146 rfl cr_146_33 ?_
        refine sx_iload_n (pc := 65) dX12_simple_65 sx_m4 ?_
        refine sx_iload (pc := 66) dX12_simple_66 sx_m0 ?_
        obtain ⟨g42, h⟩ := sx_grd h
        obtain ⟨V43, hV43⟩ : ∃ z : sv_V, z = sv_I V37 153 l3.toNatClampNeg x39 := ⟨_, rfl⟩
        have h := sx_letE hV43 h
        refine sv_iast (pc := 68) hG dX12_simple_68 lay_153 g42 hV43 ?_
        refine sx_iload (pc := 69) dX12_simple_69 sx_m0 ?_
        refine sx_istore_n (pc := 71) (lo' := [(2, .int x39), (4, .int x39), (0, .ref 146), (1, .int l1), (3, .int l3)]) dX12_simple_71 (by decide) rfl ?_
        obtain ⟨x44, hx44⟩ : ∃ z : Int32, z = l1 + 2 := ⟨_, rfl⟩
        have h := sx_letE hx44 h
        refine sx_iinc (pc := 72) (v := x44) (lo' := [(1, .int x44), (2, .int x39), (4, .int x39), (0, .ref 146), (3, .int l3)]) dX12_simple_72 sx_m3 (by rw [hx44]; rfl) (by decide) rfl ?_
        obtain ⟨x45, hx45⟩ : ∃ z : Int32, z = l3 + 1 := ⟨_, rfl⟩
        have h := sx_letE hx45 h
        refine sx_iinc (pc := 75) (v := x45) (lo' := [(3, .int x45), (1, .int x44), (2, .int x39), (4, .int x39), (0, .ref 146)]) dX12_simple_75 sx_m4 (by rw [hx45]; rfl) (by decide) rfl ?_
        refine sx_goto (pc := 78) (tgt := 31) dX12_simple_78 (by decide) ?_
        refine sx_wk (sx_s1 sx_m4 (sx_s1 sx_m1 (sx_s1 sx_m2 (sx_s1 sx_m0 sx_s0)))) ?_
        exact hk31 _ _ _ _ h
      · have h := sx_neg c41 h
        refine sx_iconst (pc := 59) (v := 0) dX12_simple_59 (by decide) ?_
        exact sv_zret (pc := 60) dX12_simple_60 rfl rfl h hP
theorem tL_X12_simple_31 {g : sx_G} (hG : sx_Go g) {P : Option Value → sv_V → Prop} {r : Int32} {Vr : sv_V} (hP : P (some (.int r)) Vr) {N : Nat}   : ∀ (n : Nat) (l1 : Int32) (l2 : Int32) (l3 : Int32) (V : sv_V), sx_lp4 (B_X12_simple_31 N ) n l1 l2 l3 V = some (r, Vr) → sv_N g qX12_simple 4 31 [(0, .ref 146), (1, .int l1), (2, .int l2), (3, .int l3)] [] V P :=
  sx_lp4_ind (fun k0 ih _ _ _ V h => tB_X12_simple_31 hG hP ih h)
def F_X12_simple (N : Nat)  (V : sv_V) : Option (Int32 × sv_V) := sx_let ((V.1 146 26) + (10 : Int32)) (fun x46 => if ((x46 + ((2 : Int32) * (V.1 146 28))) + (2 : Int32)) ≤ (V.1 146 27) then (sx_lp4 (B_X12_simple_31 N ) N x46 (-1 : Int32) (0 : Int32) V) else (some ((0 : Int32), V)))
set_option maxRecDepth 20000 in
theorem t_X12_simple {g : sx_G} (hG : sx_Go g) {P : Option Value → sv_V → Prop} {r : Int32} {Vr : sv_V} (hP : P (some (.int r)) Vr) {N : Nat}  {V : sv_V} (h : F_X12_simple N  V = some (r, Vr)) : sv_N g qX12_simple 4 0 [(0, .ref 146)] [] V P := by
  unfold F_X12_simple at h
  refine sx_aload_n (pc := 0) dX12_simple_0 sx_m0 ?_
  refine sv_getI (pc := 1) hG dX12_simple_1 f_12_342 lay_146 rfl ?_
  refine sx_bipush (pc := 4) (v := 10) dX12_simple_4 (by decide) ?_
  refine sx_iadd (pc := 6) dX12_simple_6 ?_
  refine sv_tI (fun x46 hx46 => ?_)
  have h := sx_letE hx46 h
  refine sx_istore_n (pc := 7) (lo' := [(1, .int x46), (0, .ref 146)]) dX12_simple_7 (by decide) rfl ?_
  refine sx_iload_n (pc := 8) dX12_simple_8 sx_m0 ?_
  refine sx_iconst (pc := 9) (v := 2) dX12_simple_9 (by decide) ?_
  refine sx_aload_n (pc := 10) dX12_simple_10 sx_m1 ?_
  refine sv_getI (pc := 11) hG dX12_simple_11 f_12_348 lay_146 rfl ?_
  refine sx_imul (pc := 14) dX12_simple_14 ?_
  refine sx_iadd (pc := 15) dX12_simple_15 ?_
  refine sx_iconst (pc := 16) (v := 2) dX12_simple_16 (by decide) ?_
  refine sx_iadd (pc := 17) dX12_simple_17 ?_
  refine sx_aload_n (pc := 18) dX12_simple_18 sx_m1 ?_
  refine sv_getI (pc := 19) hG dX12_simple_19 f_12_345 lay_146 rfl ?_
  refine sx_icmp_le (pc := 22) (tgt := 27) dX12_simple_22 (by decide) (fun c47 => ?_) (fun c47 => ?_)
  · have h := sx_pos c47 h
    refine sx_iconst (pc := 27) (v := (-1)) dX12_simple_27 (by decide) ?_
    refine sx_istore_n (pc := 28) (lo' := [(2, .int (-1 : Int32)), (1, .int x46), (0, .ref 146)]) dX12_simple_28 (by decide) rfl ?_
    refine sx_iconst (pc := 29) (v := 0) dX12_simple_29 (by decide) ?_
    refine sx_istore_n (pc := 30) (lo' := [(3, .int (0 : Int32)), (2, .int (-1 : Int32)), (1, .int x46), (0, .ref 146)]) dX12_simple_30 (by decide) rfl ?_
    refine sx_wk (sx_s1 sx_m3 (sx_s1 sx_m2 (sx_s1 sx_m1 (sx_s1 sx_m0 sx_s0)))) ?_
    exact tL_X12_simple_31 hG hP  N _ _ _ _ h
  · have h := sx_neg c47 h
    refine sx_iconst (pc := 25) (v := 0) dX12_simple_25 (by decide) ?_
    exact sv_zret (pc := 26) dX12_simple_26 rfl rfl h hP
def ncX12_map : Nat := 1833222867052518149126402824639136796789533535870959463454052700341323021519035840703359145600752012292395313382394522259613489930199390631620997311203693232460118059439723930307792310011193916081728418108935685178885892726860063407842551329871720421724639855272518015479119370158445393148461542688445866459381083470275292635998032598856600780912241287872044270360930491142137504027081877998854908058926093950940261347858080109549348721336173531037796489112010427157474745875492419139110115715065924266487878077550682751490311298690413599495189680263210566341004818765081185772233117670756802380775823826854642833231867128113486594054907227023153238465419683277525191148687193620410539863959898013810724837318054771222247532600204184043646679544492999178322758761326999138036374073636126712646717971505846047473709105191265964586
theorem kcX12_map : CK cX12_map ncX12_map 344 := ⟨by decide +kernel, by decide +kernel⟩
theorem dX12_map_0 : decode cX12_map 0 = .ok (.aload_n 0, 1) := dl_o42 kcX12_map (by decide +kernel)
theorem dX12_map_1 : decode cX12_map 1 = .ok (.ldc 239, 2) := dl_o18 kcX12_map (by decide +kernel)
theorem dX12_map_3 : decode cX12_map 3 = .ok (.invokevirtual 251, 3) := dl_o182 kcX12_map (by decide +kernel)
theorem dX12_map_6 : decode cX12_map 6 = .ok (.istore_n 1, 1) := dl_o60 kcX12_map (by decide +kernel)
theorem dX12_map_7 : decode cX12_map 7 = .ok (.aload_n 0, 1) := dl_o42 kcX12_map (by decide +kernel)
theorem dX12_map_8 : decode cX12_map 8 = .ok (.ldc 239, 2) := dl_o18 kcX12_map (by decide +kernel)
theorem dX12_map_10 : decode cX12_map 10 = .ok (.invokevirtual 257, 3) := dl_o182 kcX12_map (by decide +kernel)
theorem dX12_map_13 : decode cX12_map 13 = .ok (.istore_n 2, 1) := dl_o61 kcX12_map (by decide +kernel)
theorem dX12_map_14 : decode cX12_map 14 = .ok (.iload_n 2, 1) := dl_o28 kcX12_map (by decide +kernel)
theorem dX12_map_15 : decode cX12_map 15 = .ok (.iconst 4, 1) := dl_o7 kcX12_map (by decide +kernel)
theorem dX12_map_16 : decode cX12_map 16 = .ok (.if_icmp .lt 13, 3) := dl_o161 kcX12_map 13 (by decide +kernel) (by decide +kernel)
theorem dX12_map_19 : decode cX12_map 19 = .ok (.aload_n 0, 1) := dl_o42 kcX12_map (by decide +kernel)
theorem dX12_map_20 : decode cX12_map 20 = .ok (.iload_n 1, 1) := dl_o27 kcX12_map (by decide +kernel)
theorem dX12_map_21 : decode cX12_map 21 = .ok (.iconst 2, 1) := dl_o5 kcX12_map (by decide +kernel)
theorem dX12_map_22 : decode cX12_map 22 = .ok (.iadd, 1) := dl_o96 kcX12_map (by decide +kernel)
theorem dX12_map_23 : decode cX12_map 23 = .ok (.invokevirtual 213, 3) := dl_o182 kcX12_map (by decide +kernel)
theorem dX12_map_26 : decode cX12_map 26 = .ok (.goto 4, 3) := dl_o167 kcX12_map 4 (by decide +kernel) (by decide +kernel)
theorem dX12_map_29 : decode cX12_map 29 = .ok (.iconst 0, 1) := dl_o3 kcX12_map (by decide +kernel)
theorem dX12_map_30 : decode cX12_map 30 = .ok (.istore_n 3, 1) := dl_o62 kcX12_map (by decide +kernel)
theorem dX12_map_31 : decode cX12_map 31 = .ok (.iload_n 2, 1) := dl_o28 kcX12_map (by decide +kernel)
theorem dX12_map_32 : decode cX12_map 32 = .ok (.iconst 4, 1) := dl_o7 kcX12_map (by decide +kernel)
theorem dX12_map_33 : decode cX12_map 33 = .ok (.if_icmp .lt 33, 3) := dl_o161 kcX12_map 33 (by decide +kernel) (by decide +kernel)
theorem dX12_map_36 : decode cX12_map 36 = .ok (.aload_n 0, 1) := dl_o42 kcX12_map (by decide +kernel)
theorem dX12_map_37 : decode cX12_map 37 = .ok (.iload_n 1, 1) := dl_o27 kcX12_map (by decide +kernel)
theorem dX12_map_38 : decode cX12_map 38 = .ok (.invokevirtual 213, 3) := dl_o182 kcX12_map (by decide +kernel)
theorem dX12_map_41 : decode cX12_map 41 = .ok (.ifCond .ne 25, 3) := dl_o154 kcX12_map 25 (by decide +kernel) (by decide +kernel)
theorem dX12_map_44 : decode cX12_map 44 = .ok (.iload_n 3, 1) := dl_o29 kcX12_map (by decide +kernel)
theorem dX12_map_45 : decode cX12_map 45 = .ok (.i2l, 1) := dl_o133 kcX12_map (by decide +kernel)
theorem dX12_map_46 : decode cX12_map 46 = .ok (.lconst 1, 1) := dl_o10 kcX12_map (by decide +kernel)
theorem dX12_map_47 : decode cX12_map 47 = .ok (.ldc2_w 380, 3) := dl_o20 kcX12_map (by decide +kernel)
theorem dX12_map_50 : decode cX12_map 50 = .ok (.invokestatic 263, 3) := dl_o184 kcX12_map (by decide +kernel)
theorem dX12_map_53 : decode cX12_map 53 = .ok (.ifCond .eq 13, 3) := dl_o153 kcX12_map 13 (by decide +kernel) (by decide +kernel)
theorem dX12_map_56 : decode cX12_map 56 = .ok (.iload_n 2, 1) := dl_o28 kcX12_map (by decide +kernel)
theorem dX12_map_57 : decode cX12_map 57 = .ok (.iconst 4, 1) := dl_o7 kcX12_map (by decide +kernel)
theorem dX12_map_58 : decode cX12_map 58 = .ok (.bipush 8, 2) := dl_o16 kcX12_map 8 (by decide +kernel) (by decide +kernel)
theorem dX12_map_60 : decode cX12_map 60 = .ok (.iload_n 3, 1) := dl_o29 kcX12_map (by decide +kernel)
theorem dX12_map_61 : decode cX12_map 61 = .ok (.imul, 1) := dl_o104 kcX12_map (by decide +kernel)
theorem dX12_map_62 : decode cX12_map 62 = .ok (.iadd, 1) := dl_o96 kcX12_map (by decide +kernel)
theorem dX12_map_63 : decode cX12_map 63 = .ok (.if_icmp .ge 5, 3) := dl_o162 kcX12_map 5 (by decide +kernel) (by decide +kernel)
theorem dX12_map_66 : decode cX12_map 66 = .ok (.iconst 0, 1) := dl_o3 kcX12_map (by decide +kernel)
theorem dX12_map_67 : decode cX12_map 67 = .ok (.ireturn, 1) := dl_o172 kcX12_map (by decide +kernel)
theorem dX12_map_68 : decode cX12_map 68 = .ok (.bipush 9, 2) := dl_o16 kcX12_map 9 (by decide +kernel) (by decide +kernel)
theorem dX12_map_70 : decode cX12_map 70 = .ok (.istore 4, 2) := dl_o54 kcX12_map (by decide +kernel)
theorem dX12_map_72 : decode cX12_map 72 = .ok (.lconst 0, 1) := dl_o9 kcX12_map (by decide +kernel)
theorem dX12_map_73 : decode cX12_map 73 = .ok (.lstore 5, 2) := dl_o55 kcX12_map (by decide +kernel)
theorem dX12_map_75 : decode cX12_map 75 = .ok (.iconst 0, 1) := dl_o3 kcX12_map (by decide +kernel)
theorem dX12_map_76 : decode cX12_map 76 = .ok (.istore 7, 2) := dl_o54 kcX12_map (by decide +kernel)
theorem dX12_map_78 : decode cX12_map 78 = .ok (.iload 7, 2) := dl_o21 kcX12_map (by decide +kernel)
theorem dX12_map_80 : decode cX12_map 80 = .ok (.iload_n 3, 1) := dl_o29 kcX12_map (by decide +kernel)
theorem dX12_map_81 : decode cX12_map 81 = .ok (.if_icmp .ge 111, 3) := dl_o162 kcX12_map 111 (by decide +kernel) (by decide +kernel)
theorem dX12_map_84 : decode cX12_map 84 = .ok (.iload_n 1, 1) := dl_o27 kcX12_map (by decide +kernel)
theorem dX12_map_85 : decode cX12_map 85 = .ok (.iconst 4, 1) := dl_o7 kcX12_map (by decide +kernel)
theorem dX12_map_86 : decode cX12_map 86 = .ok (.iadd, 1) := dl_o96 kcX12_map (by decide +kernel)
theorem dX12_map_87 : decode cX12_map 87 = .ok (.bipush 8, 2) := dl_o16 kcX12_map 8 (by decide +kernel) (by decide +kernel)
theorem dX12_map_89 : decode cX12_map 89 = .ok (.iload 7, 2) := dl_o21 kcX12_map (by decide +kernel)
theorem dX12_map_91 : decode cX12_map 91 = .ok (.imul, 1) := dl_o104 kcX12_map (by decide +kernel)
theorem dX12_map_92 : decode cX12_map 92 = .ok (.iadd, 1) := dl_o96 kcX12_map (by decide +kernel)
theorem dX12_map_93 : decode cX12_map 93 = .ok (.istore 8, 2) := dl_o54 kcX12_map (by decide +kernel)
theorem dX12_map_95 : decode cX12_map 95 = .ok (.aload_n 0, 1) := dl_o42 kcX12_map (by decide +kernel)
theorem dX12_map_96 : decode cX12_map 96 = .ok (.iload 8, 2) := dl_o21 kcX12_map (by decide +kernel)
theorem dX12_map_98 : decode cX12_map 98 = .ok (.invokevirtual 213, 3) := dl_o182 kcX12_map (by decide +kernel)
theorem dX12_map_101 : decode cX12_map 101 = .ok (.istore 9, 2) := dl_o54 kcX12_map (by decide +kernel)
theorem dX12_map_103 : decode cX12_map 103 = .ok (.aload_n 0, 1) := dl_o42 kcX12_map (by decide +kernel)
theorem dX12_map_104 : decode cX12_map 104 = .ok (.iload 8, 2) := dl_o21 kcX12_map (by decide +kernel)
theorem dX12_map_106 : decode cX12_map 106 = .ok (.iconst 2, 1) := dl_o5 kcX12_map (by decide +kernel)
theorem dX12_map_107 : decode cX12_map 107 = .ok (.iadd, 1) := dl_o96 kcX12_map (by decide +kernel)
theorem dX12_map_108 : decode cX12_map 108 = .ok (.invokevirtual 213, 3) := dl_o182 kcX12_map (by decide +kernel)
theorem dX12_map_111 : decode cX12_map 111 = .ok (.istore 10, 2) := dl_o54 kcX12_map (by decide +kernel)
theorem dX12_map_113 : decode cX12_map 113 = .ok (.iload 9, 2) := dl_o21 kcX12_map (by decide +kernel)
theorem dX12_map_115 : decode cX12_map 115 = .ok (.iconst 3, 1) := dl_o6 kcX12_map (by decide +kernel)
theorem dX12_map_116 : decode cX12_map 116 = .ok (.if_icmp .ne 14, 3) := dl_o160 kcX12_map 14 (by decide +kernel) (by decide +kernel)
theorem dX12_map_119 : decode cX12_map 119 = .ok (.iload 10, 2) := dl_o21 kcX12_map (by decide +kernel)
theorem dX12_map_121 : decode cX12_map 121 = .ok (.bipush 10, 2) := dl_o16 kcX12_map 10 (by decide +kernel) (by decide +kernel)
theorem dX12_map_123 : decode cX12_map 123 = .ok (.if_icmp .ne 7, 3) := dl_o160 kcX12_map 7 (by decide +kernel) (by decide +kernel)
theorem dX12_map_126 : decode cX12_map 126 = .ok (.iconst 0, 1) := dl_o3 kcX12_map (by decide +kernel)
theorem dX12_map_127 : decode cX12_map 127 = .ok (.goto 36, 3) := dl_o167 kcX12_map 36 (by decide +kernel) (by decide +kernel)
theorem dX12_map_130 : decode cX12_map 130 = .ok (.iload 9, 2) := dl_o21 kcX12_map (by decide +kernel)
theorem dX12_map_132 : decode cX12_map 132 = .ok (.iconst 3, 1) := dl_o6 kcX12_map (by decide +kernel)
theorem dX12_map_133 : decode cX12_map 133 = .ok (.if_icmp .ne 13, 3) := dl_o160 kcX12_map 13 (by decide +kernel) (by decide +kernel)
theorem dX12_map_136 : decode cX12_map 136 = .ok (.iload 10, 2) := dl_o21 kcX12_map (by decide +kernel)
theorem dX12_map_138 : decode cX12_map 138 = .ok (.iconst 1, 1) := dl_o4 kcX12_map (by decide +kernel)
theorem dX12_map_139 : decode cX12_map 139 = .ok (.if_icmp .ne 7, 3) := dl_o160 kcX12_map 7 (by decide +kernel) (by decide +kernel)
theorem dX12_map_142 : decode cX12_map 142 = .ok (.iconst 1, 1) := dl_o4 kcX12_map (by decide +kernel)
theorem dX12_map_143 : decode cX12_map 143 = .ok (.goto 20, 3) := dl_o167 kcX12_map 20 (by decide +kernel) (by decide +kernel)
theorem dX12_map_146 : decode cX12_map 146 = .ok (.iload 9, 2) := dl_o21 kcX12_map (by decide +kernel)
theorem dX12_map_148 : decode cX12_map 148 = .ok (.iconst 1, 1) := dl_o4 kcX12_map (by decide +kernel)
theorem dX12_map_149 : decode cX12_map 149 = .ok (.if_icmp .ne 12, 3) := dl_o160 kcX12_map 12 (by decide +kernel) (by decide +kernel)
theorem dX12_map_152 : decode cX12_map 152 = .ok (.iload 10, 2) := dl_o21 kcX12_map (by decide +kernel)
theorem dX12_map_154 : decode cX12_map 154 = .ok (.ifCond .ne 7, 3) := dl_o154 kcX12_map 7 (by decide +kernel) (by decide +kernel)
theorem dX12_map_157 : decode cX12_map 157 = .ok (.iconst 2, 1) := dl_o5 kcX12_map (by decide +kernel)
theorem dX12_map_158 : decode cX12_map 158 = .ok (.goto 5, 3) := dl_o167 kcX12_map 5 (by decide +kernel) (by decide +kernel)
theorem dX12_map_161 : decode cX12_map 161 = .ok (.bipush 9, 2) := dl_o16 kcX12_map 9 (by decide +kernel) (by decide +kernel)
theorem dX12_map_163 : decode cX12_map 163 = .ok (.istore 11, 2) := dl_o54 kcX12_map (by decide +kernel)
theorem dX12_map_165 : decode cX12_map 165 = .ok (.iload 11, 2) := dl_o21 kcX12_map (by decide +kernel)
theorem dX12_map_167 : decode cX12_map 167 = .ok (.iload 4, 2) := dl_o21 kcX12_map (by decide +kernel)
theorem dX12_map_169 : decode cX12_map 169 = .ok (.if_icmp .ge 17, 3) := dl_o162 kcX12_map 17 (by decide +kernel) (by decide +kernel)
theorem dX12_map_172 : decode cX12_map 172 = .ok (.iload 11, 2) := dl_o21 kcX12_map (by decide +kernel)
theorem dX12_map_174 : decode cX12_map 174 = .ok (.istore 4, 2) := dl_o54 kcX12_map (by decide +kernel)
theorem dX12_map_176 : decode cX12_map 176 = .ok (.aload_n 0, 1) := dl_o42 kcX12_map (by decide +kernel)
theorem dX12_map_177 : decode cX12_map 177 = .ok (.iload 8, 2) := dl_o21 kcX12_map (by decide +kernel)
theorem dX12_map_179 : decode cX12_map 179 = .ok (.iconst 4, 1) := dl_o7 kcX12_map (by decide +kernel)
theorem dX12_map_180 : decode cX12_map 180 = .ok (.iadd, 1) := dl_o96 kcX12_map (by decide +kernel)
theorem dX12_map_181 : decode cX12_map 181 = .ok (.invokevirtual 297, 3) := dl_o182 kcX12_map (by decide +kernel)
theorem dX12_map_184 : decode cX12_map 184 = .ok (.lstore 5, 2) := dl_o55 kcX12_map (by decide +kernel)
theorem dX12_map_186 : decode cX12_map 186 = .ok (.iinc 7 1, 3) := by decide +kernel
theorem dX12_map_189 : decode cX12_map 189 = .ok (.goto (-111), 3) := dl_o167 kcX12_map 65425 (by decide +kernel) (by decide +kernel)
theorem dX12_map_192 : decode cX12_map 192 = .ok (.iload 4, 2) := dl_o21 kcX12_map (by decide +kernel)
theorem dX12_map_194 : decode cX12_map 194 = .ok (.bipush 9, 2) := dl_o16 kcX12_map 9 (by decide +kernel) (by decide +kernel)
theorem dX12_map_196 : decode cX12_map 196 = .ok (.if_icmp .eq 15, 3) := dl_o159 kcX12_map 15 (by decide +kernel) (by decide +kernel)
theorem dX12_map_199 : decode cX12_map 199 = .ok (.lload 5, 2) := dl_o22 kcX12_map (by decide +kernel)
theorem dX12_map_201 : decode cX12_map 201 = .ok (.ldc2_w 382, 3) := dl_o20 kcX12_map (by decide +kernel)
theorem dX12_map_204 : decode cX12_map 204 = .ok (.ladd, 1) := dl_o97 kcX12_map (by decide +kernel)
theorem dX12_map_205 : decode cX12_map 205 = .ok (.iload_n 2, 1) := dl_o28 kcX12_map (by decide +kernel)
theorem dX12_map_206 : decode cX12_map 206 = .ok (.i2l, 1) := dl_o133 kcX12_map (by decide +kernel)
theorem dX12_map_207 : decode cX12_map 207 = .ok (.lcmp, 1) := dl_o148 kcX12_map (by decide +kernel)
theorem dX12_map_208 : decode cX12_map 208 = .ok (.ifCond .le 5, 3) := dl_o158 kcX12_map 5 (by decide +kernel) (by decide +kernel)
theorem dX12_map_211 : decode cX12_map 211 = .ok (.iconst 0, 1) := dl_o3 kcX12_map (by decide +kernel)
theorem dX12_map_212 : decode cX12_map 212 = .ok (.ireturn, 1) := dl_o172 kcX12_map (by decide +kernel)
theorem dX12_map_213 : decode cX12_map 213 = .ok (.aload_n 0, 1) := dl_o42 kcX12_map (by decide +kernel)
theorem dX12_map_214 : decode cX12_map 214 = .ok (.iload_n 1, 1) := dl_o27 kcX12_map (by decide +kernel)
theorem dX12_map_215 : decode cX12_map 215 = .ok (.lload 5, 2) := dl_o22 kcX12_map (by decide +kernel)
theorem dX12_map_217 : decode cX12_map 217 = .ok (.l2i, 1) := dl_o136 kcX12_map (by decide +kernel)
theorem dX12_map_218 : decode cX12_map 218 = .ok (.iadd, 1) := dl_o96 kcX12_map (by decide +kernel)
theorem dX12_map_219 : decode cX12_map 219 = .ok (.putfield 384, 3) := dl_o181 kcX12_map (by decide +kernel)
theorem dX12_map_222 : decode cX12_map 222 = .ok (.aload_n 0, 1) := dl_o42 kcX12_map (by decide +kernel)
theorem dX12_map_223 : decode cX12_map 223 = .ok (.iload 4, 2) := dl_o21 kcX12_map (by decide +kernel)
theorem dX12_map_225 : decode cX12_map 225 = .ok (.ifCond .ne 8, 3) := dl_o154 kcX12_map 8 (by decide +kernel) (by decide +kernel)
theorem dX12_map_228 : decode cX12_map 228 = .ok (.bipush 12, 2) := dl_o16 kcX12_map 12 (by decide +kernel) (by decide +kernel)
theorem dX12_map_230 : decode cX12_map 230 = .ok (.goto 14, 3) := dl_o167 kcX12_map 14 (by decide +kernel) (by decide +kernel)
theorem dX12_map_233 : decode cX12_map 233 = .ok (.iload 4, 2) := dl_o21 kcX12_map (by decide +kernel)
theorem dX12_map_235 : decode cX12_map 235 = .ok (.iconst 1, 1) := dl_o4 kcX12_map (by decide +kernel)
theorem dX12_map_236 : decode cX12_map 236 = .ok (.if_icmp .ne 7, 3) := dl_o160 kcX12_map 7 (by decide +kernel) (by decide +kernel)
theorem dX12_map_239 : decode cX12_map 239 = .ok (.iconst 4, 1) := dl_o7 kcX12_map (by decide +kernel)
theorem dX12_map_240 : decode cX12_map 240 = .ok (.goto 4, 3) := dl_o167 kcX12_map 4 (by decide +kernel) (by decide +kernel)
theorem dX12_map_243 : decode cX12_map 243 = .ok (.iconst 0, 1) := dl_o3 kcX12_map (by decide +kernel)
theorem dX12_map_244 : decode cX12_map 244 = .ok (.putfield 387, 3) := dl_o181 kcX12_map (by decide +kernel)
theorem dX12_map_247 : decode cX12_map 247 = .ok (.iload_n 2, 1) := dl_o28 kcX12_map (by decide +kernel)
theorem dX12_map_248 : decode cX12_map 248 = .ok (.lload 5, 2) := dl_o22 kcX12_map (by decide +kernel)
theorem dX12_map_250 : decode cX12_map 250 = .ok (.l2i, 1) := dl_o136 kcX12_map (by decide +kernel)
theorem dX12_map_251 : decode cX12_map 251 = .ok (.isub, 1) := dl_o100 kcX12_map (by decide +kernel)
theorem dX12_map_252 : decode cX12_map 252 = .ok (.istore 7, 2) := dl_o54 kcX12_map (by decide +kernel)
theorem dX12_map_254 : decode cX12_map 254 = .ok (.aload_n 0, 1) := dl_o42 kcX12_map (by decide +kernel)
theorem dX12_map_255 : decode cX12_map 255 = .ok (.aload_n 0, 1) := dl_o42 kcX12_map (by decide +kernel)
theorem dX12_map_256 : decode cX12_map 256 = .ok (.getfield 384, 3) := dl_o180 kcX12_map (by decide +kernel)
theorem dX12_map_259 : decode cX12_map 259 = .ok (.invokevirtual 213, 3) := dl_o182 kcX12_map (by decide +kernel)
theorem dX12_map_262 : decode cX12_map 262 = .ok (.aload_n 0, 1) := dl_o42 kcX12_map (by decide +kernel)
theorem dX12_map_263 : decode cX12_map 263 = .ok (.getfield 387, 3) := dl_o180 kcX12_map (by decide +kernel)
theorem dX12_map_266 : decode cX12_map 266 = .ok (.if_icmp .eq 5, 3) := dl_o159 kcX12_map 5 (by decide +kernel) (by decide +kernel)
theorem dX12_map_269 : decode cX12_map 269 = .ok (.iconst 0, 1) := dl_o3 kcX12_map (by decide +kernel)
theorem dX12_map_270 : decode cX12_map 270 = .ok (.ireturn, 1) := dl_o172 kcX12_map (by decide +kernel)
theorem dX12_map_271 : decode cX12_map 271 = .ok (.aload_n 0, 1) := dl_o42 kcX12_map (by decide +kernel)
theorem dX12_map_272 : decode cX12_map 272 = .ok (.getfield 387, 3) := dl_o180 kcX12_map (by decide +kernel)
theorem dX12_map_275 : decode cX12_map 275 = .ok (.ifCond .ne 45, 3) := dl_o154 kcX12_map 45 (by decide +kernel) (by decide +kernel)
theorem dX12_map_278 : decode cX12_map 278 = .ok (.aload_n 0, 1) := dl_o42 kcX12_map (by decide +kernel)
theorem dX12_map_279 : decode cX12_map 279 = .ok (.aload_n 0, 1) := dl_o42 kcX12_map (by decide +kernel)
theorem dX12_map_280 : decode cX12_map 280 = .ok (.getfield 384, 3) := dl_o180 kcX12_map (by decide +kernel)
theorem dX12_map_283 : decode cX12_map 283 = .ok (.iconst 2, 1) := dl_o5 kcX12_map (by decide +kernel)
theorem dX12_map_284 : decode cX12_map 284 = .ok (.iadd, 1) := dl_o96 kcX12_map (by decide +kernel)
theorem dX12_map_285 : decode cX12_map 285 = .ok (.invokevirtual 213, 3) := dl_o182 kcX12_map (by decide +kernel)
theorem dX12_map_288 : decode cX12_map 288 = .ok (.sipush 262, 3) := dl_o17 kcX12_map 262 (by decide +kernel) (by decide +kernel)
theorem dX12_map_291 : decode cX12_map 291 = .ok (.if_icmp .ne 25, 3) := dl_o160 kcX12_map 25 (by decide +kernel) (by decide +kernel)
theorem dX12_map_294 : decode cX12_map 294 = .ok (.iload 7, 2) := dl_o21 kcX12_map (by decide +kernel)
theorem dX12_map_296 : decode cX12_map 296 = .ok (.sipush 262, 3) := dl_o17 kcX12_map 262 (by decide +kernel) (by decide +kernel)
theorem dX12_map_299 : decode cX12_map 299 = .ok (.if_icmp .lt 17, 3) := dl_o161 kcX12_map 17 (by decide +kernel) (by decide +kernel)
theorem dX12_map_302 : decode cX12_map 302 = .ok (.aload_n 0, 1) := dl_o42 kcX12_map (by decide +kernel)
theorem dX12_map_303 : decode cX12_map 303 = .ok (.sipush 256, 3) := dl_o17 kcX12_map 256 (by decide +kernel) (by decide +kernel)
theorem dX12_map_306 : decode cX12_map 306 = .ok (.invokevirtual 390, 3) := dl_o182 kcX12_map (by decide +kernel)
theorem dX12_map_309 : decode cX12_map 309 = .ok (.ifCond .eq 7, 3) := dl_o153 kcX12_map 7 (by decide +kernel) (by decide +kernel)
theorem dX12_map_312 : decode cX12_map 312 = .ok (.iconst 1, 1) := dl_o4 kcX12_map (by decide +kernel)
theorem dX12_map_313 : decode cX12_map 313 = .ok (.goto 30, 3) := dl_o167 kcX12_map 30 (by decide +kernel) (by decide +kernel)
theorem dX12_map_316 : decode cX12_map 316 = .ok (.iconst 0, 1) := dl_o3 kcX12_map (by decide +kernel)
theorem dX12_map_317 : decode cX12_map 317 = .ok (.goto 26, 3) := dl_o167 kcX12_map 26 (by decide +kernel) (by decide +kernel)
theorem dX12_map_320 : decode cX12_map 320 = .ok (.aload_n 0, 1) := dl_o42 kcX12_map (by decide +kernel)
theorem dX12_map_321 : decode cX12_map 321 = .ok (.getfield 387, 3) := dl_o180 kcX12_map (by decide +kernel)
theorem dX12_map_324 : decode cX12_map 324 = .ok (.iconst 4, 1) := dl_o7 kcX12_map (by decide +kernel)
theorem dX12_map_325 : decode cX12_map 325 = .ok (.if_icmp .ne 12, 3) := dl_o160 kcX12_map 12 (by decide +kernel) (by decide +kernel)
theorem dX12_map_328 : decode cX12_map 328 = .ok (.aload_n 0, 1) := dl_o42 kcX12_map (by decide +kernel)
theorem dX12_map_329 : decode cX12_map 329 = .ok (.iload 7, 2) := dl_o21 kcX12_map (by decide +kernel)
theorem dX12_map_331 : decode cX12_map 331 = .ok (.invokevirtual 393, 3) := dl_o182 kcX12_map (by decide +kernel)
theorem dX12_map_334 : decode cX12_map 334 = .ok (.goto 9, 3) := dl_o167 kcX12_map 9 (by decide +kernel) (by decide +kernel)
theorem dX12_map_337 : decode cX12_map 337 = .ok (.aload_n 0, 1) := dl_o42 kcX12_map (by decide +kernel)
theorem dX12_map_338 : decode cX12_map 338 = .ok (.iload 7, 2) := dl_o21 kcX12_map (by decide +kernel)
theorem dX12_map_340 : decode cX12_map 340 = .ok (.invokevirtual 396, 3) := dl_o182 kcX12_map (by decide +kernel)
theorem dX12_map_343 : decode cX12_map 343 = .ok (.ireturn, 1) := dl_o172 kcX12_map (by decide +kernel)
def B_X12_map_186 (N : Nat) (k78 : Int32 → Int32 → Int32 → Int32 → Int64 → Int32 → sv_V → Option (Int32 × sv_V)) (l1 : Int32) (l2 : Int32) (l3 : Int32) (l4 : Int32) (l5 : Int64) (l7 : Int32) (V : sv_V) : Option (Int32 × sv_V) := sx_let (l7 + 1) (fun x1 => k78 l1 l2 l3 l4 l5 x1 V)
set_option maxRecDepth 20000 in
theorem tB_X12_map_186 {g : sx_G} (hG : sx_Go g) {P : Option Value → sv_V → Prop} {r : Int32} {Vr : sv_V} (hP : P (some (.int r)) Vr) {N : Nat} {k78 : Int32 → Int32 → Int32 → Int32 → Int64 → Int32 → sv_V → Option (Int32 × sv_V)} (hk78 : ∀ (l1 : Int32) (l2 : Int32) (l3 : Int32) (l4 : Int32) (l5 : Int64) (l7 : Int32) (V : sv_V), k78 l1 l2 l3 l4 l5 l7 V = some (r, Vr) → sv_N g qX12_map 4 78 [(0, .ref 146), (1, .int l1), (2, .int l2), (3, .int l3), (4, .int l4), (5, .long l5), (7, .int l7)] [] V P) {l1 : Int32} {l2 : Int32} {l3 : Int32} {l4 : Int32} {l5 : Int64} {l7 : Int32} {V : sv_V} (h : B_X12_map_186 N k78 l1 l2 l3 l4 l5 l7 V = some (r, Vr)) : sv_N g qX12_map 4 186 [(0, .ref 146), (1, .int l1), (2, .int l2), (3, .int l3), (4, .int l4), (5, .long l5), (7, .int l7)] [] V P := by
  unfold B_X12_map_186 at h
  obtain ⟨x1, hx1⟩ : ∃ z : Int32, z = l7 + 1 := ⟨_, rfl⟩
  have h := sx_letE hx1 h
  refine sx_iinc (pc := 186) (v := x1) (lo' := [(7, .int x1), (0, .ref 146), (1, .int l1), (2, .int l2), (3, .int l3), (4, .int l4), (5, .long l5)]) dX12_map_186 sx_m6 (by rw [hx1]; rfl) (by decide) rfl ?_
  refine sx_goto (pc := 189) (tgt := 78) dX12_map_189 (by decide) ?_
  refine sx_wk (sx_s1 sx_m1 (sx_s1 sx_m2 (sx_s1 sx_m3 (sx_s1 sx_m4 (sx_s1 sx_m5 (sx_s1 sx_m6 (sx_s1 sx_m0 sx_s0))))))) ?_
  exact hk78 _ _ _ _ _ _ _ h
def B_X12_map_163 (N : Nat) (k78 : Int32 → Int32 → Int32 → Int32 → Int64 → Int32 → sv_V → Option (Int32 × sv_V)) (l1 : Int32) (l2 : Int32) (l3 : Int32) (l4 : Int32) (l5 : Int64) (l7 : Int32) (l8 : Int32) (s0 : Int32) (V : sv_V) : Option (Int32 × sv_V) := if l4 ≤ s0 then (B_X12_map_186 N k78 l1 l2 l3 l4 l5 l7 V) else ((F_X12_u4 (l8 + (4 : Int32)) V).bind (fun (x5, V3) => B_X12_map_186 N k78 l1 l2 l3 s0 x5 l7 V3))
set_option maxRecDepth 20000 in
theorem tB_X12_map_163 {g : sx_G} (hG : sx_Go g) {P : Option Value → sv_V → Prop} {r : Int32} {Vr : sv_V} (hP : P (some (.int r)) Vr) {N : Nat} {k78 : Int32 → Int32 → Int32 → Int32 → Int64 → Int32 → sv_V → Option (Int32 × sv_V)} (hk78 : ∀ (l1 : Int32) (l2 : Int32) (l3 : Int32) (l4 : Int32) (l5 : Int64) (l7 : Int32) (V : sv_V), k78 l1 l2 l3 l4 l5 l7 V = some (r, Vr) → sv_N g qX12_map 4 78 [(0, .ref 146), (1, .int l1), (2, .int l2), (3, .int l3), (4, .int l4), (5, .long l5), (7, .int l7)] [] V P) {l1 : Int32} {l2 : Int32} {l3 : Int32} {l4 : Int32} {l5 : Int64} {l7 : Int32} {l8 : Int32} {s0 : Int32} {V : sv_V} (h : B_X12_map_163 N k78 l1 l2 l3 l4 l5 l7 l8 s0 V = some (r, Vr)) : sv_N g qX12_map 4 163 [(0, .ref 146), (1, .int l1), (2, .int l2), (3, .int l3), (4, .int l4), (5, .long l5), (7, .int l7), (8, .int l8)] [.int s0] V P := by
  unfold B_X12_map_163 at h
  refine sx_istore (pc := 163) (lo' := [(11, .int s0), (0, .ref 146), (1, .int l1), (2, .int l2), (3, .int l3), (4, .int l4), (5, .long l5), (7, .int l7), (8, .int l8)]) dX12_map_163 (by decide) rfl ?_
  refine sx_iload (pc := 165) dX12_map_165 sx_m0 ?_
  refine sx_iload (pc := 167) dX12_map_167 sx_m5 ?_
  refine sx_icmp_ge (pc := 169) (tgt := 186) dX12_map_169 (by decide) (fun c2 => ?_) (fun c2 => ?_)
  · have h := sx_pos c2 h
    refine sx_wk (sx_s1 sx_m1 (sx_s1 sx_m2 (sx_s1 sx_m3 (sx_s1 sx_m4 (sx_s1 sx_m5 (sx_s1 sx_m6 (sx_s1 sx_m7 sx_s0))))))) ?_
    exact tB_X12_map_186 hG hP hk78 h
  · have h := sx_neg c2 h
    refine sx_iload (pc := 172) dX12_map_172 sx_m0 ?_
    refine sx_istore (pc := 174) (lo' := [(4, .int s0), (11, .int s0), (0, .ref 146), (1, .int l1), (2, .int l2), (3, .int l3), (5, .long l5), (7, .int l7), (8, .int l8)]) dX12_map_174 (by decide) rfl ?_
    refine sx_aload_n (pc := 176) dX12_map_176 sx_m2 ?_
    refine sx_iload (pc := 177) dX12_map_177 sx_m8 ?_
    refine sx_iconst (pc := 179) (v := 4) dX12_map_179 (by decide) ?_
    refine sx_iadd (pc := 180) dX12_map_180 ?_
    obtain ⟨⟨x5, V3⟩, g4, h⟩ := sx_bnd h
    refine sv_cV (pc := 181) (y := qX12_u4) (o := (some (.long x5))) (as := [.int (l8 + (4 : Int32))]) (V1 := V3) hG dX12_map_181 l_X12_297 y0X12_u4 yvX12_u4 rfl (Nat.le_of_ble_eq_true rfl) lay_146 kr_12 (by decide) (Nat.le_of_ble_eq_true rfl) rfl rfl rfl (t_X12_u4 hG ⟨rfl, rfl⟩ g4) ?_
    refine sx_lstore (pc := 184) (lo' := [(5, .long x5), (4, .int s0), (11, .int s0), (0, .ref 146), (1, .int l1), (2, .int l2), (3, .int l3), (7, .int l7), (8, .int l8)]) dX12_map_184 (by decide) rfl ?_
    refine sx_wk (sx_s1 sx_m3 (sx_s1 sx_m4 (sx_s1 sx_m5 (sx_s1 sx_m6 (sx_s1 sx_m1 (sx_s1 sx_m0 (sx_s1 sx_m7 sx_s0))))))) ?_
    exact tB_X12_map_186 hG hP hk78 h
def B_X12_map_161 (N : Nat) (k78 : Int32 → Int32 → Int32 → Int32 → Int64 → Int32 → sv_V → Option (Int32 × sv_V)) (l1 : Int32) (l2 : Int32) (l3 : Int32) (l4 : Int32) (l5 : Int64) (l7 : Int32) (l8 : Int32) (V : sv_V) : Option (Int32 × sv_V) := B_X12_map_163 N k78 l1 l2 l3 l4 l5 l7 l8 (9 : Int32) V
set_option maxRecDepth 20000 in
theorem tB_X12_map_161 {g : sx_G} (hG : sx_Go g) {P : Option Value → sv_V → Prop} {r : Int32} {Vr : sv_V} (hP : P (some (.int r)) Vr) {N : Nat} {k78 : Int32 → Int32 → Int32 → Int32 → Int64 → Int32 → sv_V → Option (Int32 × sv_V)} (hk78 : ∀ (l1 : Int32) (l2 : Int32) (l3 : Int32) (l4 : Int32) (l5 : Int64) (l7 : Int32) (V : sv_V), k78 l1 l2 l3 l4 l5 l7 V = some (r, Vr) → sv_N g qX12_map 4 78 [(0, .ref 146), (1, .int l1), (2, .int l2), (3, .int l3), (4, .int l4), (5, .long l5), (7, .int l7)] [] V P) {l1 : Int32} {l2 : Int32} {l3 : Int32} {l4 : Int32} {l5 : Int64} {l7 : Int32} {l8 : Int32} {V : sv_V} (h : B_X12_map_161 N k78 l1 l2 l3 l4 l5 l7 l8 V = some (r, Vr)) : sv_N g qX12_map 4 161 [(0, .ref 146), (1, .int l1), (2, .int l2), (3, .int l3), (4, .int l4), (5, .long l5), (7, .int l7), (8, .int l8)] [] V P := by
  unfold B_X12_map_161 at h
  refine sx_bipush (pc := 161) (v := 9) dX12_map_161 (by decide) ?_
  refine sx_wk (sx_s1 sx_m0 (sx_s1 sx_m1 (sx_s1 sx_m2 (sx_s1 sx_m3 (sx_s1 sx_m4 (sx_s1 sx_m5 (sx_s1 sx_m6 (sx_s1 sx_m7 sx_s0)))))))) ?_
  exact tB_X12_map_163 hG hP hk78 h
def B_X12_map_146 (N : Nat) (k78 : Int32 → Int32 → Int32 → Int32 → Int64 → Int32 → sv_V → Option (Int32 × sv_V)) (l1 : Int32) (l2 : Int32) (l3 : Int32) (l4 : Int32) (l5 : Int64) (l7 : Int32) (l8 : Int32) (l9 : Int32) (l10 : Int32) (V : sv_V) : Option (Int32 × sv_V) := if l9 = (1 : Int32) then (if l10 = 0 then (B_X12_map_163 N k78 l1 l2 l3 l4 l5 l7 l8 (2 : Int32) V) else (B_X12_map_161 N k78 l1 l2 l3 l4 l5 l7 l8 V)) else (B_X12_map_161 N k78 l1 l2 l3 l4 l5 l7 l8 V)
set_option maxRecDepth 20000 in
theorem tB_X12_map_146 {g : sx_G} (hG : sx_Go g) {P : Option Value → sv_V → Prop} {r : Int32} {Vr : sv_V} (hP : P (some (.int r)) Vr) {N : Nat} {k78 : Int32 → Int32 → Int32 → Int32 → Int64 → Int32 → sv_V → Option (Int32 × sv_V)} (hk78 : ∀ (l1 : Int32) (l2 : Int32) (l3 : Int32) (l4 : Int32) (l5 : Int64) (l7 : Int32) (V : sv_V), k78 l1 l2 l3 l4 l5 l7 V = some (r, Vr) → sv_N g qX12_map 4 78 [(0, .ref 146), (1, .int l1), (2, .int l2), (3, .int l3), (4, .int l4), (5, .long l5), (7, .int l7)] [] V P) {l1 : Int32} {l2 : Int32} {l3 : Int32} {l4 : Int32} {l5 : Int64} {l7 : Int32} {l8 : Int32} {l9 : Int32} {l10 : Int32} {V : sv_V} (h : B_X12_map_146 N k78 l1 l2 l3 l4 l5 l7 l8 l9 l10 V = some (r, Vr)) : sv_N g qX12_map 4 146 [(0, .ref 146), (1, .int l1), (2, .int l2), (3, .int l3), (4, .int l4), (5, .long l5), (7, .int l7), (8, .int l8), (9, .int l9), (10, .int l10)] [] V P := by
  unfold B_X12_map_146 at h
  refine sx_iload (pc := 146) dX12_map_146 sx_m8 ?_
  refine sx_iconst (pc := 148) (v := 1) dX12_map_148 (by decide) ?_
  refine sx_icmp_ne (pc := 149) (tgt := 161) dX12_map_149 (by decide) (fun c6 => ?_) (fun c6 => ?_)
  · have h := sx_neg c6 h
    refine sx_wk (sx_s1 sx_m0 (sx_s1 sx_m1 (sx_s1 sx_m2 (sx_s1 sx_m3 (sx_s1 sx_m4 (sx_s1 sx_m5 (sx_s1 sx_m6 (sx_s1 sx_m7 sx_s0)))))))) ?_
    exact tB_X12_map_161 hG hP hk78 h
  · have h := sx_pos c6 h
    refine sx_iload (pc := 152) dX12_map_152 sx_m9 ?_
    refine sx_if_ne (pc := 154) (tgt := 161) dX12_map_154 (by decide) (fun c7 => ?_) (fun c7 => ?_)
    · have h := sx_neg c7 h
      refine sx_wk (sx_s1 sx_m0 (sx_s1 sx_m1 (sx_s1 sx_m2 (sx_s1 sx_m3 (sx_s1 sx_m4 (sx_s1 sx_m5 (sx_s1 sx_m6 (sx_s1 sx_m7 sx_s0)))))))) ?_
      exact tB_X12_map_161 hG hP hk78 h
    · have h := sx_pos c7 h
      refine sx_iconst (pc := 157) (v := 2) dX12_map_157 (by decide) ?_
      refine sx_goto (pc := 158) (tgt := 163) dX12_map_158 (by decide) ?_
      refine sx_wk (sx_s1 sx_m0 (sx_s1 sx_m1 (sx_s1 sx_m2 (sx_s1 sx_m3 (sx_s1 sx_m4 (sx_s1 sx_m5 (sx_s1 sx_m6 (sx_s1 sx_m7 sx_s0)))))))) ?_
      exact tB_X12_map_163 hG hP hk78 h
def B_X12_map_130 (N : Nat) (k78 : Int32 → Int32 → Int32 → Int32 → Int64 → Int32 → sv_V → Option (Int32 × sv_V)) (l1 : Int32) (l2 : Int32) (l3 : Int32) (l4 : Int32) (l5 : Int64) (l7 : Int32) (l8 : Int32) (l9 : Int32) (l10 : Int32) (V : sv_V) : Option (Int32 × sv_V) := if l9 = (3 : Int32) then (if l10 = (1 : Int32) then (B_X12_map_163 N k78 l1 l2 l3 l4 l5 l7 l8 (1 : Int32) V) else (B_X12_map_146 N k78 l1 l2 l3 l4 l5 l7 l8 l9 l10 V)) else (B_X12_map_146 N k78 l1 l2 l3 l4 l5 l7 l8 l9 l10 V)
set_option maxRecDepth 20000 in
theorem tB_X12_map_130 {g : sx_G} (hG : sx_Go g) {P : Option Value → sv_V → Prop} {r : Int32} {Vr : sv_V} (hP : P (some (.int r)) Vr) {N : Nat} {k78 : Int32 → Int32 → Int32 → Int32 → Int64 → Int32 → sv_V → Option (Int32 × sv_V)} (hk78 : ∀ (l1 : Int32) (l2 : Int32) (l3 : Int32) (l4 : Int32) (l5 : Int64) (l7 : Int32) (V : sv_V), k78 l1 l2 l3 l4 l5 l7 V = some (r, Vr) → sv_N g qX12_map 4 78 [(0, .ref 146), (1, .int l1), (2, .int l2), (3, .int l3), (4, .int l4), (5, .long l5), (7, .int l7)] [] V P) {l1 : Int32} {l2 : Int32} {l3 : Int32} {l4 : Int32} {l5 : Int64} {l7 : Int32} {l8 : Int32} {l9 : Int32} {l10 : Int32} {V : sv_V} (h : B_X12_map_130 N k78 l1 l2 l3 l4 l5 l7 l8 l9 l10 V = some (r, Vr)) : sv_N g qX12_map 4 130 [(0, .ref 146), (1, .int l1), (2, .int l2), (3, .int l3), (4, .int l4), (5, .long l5), (7, .int l7), (8, .int l8), (9, .int l9), (10, .int l10)] [] V P := by
  unfold B_X12_map_130 at h
  refine sx_iload (pc := 130) dX12_map_130 sx_m8 ?_
  refine sx_iconst (pc := 132) (v := 3) dX12_map_132 (by decide) ?_
  refine sx_icmp_ne (pc := 133) (tgt := 146) dX12_map_133 (by decide) (fun c8 => ?_) (fun c8 => ?_)
  · have h := sx_neg c8 h
    refine sx_wk (sx_s1 sx_m0 (sx_s1 sx_m1 (sx_s1 sx_m2 (sx_s1 sx_m3 (sx_s1 sx_m4 (sx_s1 sx_m5 (sx_s1 sx_m6 (sx_s1 sx_m7 (sx_s1 sx_m8 (sx_s1 sx_m9 sx_s0)))))))))) ?_
    exact tB_X12_map_146 hG hP hk78 h
  · have h := sx_pos c8 h
    refine sx_iload (pc := 136) dX12_map_136 sx_m9 ?_
    refine sx_iconst (pc := 138) (v := 1) dX12_map_138 (by decide) ?_
    refine sx_icmp_ne (pc := 139) (tgt := 146) dX12_map_139 (by decide) (fun c9 => ?_) (fun c9 => ?_)
    · have h := sx_neg c9 h
      refine sx_wk (sx_s1 sx_m0 (sx_s1 sx_m1 (sx_s1 sx_m2 (sx_s1 sx_m3 (sx_s1 sx_m4 (sx_s1 sx_m5 (sx_s1 sx_m6 (sx_s1 sx_m7 (sx_s1 sx_m8 (sx_s1 sx_m9 sx_s0)))))))))) ?_
      exact tB_X12_map_146 hG hP hk78 h
    · have h := sx_pos c9 h
      refine sx_iconst (pc := 142) (v := 1) dX12_map_142 (by decide) ?_
      refine sx_goto (pc := 143) (tgt := 163) dX12_map_143 (by decide) ?_
      refine sx_wk (sx_s1 sx_m0 (sx_s1 sx_m1 (sx_s1 sx_m2 (sx_s1 sx_m3 (sx_s1 sx_m4 (sx_s1 sx_m5 (sx_s1 sx_m6 (sx_s1 sx_m7 sx_s0)))))))) ?_
      exact tB_X12_map_163 hG hP hk78 h
def B_X12_map_316 (N : Nat)   (V : sv_V) : Option (Int32 × sv_V) := some ((0 : Int32), V)
set_option maxRecDepth 20000 in
theorem tB_X12_map_316 {g : sx_G} (hG : sx_Go g) {P : Option Value → sv_V → Prop} {r : Int32} {Vr : sv_V} (hP : P (some (.int r)) Vr) {N : Nat}    {V : sv_V} (h : B_X12_map_316 N   V = some (r, Vr)) : sv_N g qX12_map 4 316 [] [] V P := by
  unfold B_X12_map_316 at h
  refine sx_iconst (pc := 316) (v := 0) dX12_map_316 (by decide) ?_
  refine sx_goto (pc := 317) (tgt := 343) dX12_map_317 (by decide) ?_
  exact sv_zret (pc := 343) dX12_map_343 rfl rfl h hP
def B_X12_map_244 (N : Nat)  (l2 : Int32) (l5 : Int64) (s1 : Int32) (V : sv_V) : Option (Int32 × sv_V) := sx_let (sv_I V 146 22 s1) (fun V10 => sx_let (l2 - l5.toInt32) (fun x11 => (F_X12_u2 (V10.1 146 21) V10).bind (fun (x14, V12) => if x14 = (V12.1 146 22) then (if (V12.1 146 22) = 0 then ((F_X12_u2 ((V12.1 146 21) + (2 : Int32)) V12).bind (fun (x28, V26) => if x28 = (262 : Int32) then (if x11 < (262 : Int32) then (B_X12_map_316 N   V26) else ((F_X12_setMany (256 : Int32) V26).bind (fun (x33, V31) => if x33 = 0 then (B_X12_map_316 N   V31) else (some ((1 : Int32), V31))))) else (B_X12_map_316 N   V26))) else (if (V12.1 146 22) = (4 : Int32) then ((F_X12_segments N x11 V12).bind (fun (x24, V22) => if sv_bl x24 = true then some (x24, V22) else none)) else ((F_X12_groups N x11 V12).bind (fun (x20, V18) => if sv_bl x20 = true then some (x20, V18) else none)))) else (some ((0 : Int32), V12)))))
set_option maxRecDepth 20000 in
theorem tB_X12_map_244 {g : sx_G} (hG : sx_Go g) {P : Option Value → sv_V → Prop} {r : Int32} {Vr : sv_V} (hP : P (some (.int r)) Vr) {N : Nat}   {l2 : Int32} {l5 : Int64} {s1 : Int32} {V : sv_V} (h : B_X12_map_244 N  l2 l5 s1 V = some (r, Vr)) : sv_N g qX12_map 4 244 [(0, .ref 146), (2, .int l2), (5, .long l5)] [.int s1, .ref 146] V P := by
  unfold B_X12_map_244 at h
  obtain ⟨V10, hV10⟩ : ∃ z : sv_V, z = sv_I V 146 22 s1 := ⟨_, rfl⟩
  have h := sx_letE hV10 h
  refine sv_putI (pc := 244) hG dX12_map_244 f_12_387 lay_146 rfl hV10 ?_
  refine sx_iload_n (pc := 247) dX12_map_247 sx_m1 ?_
  refine sx_lload (pc := 248) dX12_map_248 sx_m2 ?_
  refine sx_l2i (pc := 250) dX12_map_250 ?_
  refine sx_isub (pc := 251) dX12_map_251 ?_
  refine sv_tI (fun x11 hx11 => ?_)
  have h := sx_letE hx11 h
  refine sx_istore (pc := 252) (lo' := [(7, .int x11), (0, .ref 146), (2, .int l2), (5, .long l5)]) dX12_map_252 (by decide) rfl ?_
  refine sx_aload_n (pc := 254) dX12_map_254 sx_m1 ?_
  refine sx_aload_n (pc := 255) dX12_map_255 sx_m1 ?_
  refine sv_getI (pc := 256) hG dX12_map_256 f_12_384 lay_146 rfl ?_
  obtain ⟨⟨x14, V12⟩, g13, h⟩ := sx_bnd h
  refine sv_cV (pc := 259) (y := qX12_u2) (o := (some (.int x14))) (as := [.int (V10.1 146 21)]) (V1 := V12) hG dX12_map_259 l_X12_213 y0X12_u2 yvX12_u2 rfl (Nat.le_of_ble_eq_true rfl) lay_146 kr_12 (by decide) (Nat.le_of_ble_eq_true rfl) rfl rfl rfl (t_X12_u2 hG ⟨rfl, rfl⟩ g13) ?_
  refine sx_aload_n (pc := 262) dX12_map_262 sx_m1 ?_
  refine sv_getI (pc := 263) hG dX12_map_263 f_12_387 lay_146 rfl ?_
  refine sx_icmp_eq (pc := 266) (tgt := 271) dX12_map_266 (by decide) (fun c15 => ?_) (fun c15 => ?_)
  · have h := sx_pos c15 h
    refine sx_aload_n (pc := 271) dX12_map_271 sx_m1 ?_
    refine sv_getI (pc := 272) hG dX12_map_272 f_12_387 lay_146 rfl ?_
    refine sx_if_ne (pc := 275) (tgt := 320) dX12_map_275 (by decide) (fun c16 => ?_) (fun c16 => ?_)
    · have h := sx_neg c16 h
      refine sx_aload_n (pc := 320) dX12_map_320 sx_m1 ?_
      refine sv_getI (pc := 321) hG dX12_map_321 f_12_387 lay_146 rfl ?_
      refine sx_iconst (pc := 324) (v := 4) dX12_map_324 (by decide) ?_
      refine sx_icmp_ne (pc := 325) (tgt := 337) dX12_map_325 (by decide) (fun c17 => ?_) (fun c17 => ?_)
      · have h := sx_neg c17 h
        refine sx_aload_n (pc := 337) dX12_map_337 sx_m1 ?_
        refine sx_iload (pc := 338) dX12_map_338 sx_m0 ?_
        obtain ⟨⟨x20, V18⟩, g19, h⟩ := sx_bnd h
        refine sv_cV (pc := 340) (y := qX12_groups) (o := (some (.int x20))) (as := [.int x11]) (V1 := V18) hG dX12_map_340 l_X12_396 y0X12_groups yvX12_groups rfl (Nat.le_of_ble_eq_true rfl) lay_146 kr_12 (by decide) (Nat.le_of_ble_eq_true rfl) rfl rfl rfl (t_X12_groups hG ⟨rfl, rfl⟩ g19) ?_
        obtain ⟨g21, h⟩ := sx_grd h
        exact sv_zret (pc := 343) dX12_map_343 rfl g21 h hP
      · have h := sx_pos c17 h
        refine sx_aload_n (pc := 328) dX12_map_328 sx_m1 ?_
        refine sx_iload (pc := 329) dX12_map_329 sx_m0 ?_
        obtain ⟨⟨x24, V22⟩, g23, h⟩ := sx_bnd h
        refine sv_cV (pc := 331) (y := qX12_segments) (o := (some (.int x24))) (as := [.int x11]) (V1 := V22) hG dX12_map_331 l_X12_393 y0X12_segments yvX12_segments rfl (Nat.le_of_ble_eq_true rfl) lay_146 kr_12 (by decide) (Nat.le_of_ble_eq_true rfl) rfl rfl rfl (t_X12_segments hG ⟨rfl, rfl⟩ g23) ?_
        refine sx_goto (pc := 334) (tgt := 343) dX12_map_334 (by decide) ?_
        obtain ⟨g25, h⟩ := sx_grd h
        exact sv_zret (pc := 343) dX12_map_343 rfl g25 h hP
    · have h := sx_pos c16 h
      refine sx_aload_n (pc := 278) dX12_map_278 sx_m1 ?_
      refine sx_aload_n (pc := 279) dX12_map_279 sx_m1 ?_
      refine sv_getI (pc := 280) hG dX12_map_280 f_12_384 lay_146 rfl ?_
      refine sx_iconst (pc := 283) (v := 2) dX12_map_283 (by decide) ?_
      refine sx_iadd (pc := 284) dX12_map_284 ?_
      obtain ⟨⟨x28, V26⟩, g27, h⟩ := sx_bnd h
      refine sv_cV (pc := 285) (y := qX12_u2) (o := (some (.int x28))) (as := [.int ((V12.1 146 21) + (2 : Int32))]) (V1 := V26) hG dX12_map_285 l_X12_213 y0X12_u2 yvX12_u2 rfl (Nat.le_of_ble_eq_true rfl) lay_146 kr_12 (by decide) (Nat.le_of_ble_eq_true rfl) rfl rfl rfl (t_X12_u2 hG ⟨rfl, rfl⟩ g27) ?_
      refine sx_sipush (pc := 288) (v := 262) dX12_map_288 (by decide) ?_
      refine sx_icmp_ne (pc := 291) (tgt := 316) dX12_map_291 (by decide) (fun c29 => ?_) (fun c29 => ?_)
      · have h := sx_neg c29 h
        refine sx_wk sx_s0 ?_
        exact tB_X12_map_316 hG hP  h
      · have h := sx_pos c29 h
        refine sx_iload (pc := 294) dX12_map_294 sx_m0 ?_
        refine sx_sipush (pc := 296) (v := 262) dX12_map_296 (by decide) ?_
        refine sx_icmp_lt (pc := 299) (tgt := 316) dX12_map_299 (by decide) (fun c30 => ?_) (fun c30 => ?_)
        · have h := sx_pos c30 h
          refine sx_wk sx_s0 ?_
          exact tB_X12_map_316 hG hP  h
        · have h := sx_neg c30 h
          refine sx_aload_n (pc := 302) dX12_map_302 sx_m1 ?_
          refine sx_sipush (pc := 303) (v := 256) dX12_map_303 (by decide) ?_
          obtain ⟨⟨x33, V31⟩, g32, h⟩ := sx_bnd h
          refine sv_cV (pc := 306) (y := qX12_setMany) (o := (some (.int x33))) (as := [.int (256 : Int32)]) (V1 := V31) hG dX12_map_306 l_X12_390 y0X12_setMany yvX12_setMany rfl (Nat.le_of_ble_eq_true rfl) lay_146 kr_12 (by decide) (Nat.le_of_ble_eq_true rfl) rfl rfl rfl (t_X12_setMany hG ⟨rfl, rfl⟩ g32) ?_
          refine sx_if_eq (pc := 309) (tgt := 316) dX12_map_309 (by decide) (fun c34 => ?_) (fun c34 => ?_)
          · have h := sx_pos c34 h
            refine sx_wk sx_s0 ?_
            exact tB_X12_map_316 hG hP  h
          · have h := sx_neg c34 h
            refine sx_iconst (pc := 312) (v := 1) dX12_map_312 (by decide) ?_
            refine sx_goto (pc := 313) (tgt := 343) dX12_map_313 (by decide) ?_
            exact sv_zret (pc := 343) dX12_map_343 rfl rfl h hP
  · have h := sx_neg c15 h
    refine sx_iconst (pc := 269) (v := 0) dX12_map_269 (by decide) ?_
    exact sv_zret (pc := 270) dX12_map_270 rfl rfl h hP
def B_X12_map_78 (N : Nat) (k78 : Int32 → Int32 → Int32 → Int32 → Int64 → Int32 → sv_V → Option (Int32 × sv_V)) (l1 : Int32) (l2 : Int32) (l3 : Int32) (l4 : Int32) (l5 : Int64) (l7 : Int32) (V : sv_V) : Option (Int32 × sv_V) := if l3 ≤ l7 then (if l4 = (9 : Int32) then (some ((0 : Int32), V)) else (if (lg_cmp (l5 + (6 : Int64)) l2.toInt64) ≤ 0 then (sx_let (sv_I V 146 21 (l1 + l5.toInt32)) (fun V38 => if l4 = 0 then (B_X12_map_244 N  l2 l5 (12 : Int32) V38) else (if l4 = (1 : Int32) then (B_X12_map_244 N  l2 l5 (4 : Int32) V38) else (B_X12_map_244 N  l2 l5 (0 : Int32) V38)))) else (some ((0 : Int32), V)))) else (sx_let ((l1 + (4 : Int32)) + ((8 : Int32) * l7)) (fun x41 => (F_X12_u2 x41 V).bind (fun (x44, V42) => (F_X12_u2 (x41 + (2 : Int32)) V42).bind (fun (x47, V45) => if x44 = (3 : Int32) then (if x47 = (10 : Int32) then (B_X12_map_163 N k78 l1 l2 l3 l4 l5 l7 x41 (0 : Int32) V45) else (B_X12_map_130 N k78 l1 l2 l3 l4 l5 l7 x41 x44 x47 V45)) else (B_X12_map_130 N k78 l1 l2 l3 l4 l5 l7 x41 x44 x47 V45)))))
set_option maxRecDepth 20000 in
theorem tB_X12_map_78 {g : sx_G} (hG : sx_Go g) {P : Option Value → sv_V → Prop} {r : Int32} {Vr : sv_V} (hP : P (some (.int r)) Vr) {N : Nat} {k78 : Int32 → Int32 → Int32 → Int32 → Int64 → Int32 → sv_V → Option (Int32 × sv_V)} (hk78 : ∀ (l1 : Int32) (l2 : Int32) (l3 : Int32) (l4 : Int32) (l5 : Int64) (l7 : Int32) (V : sv_V), k78 l1 l2 l3 l4 l5 l7 V = some (r, Vr) → sv_N g qX12_map 4 78 [(0, .ref 146), (1, .int l1), (2, .int l2), (3, .int l3), (4, .int l4), (5, .long l5), (7, .int l7)] [] V P) {l1 : Int32} {l2 : Int32} {l3 : Int32} {l4 : Int32} {l5 : Int64} {l7 : Int32} {V : sv_V} (h : B_X12_map_78 N k78 l1 l2 l3 l4 l5 l7 V = some (r, Vr)) : sv_N g qX12_map 4 78 [(0, .ref 146), (1, .int l1), (2, .int l2), (3, .int l3), (4, .int l4), (5, .long l5), (7, .int l7)] [] V P := by
  unfold B_X12_map_78 at h
  refine sx_iload (pc := 78) dX12_map_78 sx_m6 ?_
  refine sx_iload_n (pc := 80) dX12_map_80 sx_m3 ?_
  refine sx_icmp_ge (pc := 81) (tgt := 192) dX12_map_81 (by decide) (fun c35 => ?_) (fun c35 => ?_)
  · have h := sx_pos c35 h
    refine sx_iload (pc := 192) dX12_map_192 sx_m4 ?_
    refine sx_bipush (pc := 194) (v := 9) dX12_map_194 (by decide) ?_
    refine sx_icmp_eq (pc := 196) (tgt := 211) dX12_map_196 (by decide) (fun c36 => ?_) (fun c36 => ?_)
    · have h := sx_pos c36 h
      refine sx_iconst (pc := 211) (v := 0) dX12_map_211 (by decide) ?_
      exact sv_zret (pc := 212) dX12_map_212 rfl rfl h hP
    · have h := sx_neg c36 h
      refine sx_lload (pc := 199) dX12_map_199 sx_m5 ?_
      refine sx_ldc2 (pc := 201) dX12_map_201 k_X12_382 ?_
      refine sx_ladd (pc := 204) dX12_map_204 ?_
      refine sx_iload_n (pc := 205) dX12_map_205 sx_m2 ?_
      refine sx_i2l (pc := 206) dX12_map_206 ?_
      refine sx_lcmp (pc := 207) dX12_map_207 ?_
      refine sx_if_le (pc := 208) (tgt := 213) dX12_map_208 (by decide) (fun c37 => ?_) (fun c37 => ?_)
      · have h := sx_pos c37 h
        refine sx_aload_n (pc := 213) dX12_map_213 sx_m0 ?_
        refine sx_iload_n (pc := 214) dX12_map_214 sx_m1 ?_
        refine sx_lload (pc := 215) dX12_map_215 sx_m5 ?_
        refine sx_l2i (pc := 217) dX12_map_217 ?_
        refine sx_iadd (pc := 218) dX12_map_218 ?_
        obtain ⟨V38, hV38⟩ : ∃ z : sv_V, z = sv_I V 146 21 (l1 + l5.toInt32) := ⟨_, rfl⟩
        have h := sx_letE hV38 h
        refine sv_putI (pc := 219) hG dX12_map_219 f_12_384 lay_146 rfl hV38 ?_
        refine sx_aload_n (pc := 222) dX12_map_222 sx_m0 ?_
        refine sx_iload (pc := 223) dX12_map_223 sx_m4 ?_
        refine sx_if_ne (pc := 225) (tgt := 233) dX12_map_225 (by decide) (fun c39 => ?_) (fun c39 => ?_)
        · have h := sx_neg c39 h
          refine sx_iload (pc := 233) dX12_map_233 sx_m4 ?_
          refine sx_iconst (pc := 235) (v := 1) dX12_map_235 (by decide) ?_
          refine sx_icmp_ne (pc := 236) (tgt := 243) dX12_map_236 (by decide) (fun c40 => ?_) (fun c40 => ?_)
          · have h := sx_neg c40 h
            refine sx_iconst (pc := 243) (v := 0) dX12_map_243 (by decide) ?_
            refine sx_wk (sx_s1 sx_m0 (sx_s1 sx_m2 (sx_s1 sx_m5 sx_s0))) ?_
            exact tB_X12_map_244 hG hP  h
          · have h := sx_pos c40 h
            refine sx_iconst (pc := 239) (v := 4) dX12_map_239 (by decide) ?_
            refine sx_goto (pc := 240) (tgt := 244) dX12_map_240 (by decide) ?_
            refine sx_wk (sx_s1 sx_m0 (sx_s1 sx_m2 (sx_s1 sx_m5 sx_s0))) ?_
            exact tB_X12_map_244 hG hP  h
        · have h := sx_pos c39 h
          refine sx_bipush (pc := 228) (v := 12) dX12_map_228 (by decide) ?_
          refine sx_goto (pc := 230) (tgt := 244) dX12_map_230 (by decide) ?_
          refine sx_wk (sx_s1 sx_m0 (sx_s1 sx_m2 (sx_s1 sx_m5 sx_s0))) ?_
          exact tB_X12_map_244 hG hP  h
      · have h := sx_neg c37 h
        refine sx_iconst (pc := 211) (v := 0) dX12_map_211 (by decide) ?_
        exact sv_zret (pc := 212) dX12_map_212 rfl rfl h hP
  · have h := sx_neg c35 h
    refine sx_iload_n (pc := 84) dX12_map_84 sx_m1 ?_
    refine sx_iconst (pc := 85) (v := 4) dX12_map_85 (by decide) ?_
    refine sx_iadd (pc := 86) dX12_map_86 ?_
    refine sx_bipush (pc := 87) (v := 8) dX12_map_87 (by decide) ?_
    refine sx_iload (pc := 89) dX12_map_89 sx_m6 ?_
    refine sx_imul (pc := 91) dX12_map_91 ?_
    refine sx_iadd (pc := 92) dX12_map_92 ?_
    refine sv_tI (fun x41 hx41 => ?_)
    have h := sx_letE hx41 h
    refine sx_istore (pc := 93) (lo' := [(8, .int x41), (0, .ref 146), (1, .int l1), (2, .int l2), (3, .int l3), (4, .int l4), (5, .long l5), (7, .int l7)]) dX12_map_93 (by decide) rfl ?_
    refine sx_aload_n (pc := 95) dX12_map_95 sx_m1 ?_
    refine sx_iload (pc := 96) dX12_map_96 sx_m0 ?_
    obtain ⟨⟨x44, V42⟩, g43, h⟩ := sx_bnd h
    refine sv_cV (pc := 98) (y := qX12_u2) (o := (some (.int x44))) (as := [.int x41]) (V1 := V42) hG dX12_map_98 l_X12_213 y0X12_u2 yvX12_u2 rfl (Nat.le_of_ble_eq_true rfl) lay_146 kr_12 (by decide) (Nat.le_of_ble_eq_true rfl) rfl rfl rfl (t_X12_u2 hG ⟨rfl, rfl⟩ g43) ?_
    refine sx_istore (pc := 101) (lo' := [(9, .int x44), (8, .int x41), (0, .ref 146), (1, .int l1), (2, .int l2), (3, .int l3), (4, .int l4), (5, .long l5), (7, .int l7)]) dX12_map_101 (by decide) rfl ?_
    refine sx_aload_n (pc := 103) dX12_map_103 sx_m2 ?_
    refine sx_iload (pc := 104) dX12_map_104 sx_m1 ?_
    refine sx_iconst (pc := 106) (v := 2) dX12_map_106 (by decide) ?_
    refine sx_iadd (pc := 107) dX12_map_107 ?_
    obtain ⟨⟨x47, V45⟩, g46, h⟩ := sx_bnd h
    refine sv_cV (pc := 108) (y := qX12_u2) (o := (some (.int x47))) (as := [.int (x41 + (2 : Int32))]) (V1 := V45) hG dX12_map_108 l_X12_213 y0X12_u2 yvX12_u2 rfl (Nat.le_of_ble_eq_true rfl) lay_146 kr_12 (by decide) (Nat.le_of_ble_eq_true rfl) rfl rfl rfl (t_X12_u2 hG ⟨rfl, rfl⟩ g46) ?_
    refine sx_istore (pc := 111) (lo' := [(10, .int x47), (9, .int x44), (8, .int x41), (0, .ref 146), (1, .int l1), (2, .int l2), (3, .int l3), (4, .int l4), (5, .long l5), (7, .int l7)]) dX12_map_111 (by decide) rfl ?_
    refine sx_iload (pc := 113) dX12_map_113 sx_m1 ?_
    refine sx_iconst (pc := 115) (v := 3) dX12_map_115 (by decide) ?_
    refine sx_icmp_ne (pc := 116) (tgt := 130) dX12_map_116 (by decide) (fun c48 => ?_) (fun c48 => ?_)
    · have h := sx_neg c48 h
      refine sx_wk (sx_s1 sx_m3 (sx_s1 sx_m4 (sx_s1 sx_m5 (sx_s1 sx_m6 (sx_s1 sx_m7 (sx_s1 sx_m8 (sx_s1 sx_m9 (sx_s1 sx_m2 (sx_s1 sx_m1 (sx_s1 sx_m0 sx_s0)))))))))) ?_
      exact tB_X12_map_130 hG hP hk78 h
    · have h := sx_pos c48 h
      refine sx_iload (pc := 119) dX12_map_119 sx_m0 ?_
      refine sx_bipush (pc := 121) (v := 10) dX12_map_121 (by decide) ?_
      refine sx_icmp_ne (pc := 123) (tgt := 130) dX12_map_123 (by decide) (fun c49 => ?_) (fun c49 => ?_)
      · have h := sx_neg c49 h
        refine sx_wk (sx_s1 sx_m3 (sx_s1 sx_m4 (sx_s1 sx_m5 (sx_s1 sx_m6 (sx_s1 sx_m7 (sx_s1 sx_m8 (sx_s1 sx_m9 (sx_s1 sx_m2 (sx_s1 sx_m1 (sx_s1 sx_m0 sx_s0)))))))))) ?_
        exact tB_X12_map_130 hG hP hk78 h
      · have h := sx_pos c49 h
        refine sx_iconst (pc := 126) (v := 0) dX12_map_126 (by decide) ?_
        refine sx_goto (pc := 127) (tgt := 163) dX12_map_127 (by decide) ?_
        refine sx_wk (sx_s1 sx_m3 (sx_s1 sx_m4 (sx_s1 sx_m5 (sx_s1 sx_m6 (sx_s1 sx_m7 (sx_s1 sx_m8 (sx_s1 sx_m9 (sx_s1 sx_m2 sx_s0)))))))) ?_
        exact tB_X12_map_163 hG hP hk78 h
theorem tL_X12_map_78 {g : sx_G} (hG : sx_Go g) {P : Option Value → sv_V → Prop} {r : Int32} {Vr : sv_V} (hP : P (some (.int r)) Vr) {N : Nat}   : ∀ (n : Nat) (l1 : Int32) (l2 : Int32) (l3 : Int32) (l4 : Int32) (l5 : Int64) (l7 : Int32) (V : sv_V), sx_lp7 (B_X12_map_78 N ) n l1 l2 l3 l4 l5 l7 V = some (r, Vr) → sv_N g qX12_map 4 78 [(0, .ref 146), (1, .int l1), (2, .int l2), (3, .int l3), (4, .int l4), (5, .long l5), (7, .int l7)] [] V P :=
  sx_lp7_ind (fun k0 ih _ _ _ _ _ _ V h => tB_X12_map_78 hG hP ih h)
def B_X12_map_30 (N : Nat)  (l1 : Int32) (l2 : Int32) (s0 : Int32) (V : sv_V) : Option (Int32 × sv_V) := if l2 < (4 : Int32) then (some ((0 : Int32), V)) else ((F_X12_u2 l1 V).bind (fun (x53, V51) => if x53 = 0 then ((F_X12_in s0.toInt64 (1 : Int64) (8 : Int64) V51).bind (fun (x57, V55) => if x57 = 0 then (some ((0 : Int32), V55)) else (if ((4 : Int32) + ((8 : Int32) * s0)) ≤ l2 then (sx_lp7 (B_X12_map_78 N ) N l1 l2 s0 (9 : Int32) (0 : Int64) (0 : Int32) V55) else (some ((0 : Int32), V55))))) else (some ((0 : Int32), V51))))
set_option maxRecDepth 20000 in
theorem tB_X12_map_30 {g : sx_G} (hG : sx_Go g) {P : Option Value → sv_V → Prop} {r : Int32} {Vr : sv_V} (hP : P (some (.int r)) Vr) {N : Nat}   {l1 : Int32} {l2 : Int32} {s0 : Int32} {V : sv_V} (h : B_X12_map_30 N  l1 l2 s0 V = some (r, Vr)) : sv_N g qX12_map 4 30 [(0, .ref 146), (1, .int l1), (2, .int l2)] [.int s0] V P := by
  unfold B_X12_map_30 at h
  refine sx_istore_n (pc := 30) (lo' := [(3, .int s0), (0, .ref 146), (1, .int l1), (2, .int l2)]) dX12_map_30 (by decide) rfl ?_
  refine sx_iload_n (pc := 31) dX12_map_31 sx_m3 ?_
  refine sx_iconst (pc := 32) (v := 4) dX12_map_32 (by decide) ?_
  refine sx_icmp_lt (pc := 33) (tgt := 66) dX12_map_33 (by decide) (fun c50 => ?_) (fun c50 => ?_)
  · have h := sx_pos c50 h
    refine sx_iconst (pc := 66) (v := 0) dX12_map_66 (by decide) ?_
    exact sv_zret (pc := 67) dX12_map_67 rfl rfl h hP
  · have h := sx_neg c50 h
    refine sx_aload_n (pc := 36) dX12_map_36 sx_m1 ?_
    refine sx_iload_n (pc := 37) dX12_map_37 sx_m2 ?_
    obtain ⟨⟨x53, V51⟩, g52, h⟩ := sx_bnd h
    refine sv_cV (pc := 38) (y := qX12_u2) (o := (some (.int x53))) (as := [.int l1]) (V1 := V51) hG dX12_map_38 l_X12_213 y0X12_u2 yvX12_u2 rfl (Nat.le_of_ble_eq_true rfl) lay_146 kr_12 (by decide) (Nat.le_of_ble_eq_true rfl) rfl rfl rfl (t_X12_u2 hG ⟨rfl, rfl⟩ g52) ?_
    refine sx_if_ne (pc := 41) (tgt := 66) dX12_map_41 (by decide) (fun c54 => ?_) (fun c54 => ?_)
    · have h := sx_neg c54 h
      refine sx_iconst (pc := 66) (v := 0) dX12_map_66 (by decide) ?_
      exact sv_zret (pc := 67) dX12_map_67 rfl rfl h hP
    · have h := sx_pos c54 h
      refine sx_iload_n (pc := 44) dX12_map_44 sx_m0 ?_
      refine sx_i2l (pc := 45) dX12_map_45 ?_
      refine sx_lconst (pc := 46) (v := 1) dX12_map_46 rfl ?_
      refine sx_ldc2 (pc := 47) dX12_map_47 k_X12_380 ?_
      obtain ⟨⟨x57, V55⟩, g56, h⟩ := sx_bnd h
      refine sv_cS (pc := 50) (y := qX12_in) (o := (some (.int x57))) (as := [.long s0.toInt64, .long (1 : Int64), .long (8 : Int64)]) (V1 := V55) dX12_map_50 l_X12_263 y0X12_in ysX12_in rfl (Nat.le_of_ble_eq_true rfl) (by decide) (Nat.le_of_ble_eq_true rfl) rfl rfl rfl (t_X12_in hG ⟨rfl, rfl⟩ g56) ?_
      refine sx_if_eq (pc := 53) (tgt := 66) dX12_map_53 (by decide) (fun c58 => ?_) (fun c58 => ?_)
      · have h := sx_pos c58 h
        refine sx_iconst (pc := 66) (v := 0) dX12_map_66 (by decide) ?_
        exact sv_zret (pc := 67) dX12_map_67 rfl rfl h hP
      · have h := sx_neg c58 h
        refine sx_iload_n (pc := 56) dX12_map_56 sx_m3 ?_
        refine sx_iconst (pc := 57) (v := 4) dX12_map_57 (by decide) ?_
        refine sx_bipush (pc := 58) (v := 8) dX12_map_58 (by decide) ?_
        refine sx_iload_n (pc := 60) dX12_map_60 sx_m0 ?_
        refine sx_imul (pc := 61) dX12_map_61 ?_
        refine sx_iadd (pc := 62) dX12_map_62 ?_
        refine sx_icmp_ge (pc := 63) (tgt := 68) dX12_map_63 (by decide) (fun c59 => ?_) (fun c59 => ?_)
        · have h := sx_pos c59 h
          refine sx_bipush (pc := 68) (v := 9) dX12_map_68 (by decide) ?_
          refine sx_istore (pc := 70) (lo' := [(4, .int (9 : Int32)), (3, .int s0), (0, .ref 146), (1, .int l1), (2, .int l2)]) dX12_map_70 (by decide) rfl ?_
          refine sx_lconst (pc := 72) (v := 0) dX12_map_72 rfl ?_
          refine sx_lstore (pc := 73) (lo' := [(5, .long (0 : Int64)), (4, .int (9 : Int32)), (3, .int s0), (0, .ref 146), (1, .int l1), (2, .int l2)]) dX12_map_73 (by decide) rfl ?_
          refine sx_iconst (pc := 75) (v := 0) dX12_map_75 (by decide) ?_
          refine sx_istore (pc := 76) (lo' := [(7, .int (0 : Int32)), (5, .long (0 : Int64)), (4, .int (9 : Int32)), (3, .int s0), (0, .ref 146), (1, .int l1), (2, .int l2)]) dX12_map_76 (by decide) rfl ?_
          refine sx_wk (sx_s1 sx_m4 (sx_s1 sx_m5 (sx_s1 sx_m6 (sx_s1 sx_m3 (sx_s1 sx_m2 (sx_s1 sx_m1 (sx_s1 sx_m0 sx_s0))))))) ?_
          exact tL_X12_map_78 hG hP  N _ _ _ _ _ _ _ h
        · have h := sx_neg c59 h
          refine sx_iconst (pc := 66) (v := 0) dX12_map_66 (by decide) ?_
          exact sv_zret (pc := 67) dX12_map_67 rfl rfl h hP
def F_X12_map (N : Nat)  (V : sv_V) : Option (Int32 × sv_V) := (F_X12_beginOf N (1668112752 : Int32) V).bind (fun (x62, V60) => (F_X12_lengthOf N (1668112752 : Int32) V60).bind (fun (x65, V63) => if x65 < (4 : Int32) then (B_X12_map_30 N  x62 x65 (0 : Int32) V63) else ((F_X12_u2 (x62 + (2 : Int32)) V63).bind (fun (x69, V67) => B_X12_map_30 N  x62 x65 x69 V67))))
set_option maxRecDepth 20000 in
theorem t_X12_map {g : sx_G} (hG : sx_Go g) {P : Option Value → sv_V → Prop} {r : Int32} {Vr : sv_V} (hP : P (some (.int r)) Vr) {N : Nat}  {V : sv_V} (h : F_X12_map N  V = some (r, Vr)) : sv_N g qX12_map 4 0 [(0, .ref 146)] [] V P := by
  unfold F_X12_map at h
  refine sx_aload_n (pc := 0) dX12_map_0 sx_m0 ?_
  refine sx_ldc (pc := 1) dX12_map_1 k_X12_239 ?_
  obtain ⟨⟨x62, V60⟩, g61, h⟩ := sx_bnd h
  refine sv_cV (pc := 3) (y := qX12_beginOf) (o := (some (.int x62))) (as := [.int (1668112752 : Int32)]) (V1 := V60) hG dX12_map_3 l_X12_251 y0X12_beginOf yvX12_beginOf rfl (Nat.le_of_ble_eq_true rfl) lay_146 kr_12 (by decide) (Nat.le_of_ble_eq_true rfl) rfl rfl rfl (t_X12_beginOf hG ⟨rfl, rfl⟩ g61) ?_
  refine sx_istore_n (pc := 6) (lo' := [(1, .int x62), (0, .ref 146)]) dX12_map_6 (by decide) rfl ?_
  refine sx_aload_n (pc := 7) dX12_map_7 sx_m1 ?_
  refine sx_ldc (pc := 8) dX12_map_8 k_X12_239 ?_
  obtain ⟨⟨x65, V63⟩, g64, h⟩ := sx_bnd h
  refine sv_cV (pc := 10) (y := qX12_lengthOf) (o := (some (.int x65))) (as := [.int (1668112752 : Int32)]) (V1 := V63) hG dX12_map_10 l_X12_257 y0X12_lengthOf yvX12_lengthOf rfl (Nat.le_of_ble_eq_true rfl) lay_146 kr_12 (by decide) (Nat.le_of_ble_eq_true rfl) rfl rfl rfl (t_X12_lengthOf hG ⟨rfl, rfl⟩ g64) ?_
  refine sx_istore_n (pc := 13) (lo' := [(2, .int x65), (1, .int x62), (0, .ref 146)]) dX12_map_13 (by decide) rfl ?_
  refine sx_iload_n (pc := 14) dX12_map_14 sx_m0 ?_
  refine sx_iconst (pc := 15) (v := 4) dX12_map_15 (by decide) ?_
  refine sx_icmp_lt (pc := 16) (tgt := 29) dX12_map_16 (by decide) (fun c66 => ?_) (fun c66 => ?_)
  · have h := sx_pos c66 h
    refine sx_iconst (pc := 29) (v := 0) dX12_map_29 (by decide) ?_
    refine sx_wk (sx_s1 sx_m2 (sx_s1 sx_m1 (sx_s1 sx_m0 sx_s0))) ?_
    exact tB_X12_map_30 hG hP  h
  · have h := sx_neg c66 h
    refine sx_aload_n (pc := 19) dX12_map_19 sx_m2 ?_
    refine sx_iload_n (pc := 20) dX12_map_20 sx_m1 ?_
    refine sx_iconst (pc := 21) (v := 2) dX12_map_21 (by decide) ?_
    refine sx_iadd (pc := 22) dX12_map_22 ?_
    obtain ⟨⟨x69, V67⟩, g68, h⟩ := sx_bnd h
    refine sv_cV (pc := 23) (y := qX12_u2) (o := (some (.int x69))) (as := [.int (x62 + (2 : Int32))]) (V1 := V67) hG dX12_map_23 l_X12_213 y0X12_u2 yvX12_u2 rfl (Nat.le_of_ble_eq_true rfl) lay_146 kr_12 (by decide) (Nat.le_of_ble_eq_true rfl) rfl rfl rfl (t_X12_u2 hG ⟨rfl, rfl⟩ g68) ?_
    refine sx_goto (pc := 26) (tgt := 30) dX12_map_26 (by decide) ?_
    refine sx_wk (sx_s1 sx_m2 (sx_s1 sx_m1 (sx_s1 sx_m0 sx_s0))) ?_
    exact tB_X12_map_30 hG hP  h
def ncX12_settings : Nat := 53176019696693298757952532769016597868489263795337842576710838862076047880585865610488879168068763490881506827668877863668090748949682653890534714876511411533306398464254339789037758733293674691563818
theorem kcX12_settings : CK cX12_settings ncX12_settings 83 := ⟨by decide +kernel, by decide +kernel⟩
theorem dX12_settings_0 : decode cX12_settings 0 = .ok (.aload_n 0, 1) := dl_o42 kcX12_settings (by decide +kernel)
theorem dX12_settings_1 : decode cX12_settings 1 = .ok (.sipush 16384, 3) := dl_o17 kcX12_settings 16384 (by decide +kernel) (by decide +kernel)
theorem dX12_settings_4 : decode cX12_settings 4 = .ok (.putfield 433, 3) := dl_o181 kcX12_settings (by decide +kernel)
theorem dX12_settings_7 : decode cX12_settings 7 = .ok (.aload_n 0, 1) := dl_o42 kcX12_settings (by decide +kernel)
theorem dX12_settings_8 : decode cX12_settings 8 = .ok (.iconst 0, 1) := dl_o3 kcX12_settings (by decide +kernel)
theorem dX12_settings_9 : decode cX12_settings 9 = .ok (.putfield 436, 3) := dl_o181 kcX12_settings (by decide +kernel)
theorem dX12_settings_12 : decode cX12_settings 12 = .ok (.aload_n 0, 1) := dl_o42 kcX12_settings (by decide +kernel)
theorem dX12_settings_13 : decode cX12_settings 13 = .ok (.sipush 16384, 3) := dl_o17 kcX12_settings 16384 (by decide +kernel) (by decide +kernel)
theorem dX12_settings_16 : decode cX12_settings 16 = .ok (.putfield 439, 3) := dl_o181 kcX12_settings (by decide +kernel)
theorem dX12_settings_19 : decode cX12_settings 19 = .ok (.aload_n 0, 1) := dl_o42 kcX12_settings (by decide +kernel)
theorem dX12_settings_20 : decode cX12_settings 20 = .ok (.iconst 0, 1) := dl_o3 kcX12_settings (by decide +kernel)
theorem dX12_settings_21 : decode cX12_settings 21 = .ok (.putfield 442, 3) := dl_o181 kcX12_settings (by decide +kernel)
theorem dX12_settings_24 : decode cX12_settings 24 = .ok (.aload_n 0, 1) := dl_o42 kcX12_settings (by decide +kernel)
theorem dX12_settings_25 : decode cX12_settings 25 = .ok (.sipush 16384, 3) := dl_o17 kcX12_settings 16384 (by decide +kernel) (by decide +kernel)
theorem dX12_settings_28 : decode cX12_settings 28 = .ok (.putfield 445, 3) := dl_o181 kcX12_settings (by decide +kernel)
theorem dX12_settings_31 : decode cX12_settings 31 = .ok (.aload_n 0, 1) := dl_o42 kcX12_settings (by decide +kernel)
theorem dX12_settings_32 : decode cX12_settings 32 = .ok (.iconst 0, 1) := dl_o3 kcX12_settings (by decide +kernel)
theorem dX12_settings_33 : decode cX12_settings 33 = .ok (.putfield 448, 3) := dl_o181 kcX12_settings (by decide +kernel)
theorem dX12_settings_36 : decode cX12_settings 36 = .ok (.aload_n 0, 1) := dl_o42 kcX12_settings (by decide +kernel)
theorem dX12_settings_37 : decode cX12_settings 37 = .ok (.iconst 0, 1) := dl_o3 kcX12_settings (by decide +kernel)
theorem dX12_settings_38 : decode cX12_settings 38 = .ok (.putfield 451, 3) := dl_o181 kcX12_settings (by decide +kernel)
theorem dX12_settings_41 : decode cX12_settings 41 = .ok (.aload_n 0, 1) := dl_o42 kcX12_settings (by decide +kernel)
theorem dX12_settings_42 : decode cX12_settings 42 = .ok (.iconst 0, 1) := dl_o3 kcX12_settings (by decide +kernel)
theorem dX12_settings_43 : decode cX12_settings 43 = .ok (.putfield 454, 3) := dl_o181 kcX12_settings (by decide +kernel)
theorem dX12_settings_46 : decode cX12_settings 46 = .ok (.aload_n 0, 1) := dl_o42 kcX12_settings (by decide +kernel)
theorem dX12_settings_47 : decode cX12_settings 47 = .ok (.iconst 0, 1) := dl_o3 kcX12_settings (by decide +kernel)
theorem dX12_settings_48 : decode cX12_settings 48 = .ok (.putfield 457, 3) := dl_o181 kcX12_settings (by decide +kernel)
theorem dX12_settings_51 : decode cX12_settings 51 = .ok (.aload_n 0, 1) := dl_o42 kcX12_settings (by decide +kernel)
theorem dX12_settings_52 : decode cX12_settings 52 = .ok (.iconst 1, 1) := dl_o4 kcX12_settings (by decide +kernel)
theorem dX12_settings_53 : decode cX12_settings 53 = .ok (.putfield 460, 3) := dl_o181 kcX12_settings (by decide +kernel)
theorem dX12_settings_56 : decode cX12_settings 56 = .ok (.aload_n 0, 1) := dl_o42 kcX12_settings (by decide +kernel)
theorem dX12_settings_57 : decode cX12_settings 57 = .ok (.iconst 1, 1) := dl_o4 kcX12_settings (by decide +kernel)
theorem dX12_settings_58 : decode cX12_settings 58 = .ok (.putfield 463, 3) := dl_o181 kcX12_settings (by decide +kernel)
theorem dX12_settings_61 : decode cX12_settings 61 = .ok (.aload_n 0, 1) := dl_o42 kcX12_settings (by decide +kernel)
theorem dX12_settings_62 : decode cX12_settings 62 = .ok (.iconst 1, 1) := dl_o4 kcX12_settings (by decide +kernel)
theorem dX12_settings_63 : decode cX12_settings 63 = .ok (.putfield 466, 3) := dl_o181 kcX12_settings (by decide +kernel)
theorem dX12_settings_66 : decode cX12_settings 66 = .ok (.aload_n 0, 1) := dl_o42 kcX12_settings (by decide +kernel)
theorem dX12_settings_67 : decode cX12_settings 67 = .ok (.iconst 1, 1) := dl_o4 kcX12_settings (by decide +kernel)
theorem dX12_settings_68 : decode cX12_settings 68 = .ok (.putfield 469, 3) := dl_o181 kcX12_settings (by decide +kernel)
theorem dX12_settings_71 : decode cX12_settings 71 = .ok (.aload_n 0, 1) := dl_o42 kcX12_settings (by decide +kernel)
theorem dX12_settings_72 : decode cX12_settings 72 = .ok (.bipush 24, 2) := dl_o16 kcX12_settings 24 (by decide +kernel) (by decide +kernel)
theorem dX12_settings_74 : decode cX12_settings 74 = .ok (.bipush 64, 2) := dl_o16 kcX12_settings 64 (by decide +kernel) (by decide +kernel)
theorem dX12_settings_76 : decode cX12_settings 76 = .ok (.iconst 0, 1) := dl_o3 kcX12_settings (by decide +kernel)
theorem dX12_settings_77 : decode cX12_settings 77 = .ok (.bipush 32, 2) := dl_o16 kcX12_settings 32 (by decide +kernel) (by decide +kernel)
theorem dX12_settings_79 : decode cX12_settings 79 = .ok (.invokevirtual 472, 3) := dl_o182 kcX12_settings (by decide +kernel)
theorem dX12_settings_82 : decode cX12_settings 82 = .ok (.return_, 1) := dl_o177 kcX12_settings (by decide +kernel)
def F_X12_settings  (V : sv_V) : Option sv_V := sx_let (sv_I V 146 63 (16384 : Int32)) (fun V1 => sx_let (sv_I V1 146 64 (0 : Int32)) (fun V2 => sx_let (sv_I V2 146 65 (16384 : Int32)) (fun V3 => sx_let (sv_I V3 146 66 (0 : Int32)) (fun V4 => sx_let (sv_I V4 146 67 (16384 : Int32)) (fun V5 => sx_let (sv_I V5 146 68 (0 : Int32)) (fun V6 => sx_let (sv_I V6 146 69 (0 : Int32)) (fun V7 => sx_let (sv_I V7 146 70 (0 : Int32)) (fun V8 => sx_let (sv_I V8 146 71 (0 : Int32)) (fun V9 => sx_let (sv_I V9 146 72 (1 : Int32)) (fun V10 => sx_let (sv_I V10 146 73 (1 : Int32)) (fun V11 => sx_let (sv_I V11 146 74 (1 : Int32)) (fun V12 => sx_let (sv_I V12 146 75 (1 : Int32)) (fun V13 => (F_X12_setRounding (24 : Int32) (64 : Int32) (0 : Int32) (32 : Int32) V13).bind (fun V14 => some V14))))))))))))))
set_option maxRecDepth 20000 in
theorem t_X12_settings {g : sx_G} (hG : sx_Go g) {P : Option Value → sv_V → Prop} {Vr : sv_V} (hP : P none Vr)  {V : sv_V} (h : F_X12_settings  V = some Vr) : sv_N g qX12_settings 1 0 [(0, .ref 146)] [] V P := by
  unfold F_X12_settings at h
  refine sx_aload_n (pc := 0) dX12_settings_0 sx_m0 ?_
  refine sx_sipush (pc := 1) (v := 16384) dX12_settings_1 (by decide) ?_
  obtain ⟨V1, hV1⟩ : ∃ z : sv_V, z = sv_I V 146 63 (16384 : Int32) := ⟨_, rfl⟩
  have h := sx_letE hV1 h
  refine sv_putI (pc := 4) hG dX12_settings_4 f_12_433 lay_146 rfl hV1 ?_
  refine sx_aload_n (pc := 7) dX12_settings_7 sx_m0 ?_
  refine sx_iconst (pc := 8) (v := 0) dX12_settings_8 (by decide) ?_
  obtain ⟨V2, hV2⟩ : ∃ z : sv_V, z = sv_I V1 146 64 (0 : Int32) := ⟨_, rfl⟩
  have h := sx_letE hV2 h
  refine sv_putI (pc := 9) hG dX12_settings_9 f_12_436 lay_146 rfl hV2 ?_
  refine sx_aload_n (pc := 12) dX12_settings_12 sx_m0 ?_
  refine sx_sipush (pc := 13) (v := 16384) dX12_settings_13 (by decide) ?_
  obtain ⟨V3, hV3⟩ : ∃ z : sv_V, z = sv_I V2 146 65 (16384 : Int32) := ⟨_, rfl⟩
  have h := sx_letE hV3 h
  refine sv_putI (pc := 16) hG dX12_settings_16 f_12_439 lay_146 rfl hV3 ?_
  refine sx_aload_n (pc := 19) dX12_settings_19 sx_m0 ?_
  refine sx_iconst (pc := 20) (v := 0) dX12_settings_20 (by decide) ?_
  obtain ⟨V4, hV4⟩ : ∃ z : sv_V, z = sv_I V3 146 66 (0 : Int32) := ⟨_, rfl⟩
  have h := sx_letE hV4 h
  refine sv_putI (pc := 21) hG dX12_settings_21 f_12_442 lay_146 rfl hV4 ?_
  refine sx_aload_n (pc := 24) dX12_settings_24 sx_m0 ?_
  refine sx_sipush (pc := 25) (v := 16384) dX12_settings_25 (by decide) ?_
  obtain ⟨V5, hV5⟩ : ∃ z : sv_V, z = sv_I V4 146 67 (16384 : Int32) := ⟨_, rfl⟩
  have h := sx_letE hV5 h
  refine sv_putI (pc := 28) hG dX12_settings_28 f_12_445 lay_146 rfl hV5 ?_
  refine sx_aload_n (pc := 31) dX12_settings_31 sx_m0 ?_
  refine sx_iconst (pc := 32) (v := 0) dX12_settings_32 (by decide) ?_
  obtain ⟨V6, hV6⟩ : ∃ z : sv_V, z = sv_I V5 146 68 (0 : Int32) := ⟨_, rfl⟩
  have h := sx_letE hV6 h
  refine sv_putI (pc := 33) hG dX12_settings_33 f_12_448 lay_146 rfl hV6 ?_
  refine sx_aload_n (pc := 36) dX12_settings_36 sx_m0 ?_
  refine sx_iconst (pc := 37) (v := 0) dX12_settings_37 (by decide) ?_
  obtain ⟨V7, hV7⟩ : ∃ z : sv_V, z = sv_I V6 146 69 (0 : Int32) := ⟨_, rfl⟩
  have h := sx_letE hV7 h
  refine sv_putI (pc := 38) hG dX12_settings_38 f_12_451 lay_146 rfl hV7 ?_
  refine sx_aload_n (pc := 41) dX12_settings_41 sx_m0 ?_
  refine sx_iconst (pc := 42) (v := 0) dX12_settings_42 (by decide) ?_
  obtain ⟨V8, hV8⟩ : ∃ z : sv_V, z = sv_I V7 146 70 (0 : Int32) := ⟨_, rfl⟩
  have h := sx_letE hV8 h
  refine sv_putI (pc := 43) hG dX12_settings_43 f_12_454 lay_146 rfl hV8 ?_
  refine sx_aload_n (pc := 46) dX12_settings_46 sx_m0 ?_
  refine sx_iconst (pc := 47) (v := 0) dX12_settings_47 (by decide) ?_
  obtain ⟨V9, hV9⟩ : ∃ z : sv_V, z = sv_I V8 146 71 (0 : Int32) := ⟨_, rfl⟩
  have h := sx_letE hV9 h
  refine sv_putI (pc := 48) hG dX12_settings_48 f_12_457 lay_146 rfl hV9 ?_
  refine sx_aload_n (pc := 51) dX12_settings_51 sx_m0 ?_
  refine sx_iconst (pc := 52) (v := 1) dX12_settings_52 (by decide) ?_
  obtain ⟨V10, hV10⟩ : ∃ z : sv_V, z = sv_I V9 146 72 (1 : Int32) := ⟨_, rfl⟩
  have h := sx_letE hV10 h
  refine sv_putI (pc := 53) hG dX12_settings_53 f_12_460 lay_146 rfl hV10 ?_
  refine sx_aload_n (pc := 56) dX12_settings_56 sx_m0 ?_
  refine sx_iconst (pc := 57) (v := 1) dX12_settings_57 (by decide) ?_
  obtain ⟨V11, hV11⟩ : ∃ z : sv_V, z = sv_I V10 146 73 (1 : Int32) := ⟨_, rfl⟩
  have h := sx_letE hV11 h
  refine sv_putI (pc := 58) hG dX12_settings_58 f_12_463 lay_146 rfl hV11 ?_
  refine sx_aload_n (pc := 61) dX12_settings_61 sx_m0 ?_
  refine sx_iconst (pc := 62) (v := 1) dX12_settings_62 (by decide) ?_
  obtain ⟨V12, hV12⟩ : ∃ z : sv_V, z = sv_I V11 146 74 (1 : Int32) := ⟨_, rfl⟩
  have h := sx_letE hV12 h
  refine sv_putI (pc := 63) hG dX12_settings_63 f_12_466 lay_146 rfl hV12 ?_
  refine sx_aload_n (pc := 66) dX12_settings_66 sx_m0 ?_
  refine sx_iconst (pc := 67) (v := 1) dX12_settings_67 (by decide) ?_
  obtain ⟨V13, hV13⟩ : ∃ z : sv_V, z = sv_I V12 146 75 (1 : Int32) := ⟨_, rfl⟩
  have h := sx_letE hV13 h
  refine sv_putI (pc := 68) hG dX12_settings_68 f_12_469 lay_146 rfl hV13 ?_
  refine sx_aload_n (pc := 71) dX12_settings_71 sx_m0 ?_
  refine sx_bipush (pc := 72) (v := 24) dX12_settings_72 (by decide) ?_
  refine sx_bipush (pc := 74) (v := 64) dX12_settings_74 (by decide) ?_
  refine sx_iconst (pc := 76) (v := 0) dX12_settings_76 (by decide) ?_
  refine sx_bipush (pc := 77) (v := 32) dX12_settings_77 (by decide) ?_
  obtain ⟨V14, g15, h⟩ := sx_bnd h
  refine sv_cV (pc := 79) (y := qX12_setRounding) (o := none) (as := [.int (24 : Int32), .int (64 : Int32), .int (0 : Int32), .int (32 : Int32)]) (V1 := V14) hG dX12_settings_79 l_X12_472 y0X12_setRounding yvX12_setRounding rfl (Nat.le_of_ble_eq_true rfl) lay_146 kr_12 (by decide) (Nat.le_of_ble_eq_true rfl) rfl rfl rfl (t_X12_setRounding hG ⟨rfl, rfl⟩ g15) ?_
  exact sv_vret (pc := 82) dX12_settings_82 rfl h hP
def ncX12_rounded : Nat := 62542146588663963250506575861062655541236132809850641065832981840498621594098889750712738074286501302518870831646712476092403112665343621311331152704918503294868983855171641525723407569295986807317490364110968077524746220586
theorem kcX12_rounded : CK cX12_rounded ncX12_rounded 93 := ⟨by decide +kernel, by decide +kernel⟩
theorem dX12_rounded_0 : decode cX12_rounded 0 = .ok (.aload_n 0, 1) := dl_o42 kcX12_rounded (by decide +kernel)
theorem dX12_rounded_1 : decode cX12_rounded 1 = .ok (.getfield 476, 3) := dl_o180 kcX12_rounded (by decide +kernel)
theorem dX12_rounded_4 : decode cX12_rounded 4 = .ok (.bipush 122, 2) := dl_o16 kcX12_rounded 122 (by decide +kernel) (by decide +kernel)
theorem dX12_rounded_6 : decode cX12_rounded 6 = .ok (.if_icmp .ne 5, 3) := dl_o160 kcX12_rounded 5 (by decide +kernel) (by decide +kernel)
theorem dX12_rounded_9 : decode cX12_rounded 9 = .ok (.lload_n 1, 1) := dl_o31 kcX12_rounded (by decide +kernel)
theorem dX12_rounded_10 : decode cX12_rounded 10 = .ok (.lreturn, 1) := dl_o173 kcX12_rounded (by decide +kernel)
theorem dX12_rounded_11 : decode cX12_rounded 11 = .ok (.lload_n 1, 1) := dl_o31 kcX12_rounded (by decide +kernel)
theorem dX12_rounded_12 : decode cX12_rounded 12 = .ok (.lconst 0, 1) := dl_o9 kcX12_rounded (by decide +kernel)
theorem dX12_rounded_13 : decode cX12_rounded 13 = .ok (.lcmp, 1) := dl_o148 kcX12_rounded (by decide +kernel)
theorem dX12_rounded_14 : decode cX12_rounded 14 = .ok (.ifCond .ge 8, 3) := dl_o156 kcX12_rounded 8 (by decide +kernel) (by decide +kernel)
theorem dX12_rounded_17 : decode cX12_rounded 17 = .ok (.lload_n 1, 1) := dl_o31 kcX12_rounded (by decide +kernel)
theorem dX12_rounded_18 : decode cX12_rounded 18 = .ok (.lneg, 1) := dl_o117 kcX12_rounded (by decide +kernel)
theorem dX12_rounded_19 : decode cX12_rounded 19 = .ok (.goto 4, 3) := dl_o167 kcX12_rounded 4 (by decide +kernel) (by decide +kernel)
theorem dX12_rounded_22 : decode cX12_rounded 22 = .ok (.lload_n 1, 1) := dl_o31 kcX12_rounded (by decide +kernel)
theorem dX12_rounded_23 : decode cX12_rounded 23 = .ok (.lstore_n 3, 1) := dl_o66 kcX12_rounded (by decide +kernel)
theorem dX12_rounded_24 : decode cX12_rounded 24 = .ok (.lload_n 3, 1) := dl_o33 kcX12_rounded (by decide +kernel)
theorem dX12_rounded_25 : decode cX12_rounded 25 = .ok (.aload_n 0, 1) := dl_o42 kcX12_rounded (by decide +kernel)
theorem dX12_rounded_26 : decode cX12_rounded 26 = .ok (.getfield 482, 3) := dl_o180 kcX12_rounded (by decide +kernel)
theorem dX12_rounded_29 : decode cX12_rounded 29 = .ok (.i2l, 1) := dl_o133 kcX12_rounded (by decide +kernel)
theorem dX12_rounded_30 : decode cX12_rounded 30 = .ok (.lsub, 1) := dl_o101 kcX12_rounded (by decide +kernel)
theorem dX12_rounded_31 : decode cX12_rounded 31 = .ok (.aload_n 0, 1) := dl_o42 kcX12_rounded (by decide +kernel)
theorem dX12_rounded_32 : decode cX12_rounded 32 = .ok (.getfield 485, 3) := dl_o180 kcX12_rounded (by decide +kernel)
theorem dX12_rounded_35 : decode cX12_rounded 35 = .ok (.i2l, 1) := dl_o133 kcX12_rounded (by decide +kernel)
theorem dX12_rounded_36 : decode cX12_rounded 36 = .ok (.ladd, 1) := dl_o97 kcX12_rounded (by decide +kernel)
theorem dX12_rounded_37 : decode cX12_rounded 37 = .ok (.aload_n 0, 1) := dl_o42 kcX12_rounded (by decide +kernel)
theorem dX12_rounded_38 : decode cX12_rounded 38 = .ok (.getfield 479, 3) := dl_o180 kcX12_rounded (by decide +kernel)
theorem dX12_rounded_41 : decode cX12_rounded 41 = .ok (.i2l, 1) := dl_o133 kcX12_rounded (by decide +kernel)
theorem dX12_rounded_42 : decode cX12_rounded 42 = .ok (.invokestatic 488, 3) := dl_o184 kcX12_rounded (by decide +kernel)
theorem dX12_rounded_45 : decode cX12_rounded 45 = .ok (.aload_n 0, 1) := dl_o42 kcX12_rounded (by decide +kernel)
theorem dX12_rounded_46 : decode cX12_rounded 46 = .ok (.getfield 479, 3) := dl_o180 kcX12_rounded (by decide +kernel)
theorem dX12_rounded_49 : decode cX12_rounded 49 = .ok (.i2l, 1) := dl_o133 kcX12_rounded (by decide +kernel)
theorem dX12_rounded_50 : decode cX12_rounded 50 = .ok (.lmul, 1) := dl_o105 kcX12_rounded (by decide +kernel)
theorem dX12_rounded_51 : decode cX12_rounded 51 = .ok (.aload_n 0, 1) := dl_o42 kcX12_rounded (by decide +kernel)
theorem dX12_rounded_52 : decode cX12_rounded 52 = .ok (.getfield 482, 3) := dl_o180 kcX12_rounded (by decide +kernel)
theorem dX12_rounded_55 : decode cX12_rounded 55 = .ok (.i2l, 1) := dl_o133 kcX12_rounded (by decide +kernel)
theorem dX12_rounded_56 : decode cX12_rounded 56 = .ok (.ladd, 1) := dl_o97 kcX12_rounded (by decide +kernel)
theorem dX12_rounded_57 : decode cX12_rounded 57 = .ok (.lstore 5, 2) := dl_o55 kcX12_rounded (by decide +kernel)
theorem dX12_rounded_59 : decode cX12_rounded 59 = .ok (.lload 5, 2) := dl_o22 kcX12_rounded (by decide +kernel)
theorem dX12_rounded_61 : decode cX12_rounded 61 = .ok (.lconst 0, 1) := dl_o9 kcX12_rounded (by decide +kernel)
theorem dX12_rounded_62 : decode cX12_rounded 62 = .ok (.lcmp, 1) := dl_o148 kcX12_rounded (by decide +kernel)
theorem dX12_rounded_63 : decode cX12_rounded 63 = .ok (.ifCond .ge 11, 3) := dl_o156 kcX12_rounded 11 (by decide +kernel) (by decide +kernel)
theorem dX12_rounded_66 : decode cX12_rounded 66 = .ok (.aload_n 0, 1) := dl_o42 kcX12_rounded (by decide +kernel)
theorem dX12_rounded_67 : decode cX12_rounded 67 = .ok (.getfield 482, 3) := dl_o180 kcX12_rounded (by decide +kernel)
theorem dX12_rounded_70 : decode cX12_rounded 70 = .ok (.i2l, 1) := dl_o133 kcX12_rounded (by decide +kernel)
theorem dX12_rounded_71 : decode cX12_rounded 71 = .ok (.goto 5, 3) := dl_o167 kcX12_rounded 5 (by decide +kernel) (by decide +kernel)
theorem dX12_rounded_74 : decode cX12_rounded 74 = .ok (.lload 5, 2) := dl_o22 kcX12_rounded (by decide +kernel)
theorem dX12_rounded_76 : decode cX12_rounded 76 = .ok (.lstore 5, 2) := dl_o55 kcX12_rounded (by decide +kernel)
theorem dX12_rounded_78 : decode cX12_rounded 78 = .ok (.lload_n 1, 1) := dl_o31 kcX12_rounded (by decide +kernel)
theorem dX12_rounded_79 : decode cX12_rounded 79 = .ok (.lconst 0, 1) := dl_o9 kcX12_rounded (by decide +kernel)
theorem dX12_rounded_80 : decode cX12_rounded 80 = .ok (.lcmp, 1) := dl_o148 kcX12_rounded (by decide +kernel)
theorem dX12_rounded_81 : decode cX12_rounded 81 = .ok (.ifCond .ge 9, 3) := dl_o156 kcX12_rounded 9 (by decide +kernel) (by decide +kernel)
theorem dX12_rounded_84 : decode cX12_rounded 84 = .ok (.lload 5, 2) := dl_o22 kcX12_rounded (by decide +kernel)
theorem dX12_rounded_86 : decode cX12_rounded 86 = .ok (.lneg, 1) := dl_o117 kcX12_rounded (by decide +kernel)
theorem dX12_rounded_87 : decode cX12_rounded 87 = .ok (.goto 5, 3) := dl_o167 kcX12_rounded 5 (by decide +kernel) (by decide +kernel)
theorem dX12_rounded_90 : decode cX12_rounded 90 = .ok (.lload 5, 2) := dl_o22 kcX12_rounded (by decide +kernel)
theorem dX12_rounded_92 : decode cX12_rounded 92 = .ok (.lreturn, 1) := dl_o173 kcX12_rounded (by decide +kernel)
def B_X12_rounded_76  (l1 : Int64) (s0 : Int64) (V : sv_V) : Option (Int64 × sv_V) := if 0 ≤ (lg_cmp l1 (0 : Int64)) then (some (s0, V)) else (some (-s0, V))
set_option maxRecDepth 20000 in
theorem tB_X12_rounded_76 {g : sx_G} (hG : sx_Go g) {P : Option Value → sv_V → Prop} {r : Int64} {Vr : sv_V} (hP : P (some (.long r)) Vr)   {l1 : Int64} {s0 : Int64} {V : sv_V} (h : B_X12_rounded_76  l1 s0 V = some (r, Vr)) : sv_N g qX12_rounded 1 76 [(1, .long l1)] [.long s0] V P := by
  unfold B_X12_rounded_76 at h
  refine sx_lstore (pc := 76) (lo' := [(5, .long s0), (1, .long l1)]) dX12_rounded_76 (by decide) rfl ?_
  refine sx_lload_n (pc := 78) dX12_rounded_78 sx_m1 ?_
  refine sx_lconst (pc := 79) (v := 0) dX12_rounded_79 rfl ?_
  refine sx_lcmp (pc := 80) dX12_rounded_80 ?_
  refine sx_if_ge (pc := 81) (tgt := 90) dX12_rounded_81 (by decide) (fun c1 => ?_) (fun c1 => ?_)
  · have h := sx_pos c1 h
    refine sx_lload (pc := 90) dX12_rounded_90 sx_m0 ?_
    exact sv_lret (pc := 92) dX12_rounded_92 rfl h hP
  · have h := sx_neg c1 h
    refine sx_lload (pc := 84) dX12_rounded_84 sx_m0 ?_
    refine sx_lneg (pc := 86) dX12_rounded_86 ?_
    refine sx_goto (pc := 87) (tgt := 92) dX12_rounded_87 (by decide) ?_
    exact sv_lret (pc := 92) dX12_rounded_92 rfl h hP
def B_X12_rounded_23  (l1 : Int64) (s0 : Int64) (V : sv_V) : Option (Int64 × sv_V) := (F_J9_floorDiv_f86c9 ((s0 - ((V.1 146 78).toInt64)) + ((V.1 146 79).toInt64)) ((V.1 146 77).toInt64) V).bind (fun (x4, V2) => sx_let ((x4 * ((V2.1 146 77).toInt64)) + ((V2.1 146 78).toInt64)) (fun x5 => if 0 ≤ (lg_cmp x5 (0 : Int64)) then (B_X12_rounded_76  l1 x5 V2) else (B_X12_rounded_76  l1 ((V2.1 146 78).toInt64) V2)))
set_option maxRecDepth 20000 in
theorem tB_X12_rounded_23 {g : sx_G} (hG : sx_Go g) {P : Option Value → sv_V → Prop} {r : Int64} {Vr : sv_V} (hP : P (some (.long r)) Vr)   {l1 : Int64} {s0 : Int64} {V : sv_V} (h : B_X12_rounded_23  l1 s0 V = some (r, Vr)) : sv_N g qX12_rounded 1 23 [(0, .ref 146), (1, .long l1)] [.long s0] V P := by
  unfold B_X12_rounded_23 at h
  refine sx_lstore_n (pc := 23) (lo' := [(3, .long s0), (0, .ref 146), (1, .long l1)]) dX12_rounded_23 (by decide) rfl ?_
  refine sx_lload_n (pc := 24) dX12_rounded_24 sx_m0 ?_
  refine sx_aload_n (pc := 25) dX12_rounded_25 sx_m1 ?_
  refine sv_getI (pc := 26) hG dX12_rounded_26 f_12_482 lay_146 rfl ?_
  refine sx_i2l (pc := 29) dX12_rounded_29 ?_
  refine sx_lsub (pc := 30) dX12_rounded_30 ?_
  refine sx_aload_n (pc := 31) dX12_rounded_31 sx_m1 ?_
  refine sv_getI (pc := 32) hG dX12_rounded_32 f_12_485 lay_146 rfl ?_
  refine sx_i2l (pc := 35) dX12_rounded_35 ?_
  refine sx_ladd (pc := 36) dX12_rounded_36 ?_
  refine sx_aload_n (pc := 37) dX12_rounded_37 sx_m1 ?_
  refine sv_getI (pc := 38) hG dX12_rounded_38 f_12_479 lay_146 rfl ?_
  refine sx_i2l (pc := 41) dX12_rounded_41 ?_
  obtain ⟨⟨x4, V2⟩, g3, h⟩ := sx_bnd h
  refine sv_cS (pc := 42) (y := qJ9_floorDiv_f86c9) (o := (some (.long x4))) (as := [.long ((s0 - ((V.1 146 78).toInt64)) + ((V.1 146 79).toInt64)), .long ((V.1 146 77).toInt64)]) (V1 := V2) dX12_rounded_42 l_X12_488 y0J9_floorDiv_f86c9 ysJ9_floorDiv_f86c9 rfl (Nat.le_of_ble_eq_true rfl) (by decide) (Nat.le_of_ble_eq_true rfl) rfl rfl rfl (t_J9_floorDiv_f86c9 hG ⟨rfl, rfl⟩ g3) ?_
  refine sx_aload_n (pc := 45) dX12_rounded_45 sx_m1 ?_
  refine sv_getI (pc := 46) hG dX12_rounded_46 f_12_479 lay_146 rfl ?_
  refine sx_i2l (pc := 49) dX12_rounded_49 ?_
  refine sx_lmul (pc := 50) dX12_rounded_50 ?_
  refine sx_aload_n (pc := 51) dX12_rounded_51 sx_m1 ?_
  refine sv_getI (pc := 52) hG dX12_rounded_52 f_12_482 lay_146 rfl ?_
  refine sx_i2l (pc := 55) dX12_rounded_55 ?_
  refine sx_ladd (pc := 56) dX12_rounded_56 ?_
  refine sv_tJ (fun x5 hx5 => ?_)
  have h := sx_letE hx5 h
  refine sx_lstore (pc := 57) (lo' := [(5, .long x5), (3, .long s0), (0, .ref 146), (1, .long l1)]) dX12_rounded_57 (by decide) rfl ?_
  refine sx_lload (pc := 59) dX12_rounded_59 sx_m0 ?_
  refine sx_lconst (pc := 61) (v := 0) dX12_rounded_61 rfl ?_
  refine sx_lcmp (pc := 62) dX12_rounded_62 ?_
  refine sx_if_ge (pc := 63) (tgt := 74) dX12_rounded_63 (by decide) (fun c6 => ?_) (fun c6 => ?_)
  · have h := sx_pos c6 h
    refine sx_lload (pc := 74) dX12_rounded_74 sx_m0 ?_
    refine sx_wk (sx_s1 sx_m3 sx_s0) ?_
    exact tB_X12_rounded_76 hG hP  h
  · have h := sx_neg c6 h
    refine sx_aload_n (pc := 66) dX12_rounded_66 sx_m2 ?_
    refine sv_getI (pc := 67) hG dX12_rounded_67 f_12_482 lay_146 rfl ?_
    refine sx_i2l (pc := 70) dX12_rounded_70 ?_
    refine sx_goto (pc := 71) (tgt := 76) dX12_rounded_71 (by decide) ?_
    refine sx_wk (sx_s1 sx_m3 sx_s0) ?_
    exact tB_X12_rounded_76 hG hP  h
def F_X12_rounded (l1 : Int64) (V : sv_V) : Option (Int64 × sv_V) := if (V.1 146 76) = (122 : Int32) then (some (l1, V)) else (if 0 ≤ (lg_cmp l1 (0 : Int64)) then (B_X12_rounded_23  l1 l1 V) else (B_X12_rounded_23  l1 (-l1) V))
set_option maxRecDepth 20000 in
theorem t_X12_rounded {g : sx_G} (hG : sx_Go g) {P : Option Value → sv_V → Prop} {r : Int64} {Vr : sv_V} (hP : P (some (.long r)) Vr) {l1 : Int64} {V : sv_V} (h : F_X12_rounded l1 V = some (r, Vr)) : sv_N g qX12_rounded 1 0 [(0, .ref 146), (1, .long l1)] [] V P := by
  unfold F_X12_rounded at h
  refine sx_aload_n (pc := 0) dX12_rounded_0 sx_m0 ?_
  refine sv_getI (pc := 1) hG dX12_rounded_1 f_12_476 lay_146 rfl ?_
  refine sx_bipush (pc := 4) (v := 122) dX12_rounded_4 (by decide) ?_
  refine sx_icmp_ne (pc := 6) (tgt := 11) dX12_rounded_6 (by decide) (fun c7 => ?_) (fun c7 => ?_)
  · have h := sx_neg c7 h
    refine sx_lload_n (pc := 11) dX12_rounded_11 sx_m1 ?_
    refine sx_lconst (pc := 12) (v := 0) dX12_rounded_12 rfl ?_
    refine sx_lcmp (pc := 13) dX12_rounded_13 ?_
    refine sx_if_ge (pc := 14) (tgt := 22) dX12_rounded_14 (by decide) (fun c8 => ?_) (fun c8 => ?_)
    · have h := sx_pos c8 h
      refine sx_lload_n (pc := 22) dX12_rounded_22 sx_m1 ?_
      refine sx_wk (sx_s1 sx_m0 (sx_s1 sx_m1 sx_s0)) ?_
      exact tB_X12_rounded_23 hG hP  h
    · have h := sx_neg c8 h
      refine sx_lload_n (pc := 17) dX12_rounded_17 sx_m1 ?_
      refine sx_lneg (pc := 18) dX12_rounded_18 ?_
      refine sx_goto (pc := 19) (tgt := 23) dX12_rounded_19 (by decide) ?_
      refine sx_wk (sx_s1 sx_m0 (sx_s1 sx_m1 sx_s0)) ?_
      exact tB_X12_rounded_23 hG hP  h
  · have h := sx_pos c7 h
    refine sx_lload_n (pc := 9) dX12_rounded_9 sx_m1 ?_
    exact sv_lret (pc := 10) dX12_rounded_10 rfl h hP
def ncX12_direction : Nat := 302301172850428396750320809376939132099974120468963104416331037145740813220876575878942120185039977534221111589900200972011186390510268800884966148991471976319511114451338063909358901655048070085239287217060240592359117569465520244900882881986075
theorem kcX12_direction : CK cX12_direction ncX12_direction 102 := ⟨by decide +kernel, by decide +kernel⟩
theorem dX12_direction_0 : decode cX12_direction 0 = .ok (.iload_n 1, 1) := dl_o27 kcX12_direction (by decide +kernel)
theorem dX12_direction_1 : decode cX12_direction 1 = .ok (.istore_n 3, 1) := dl_o62 kcX12_direction (by decide +kernel)
theorem dX12_direction_2 : decode cX12_direction 2 = .ok (.iload_n 2, 1) := dl_o28 kcX12_direction (by decide +kernel)
theorem dX12_direction_3 : decode cX12_direction 3 = .ok (.istore 4, 2) := dl_o54 kcX12_direction (by decide +kernel)
theorem dX12_direction_5 : decode cX12_direction 5 = .ok (.iload_n 3, 1) := dl_o29 kcX12_direction (by decide +kernel)
theorem dX12_direction_6 : decode cX12_direction 6 = .ok (.ifCond .ne 21, 3) := dl_o154 kcX12_direction 21 (by decide +kernel) (by decide +kernel)
theorem dX12_direction_9 : decode cX12_direction 9 = .ok (.iload 4, 2) := dl_o21 kcX12_direction (by decide +kernel)
theorem dX12_direction_11 : decode cX12_direction 11 = .ok (.ifCond .ne 16, 3) := dl_o154 kcX12_direction 16 (by decide +kernel) (by decide +kernel)
theorem dX12_direction_14 : decode cX12_direction 14 = .ok (.aload_n 0, 1) := dl_o42 kcX12_direction (by decide +kernel)
theorem dX12_direction_15 : decode cX12_direction 15 = .ok (.sipush 16384, 3) := dl_o17 kcX12_direction 16384 (by decide +kernel) (by decide +kernel)
theorem dX12_direction_18 : decode cX12_direction 18 = .ok (.putfield 533, 3) := dl_o181 kcX12_direction (by decide +kernel)
theorem dX12_direction_21 : decode cX12_direction 21 = .ok (.aload_n 0, 1) := dl_o42 kcX12_direction (by decide +kernel)
theorem dX12_direction_22 : decode cX12_direction 22 = .ok (.iconst 0, 1) := dl_o3 kcX12_direction (by decide +kernel)
theorem dX12_direction_23 : decode cX12_direction 23 = .ok (.putfield 536, 3) := dl_o181 kcX12_direction (by decide +kernel)
theorem dX12_direction_26 : decode cX12_direction 26 = .ok (.return_, 1) := dl_o177 kcX12_direction (by decide +kernel)
theorem dX12_direction_27 : decode cX12_direction 27 = .ok (.iload_n 3, 1) := dl_o29 kcX12_direction (by decide +kernel)
theorem dX12_direction_28 : decode cX12_direction 28 = .ok (.i2l, 1) := dl_o133 kcX12_direction (by decide +kernel)
theorem dX12_direction_29 : decode cX12_direction 29 = .ok (.invokestatic 198, 3) := dl_o184 kcX12_direction (by decide +kernel)
theorem dX12_direction_32 : decode cX12_direction 32 = .ok (.ldc2_w 539, 3) := dl_o20 kcX12_direction (by decide +kernel)
theorem dX12_direction_35 : decode cX12_direction 35 = .ok (.lcmp, 1) := dl_o148 kcX12_direction (by decide +kernel)
theorem dX12_direction_36 : decode cX12_direction 36 = .ok (.ifCond .gt 16, 3) := dl_o157 kcX12_direction 16 (by decide +kernel) (by decide +kernel)
theorem dX12_direction_39 : decode cX12_direction 39 = .ok (.iload 4, 2) := dl_o21 kcX12_direction (by decide +kernel)
theorem dX12_direction_41 : decode cX12_direction 41 = .ok (.i2l, 1) := dl_o133 kcX12_direction (by decide +kernel)
theorem dX12_direction_42 : decode cX12_direction 42 = .ok (.invokestatic 198, 3) := dl_o184 kcX12_direction (by decide +kernel)
theorem dX12_direction_45 : decode cX12_direction 45 = .ok (.ldc2_w 539, 3) := dl_o20 kcX12_direction (by decide +kernel)
theorem dX12_direction_48 : decode cX12_direction 48 = .ok (.lcmp, 1) := dl_o148 kcX12_direction (by decide +kernel)
theorem dX12_direction_49 : decode cX12_direction 49 = .ok (.ifCond .le 16, 3) := dl_o158 kcX12_direction 16 (by decide +kernel) (by decide +kernel)
theorem dX12_direction_52 : decode cX12_direction 52 = .ok (.iload_n 3, 1) := dl_o29 kcX12_direction (by decide +kernel)
theorem dX12_direction_53 : decode cX12_direction 53 = .ok (.iconst 2, 1) := dl_o5 kcX12_direction (by decide +kernel)
theorem dX12_direction_54 : decode cX12_direction 54 = .ok (.idiv, 1) := dl_o108 kcX12_direction (by decide +kernel)
theorem dX12_direction_55 : decode cX12_direction 55 = .ok (.istore_n 3, 1) := dl_o62 kcX12_direction (by decide +kernel)
theorem dX12_direction_56 : decode cX12_direction 56 = .ok (.iload 4, 2) := dl_o21 kcX12_direction (by decide +kernel)
theorem dX12_direction_58 : decode cX12_direction 58 = .ok (.iconst 2, 1) := dl_o5 kcX12_direction (by decide +kernel)
theorem dX12_direction_59 : decode cX12_direction 59 = .ok (.idiv, 1) := dl_o108 kcX12_direction (by decide +kernel)
theorem dX12_direction_60 : decode cX12_direction 60 = .ok (.istore 4, 2) := dl_o54 kcX12_direction (by decide +kernel)
theorem dX12_direction_62 : decode cX12_direction 62 = .ok (.goto (-35), 3) := dl_o167 kcX12_direction 65501 (by decide +kernel) (by decide +kernel)
theorem dX12_direction_65 : decode cX12_direction 65 = .ok (.iload_n 3, 1) := dl_o29 kcX12_direction (by decide +kernel)
theorem dX12_direction_66 : decode cX12_direction 66 = .ok (.i2l, 1) := dl_o133 kcX12_direction (by decide +kernel)
theorem dX12_direction_67 : decode cX12_direction 67 = .ok (.iload_n 3, 1) := dl_o29 kcX12_direction (by decide +kernel)
theorem dX12_direction_68 : decode cX12_direction 68 = .ok (.i2l, 1) := dl_o133 kcX12_direction (by decide +kernel)
theorem dX12_direction_69 : decode cX12_direction 69 = .ok (.lmul, 1) := dl_o105 kcX12_direction (by decide +kernel)
theorem dX12_direction_70 : decode cX12_direction 70 = .ok (.iload 4, 2) := dl_o21 kcX12_direction (by decide +kernel)
theorem dX12_direction_72 : decode cX12_direction 72 = .ok (.i2l, 1) := dl_o133 kcX12_direction (by decide +kernel)
theorem dX12_direction_73 : decode cX12_direction 73 = .ok (.iload 4, 2) := dl_o21 kcX12_direction (by decide +kernel)
theorem dX12_direction_75 : decode cX12_direction 75 = .ok (.i2l, 1) := dl_o133 kcX12_direction (by decide +kernel)
theorem dX12_direction_76 : decode cX12_direction 76 = .ok (.lmul, 1) := dl_o105 kcX12_direction (by decide +kernel)
theorem dX12_direction_77 : decode cX12_direction 77 = .ok (.ladd, 1) := dl_o97 kcX12_direction (by decide +kernel)
theorem dX12_direction_78 : decode cX12_direction 78 = .ok (.lstore 5, 2) := dl_o55 kcX12_direction (by decide +kernel)
theorem dX12_direction_80 : decode cX12_direction 80 = .ok (.aload_n 0, 1) := dl_o42 kcX12_direction (by decide +kernel)
theorem dX12_direction_81 : decode cX12_direction 81 = .ok (.iload_n 3, 1) := dl_o29 kcX12_direction (by decide +kernel)
theorem dX12_direction_82 : decode cX12_direction 82 = .ok (.lload 5, 2) := dl_o22 kcX12_direction (by decide +kernel)
theorem dX12_direction_84 : decode cX12_direction 84 = .ok (.invokestatic 541, 3) := dl_o184 kcX12_direction (by decide +kernel)
theorem dX12_direction_87 : decode cX12_direction 87 = .ok (.putfield 533, 3) := dl_o181 kcX12_direction (by decide +kernel)
theorem dX12_direction_90 : decode cX12_direction 90 = .ok (.aload_n 0, 1) := dl_o42 kcX12_direction (by decide +kernel)
theorem dX12_direction_91 : decode cX12_direction 91 = .ok (.iload 4, 2) := dl_o21 kcX12_direction (by decide +kernel)
theorem dX12_direction_93 : decode cX12_direction 93 = .ok (.lload 5, 2) := dl_o22 kcX12_direction (by decide +kernel)
theorem dX12_direction_95 : decode cX12_direction 95 = .ok (.invokestatic 541, 3) := dl_o184 kcX12_direction (by decide +kernel)
theorem dX12_direction_98 : decode cX12_direction 98 = .ok (.putfield 536, 3) := dl_o181 kcX12_direction (by decide +kernel)
theorem dX12_direction_101 : decode cX12_direction 101 = .ok (.return_, 1) := dl_o177 kcX12_direction (by decide +kernel)
def B_X12_direction_52 (N : Nat) (k27 : Int32 → Int32 → sv_V → Option sv_V) (l3 : Int32) (l4 : Int32) (V : sv_V) : Option sv_V := sx_let (l3 / (2 : Int32)) (fun x1 => sx_let (l4 / (2 : Int32)) (fun x2 => k27 x1 x2 V))
set_option maxRecDepth 20000 in
theorem tB_X12_direction_52 {g : sx_G} (hG : sx_Go g) {P : Option Value → sv_V → Prop} {Vr : sv_V} (hP : P none Vr) {N : Nat} {k27 : Int32 → Int32 → sv_V → Option sv_V} (hk27 : ∀ (l3 : Int32) (l4 : Int32) (V : sv_V), k27 l3 l4 V = some Vr → sv_N g qX12_direction 2 27 [(0, .ref 146), (3, .int l3), (4, .int l4)] [] V P) {l3 : Int32} {l4 : Int32} {V : sv_V} (h : B_X12_direction_52 N k27 l3 l4 V = some Vr) : sv_N g qX12_direction 2 52 [(0, .ref 146), (3, .int l3), (4, .int l4)] [] V P := by
  unfold B_X12_direction_52 at h
  refine sx_iload_n (pc := 52) dX12_direction_52 sx_m1 ?_
  refine sx_iconst (pc := 53) (v := 2) dX12_direction_53 (by decide) ?_
  refine sx_idiv (pc := 54) dX12_direction_54 (by decide) ?_
  refine sv_tI (fun x1 hx1 => ?_)
  have h := sx_letE hx1 h
  refine sx_istore_n (pc := 55) (lo' := [(3, .int x1), (0, .ref 146), (4, .int l4)]) dX12_direction_55 (by decide) rfl ?_
  refine sx_iload (pc := 56) dX12_direction_56 sx_m2 ?_
  refine sx_iconst (pc := 58) (v := 2) dX12_direction_58 (by decide) ?_
  refine sx_idiv (pc := 59) dX12_direction_59 (by decide) ?_
  refine sv_tI (fun x2 hx2 => ?_)
  have h := sx_letE hx2 h
  refine sx_istore (pc := 60) (lo' := [(4, .int x2), (3, .int x1), (0, .ref 146)]) dX12_direction_60 (by decide) rfl ?_
  refine sx_goto (pc := 62) (tgt := 27) dX12_direction_62 (by decide) ?_
  refine sx_wk (sx_s1 sx_m2 (sx_s1 sx_m1 (sx_s1 sx_m0 sx_s0))) ?_
  exact hk27 _ _ _ h
def B_X12_direction_27 (N : Nat) (k27 : Int32 → Int32 → sv_V → Option sv_V) (l3 : Int32) (l4 : Int32) (V : sv_V) : Option sv_V := (F_X12_sizeOf l3.toInt64 V).bind (fun (x5, V3) => if 0 < (lg_cmp x5 (30000 : Int64)) then (B_X12_direction_52 N k27 l3 l4 V3) else ((F_X12_sizeOf l4.toInt64 V3).bind (fun (x9, V7) => if (lg_cmp x9 (30000 : Int64)) ≤ 0 then (sx_let ((l3.toInt64 * l3.toInt64) + (l4.toInt64 * l4.toInt64)) (fun x11 => (F_X12_part N l3 x11 V7).bind (fun (x14, V12) => sx_let (sv_I V12 146 105 x14) (fun V15 => (F_X12_part N l4 x11 V15).bind (fun (x18, V16) => sx_let (sv_I V16 146 106 x18) (fun V19 => some V19)))))) else (B_X12_direction_52 N k27 l3 l4 V7))))
set_option maxRecDepth 20000 in
theorem tB_X12_direction_27 {g : sx_G} (hG : sx_Go g) {P : Option Value → sv_V → Prop} {Vr : sv_V} (hP : P none Vr) {N : Nat} {k27 : Int32 → Int32 → sv_V → Option sv_V} (hk27 : ∀ (l3 : Int32) (l4 : Int32) (V : sv_V), k27 l3 l4 V = some Vr → sv_N g qX12_direction 2 27 [(0, .ref 146), (3, .int l3), (4, .int l4)] [] V P) {l3 : Int32} {l4 : Int32} {V : sv_V} (h : B_X12_direction_27 N k27 l3 l4 V = some Vr) : sv_N g qX12_direction 2 27 [(0, .ref 146), (3, .int l3), (4, .int l4)] [] V P := by
  unfold B_X12_direction_27 at h
  refine sx_iload_n (pc := 27) dX12_direction_27 sx_m1 ?_
  refine sx_i2l (pc := 28) dX12_direction_28 ?_
  obtain ⟨⟨x5, V3⟩, g4, h⟩ := sx_bnd h
  refine sv_cS (pc := 29) (y := qX12_sizeOf) (o := (some (.long x5))) (as := [.long l3.toInt64]) (V1 := V3) dX12_direction_29 l_X12_198 y0X12_sizeOf ysX12_sizeOf rfl (Nat.le_of_ble_eq_true rfl) (by decide) (Nat.le_of_ble_eq_true rfl) rfl rfl rfl (t_X12_sizeOf hG ⟨rfl, rfl⟩ g4) ?_
  refine sx_ldc2 (pc := 32) dX12_direction_32 k_X12_539 ?_
  refine sx_lcmp (pc := 35) dX12_direction_35 ?_
  refine sx_if_gt (pc := 36) (tgt := 52) dX12_direction_36 (by decide) (fun c6 => ?_) (fun c6 => ?_)
  · have h := sx_pos c6 h
    refine sx_wk (sx_s1 sx_m0 (sx_s1 sx_m1 (sx_s1 sx_m2 sx_s0))) ?_
    exact tB_X12_direction_52 hG hP hk27 h
  · have h := sx_neg c6 h
    refine sx_iload (pc := 39) dX12_direction_39 sx_m2 ?_
    refine sx_i2l (pc := 41) dX12_direction_41 ?_
    obtain ⟨⟨x9, V7⟩, g8, h⟩ := sx_bnd h
    refine sv_cS (pc := 42) (y := qX12_sizeOf) (o := (some (.long x9))) (as := [.long l4.toInt64]) (V1 := V7) dX12_direction_42 l_X12_198 y0X12_sizeOf ysX12_sizeOf rfl (Nat.le_of_ble_eq_true rfl) (by decide) (Nat.le_of_ble_eq_true rfl) rfl rfl rfl (t_X12_sizeOf hG ⟨rfl, rfl⟩ g8) ?_
    refine sx_ldc2 (pc := 45) dX12_direction_45 k_X12_539 ?_
    refine sx_lcmp (pc := 48) dX12_direction_48 ?_
    refine sx_if_le (pc := 49) (tgt := 65) dX12_direction_49 (by decide) (fun c10 => ?_) (fun c10 => ?_)
    · have h := sx_pos c10 h
      refine sx_iload_n (pc := 65) dX12_direction_65 sx_m1 ?_
      refine sx_i2l (pc := 66) dX12_direction_66 ?_
      refine sx_iload_n (pc := 67) dX12_direction_67 sx_m1 ?_
      refine sx_i2l (pc := 68) dX12_direction_68 ?_
      refine sx_lmul (pc := 69) dX12_direction_69 ?_
      refine sx_iload (pc := 70) dX12_direction_70 sx_m2 ?_
      refine sx_i2l (pc := 72) dX12_direction_72 ?_
      refine sx_iload (pc := 73) dX12_direction_73 sx_m2 ?_
      refine sx_i2l (pc := 75) dX12_direction_75 ?_
      refine sx_lmul (pc := 76) dX12_direction_76 ?_
      refine sx_ladd (pc := 77) dX12_direction_77 ?_
      refine sv_tJ (fun x11 hx11 => ?_)
      have h := sx_letE hx11 h
      refine sx_lstore (pc := 78) (lo' := [(5, .long x11), (0, .ref 146), (3, .int l3), (4, .int l4)]) dX12_direction_78 (by decide) rfl ?_
      refine sx_aload_n (pc := 80) dX12_direction_80 sx_m1 ?_
      refine sx_iload_n (pc := 81) dX12_direction_81 sx_m2 ?_
      refine sx_lload (pc := 82) dX12_direction_82 sx_m0 ?_
      obtain ⟨⟨x14, V12⟩, g13, h⟩ := sx_bnd h
      refine sv_cS (pc := 84) (y := qX12_part) (o := (some (.int x14))) (as := [.int l3, .long x11]) (V1 := V12) dX12_direction_84 l_X12_541 y0X12_part ysX12_part rfl (Nat.le_of_ble_eq_true rfl) (by decide) (Nat.le_of_ble_eq_true rfl) rfl rfl rfl (t_X12_part hG ⟨rfl, rfl⟩ g13) ?_
      obtain ⟨V15, hV15⟩ : ∃ z : sv_V, z = sv_I V12 146 105 x14 := ⟨_, rfl⟩
      have h := sx_letE hV15 h
      refine sv_putI (pc := 87) hG dX12_direction_87 f_12_533 lay_146 rfl hV15 ?_
      refine sx_aload_n (pc := 90) dX12_direction_90 sx_m1 ?_
      refine sx_iload (pc := 91) dX12_direction_91 sx_m3 ?_
      refine sx_lload (pc := 93) dX12_direction_93 sx_m0 ?_
      obtain ⟨⟨x18, V16⟩, g17, h⟩ := sx_bnd h
      refine sv_cS (pc := 95) (y := qX12_part) (o := (some (.int x18))) (as := [.int l4, .long x11]) (V1 := V16) dX12_direction_95 l_X12_541 y0X12_part ysX12_part rfl (Nat.le_of_ble_eq_true rfl) (by decide) (Nat.le_of_ble_eq_true rfl) rfl rfl rfl (t_X12_part hG ⟨rfl, rfl⟩ g17) ?_
      obtain ⟨V19, hV19⟩ : ∃ z : sv_V, z = sv_I V16 146 106 x18 := ⟨_, rfl⟩
      have h := sx_letE hV19 h
      refine sv_putI (pc := 98) hG dX12_direction_98 f_12_536 lay_146 rfl hV19 ?_
      exact sv_vret (pc := 101) dX12_direction_101 rfl h hP
    · have h := sx_neg c10 h
      refine sx_wk (sx_s1 sx_m0 (sx_s1 sx_m1 (sx_s1 sx_m2 sx_s0))) ?_
      exact tB_X12_direction_52 hG hP hk27 h
theorem tL_X12_direction_27 {g : sx_G} (hG : sx_Go g) {P : Option Value → sv_V → Prop} {Vr : sv_V} (hP : P none Vr) {N : Nat}   : ∀ (n : Nat) (l3 : Int32) (l4 : Int32) (V : sv_V), sx_lp3 (B_X12_direction_27 N ) n l3 l4 V = some Vr → sv_N g qX12_direction 2 27 [(0, .ref 146), (3, .int l3), (4, .int l4)] [] V P :=
  sx_lp3_ind (fun k0 ih _ _ V h => tB_X12_direction_27 hG hP ih h)
def F_X12_direction (N : Nat) (l1 : Int32) (l2 : Int32) (V : sv_V) : Option sv_V := if l1 = 0 then (if l2 = 0 then (sx_let (sv_I V 146 105 (16384 : Int32)) (fun V22 => sx_let (sv_I V22 146 106 (0 : Int32)) (fun V23 => some V23))) else (sx_lp3 (B_X12_direction_27 N ) N l1 l2 V)) else (sx_lp3 (B_X12_direction_27 N ) N l1 l2 V)
set_option maxRecDepth 20000 in
theorem t_X12_direction {g : sx_G} (hG : sx_Go g) {P : Option Value → sv_V → Prop} {Vr : sv_V} (hP : P none Vr) {N : Nat} {l1 : Int32} {l2 : Int32} {V : sv_V} (h : F_X12_direction N l1 l2 V = some Vr) : sv_N g qX12_direction 2 0 [(0, .ref 146), (1, .int l1), (2, .int l2)] [] V P := by
  unfold F_X12_direction at h
  refine sx_iload_n (pc := 0) dX12_direction_0 sx_m1 ?_
  refine sx_istore_n (pc := 1) (lo' := [(3, .int l1), (0, .ref 146), (1, .int l1), (2, .int l2)]) dX12_direction_1 (by decide) rfl ?_
  refine sx_iload_n (pc := 2) dX12_direction_2 sx_m3 ?_
  refine sx_istore (pc := 3) (lo' := [(4, .int l2), (3, .int l1), (0, .ref 146), (1, .int l1), (2, .int l2)]) dX12_direction_3 (by decide) rfl ?_
  refine sx_iload_n (pc := 5) dX12_direction_5 sx_m1 ?_
  refine sx_if_ne (pc := 6) (tgt := 27) dX12_direction_6 (by decide) (fun c20 => ?_) (fun c20 => ?_)
  · have h := sx_neg c20 h
    refine sx_wk (sx_s1 sx_m2 (sx_s1 sx_m1 (sx_s1 sx_m0 sx_s0))) ?_
    exact tL_X12_direction_27 hG hP  N _ _ _ h
  · have h := sx_pos c20 h
    refine sx_iload (pc := 9) dX12_direction_9 sx_m0 ?_
    refine sx_if_ne (pc := 11) (tgt := 27) dX12_direction_11 (by decide) (fun c21 => ?_) (fun c21 => ?_)
    · have h := sx_neg c21 h
      refine sx_wk (sx_s1 sx_m2 (sx_s1 sx_m1 (sx_s1 sx_m0 sx_s0))) ?_
      exact tL_X12_direction_27 hG hP  N _ _ _ h
    · have h := sx_pos c21 h
      refine sx_aload_n (pc := 14) dX12_direction_14 sx_m2 ?_
      refine sx_sipush (pc := 15) (v := 16384) dX12_direction_15 (by decide) ?_
      obtain ⟨V22, hV22⟩ : ∃ z : sv_V, z = sv_I V 146 105 (16384 : Int32) := ⟨_, rfl⟩
      have h := sx_letE hV22 h
      refine sv_putI (pc := 18) hG dX12_direction_18 f_12_533 lay_146 rfl hV22 ?_
      refine sx_aload_n (pc := 21) dX12_direction_21 sx_m2 ?_
      refine sx_iconst (pc := 22) (v := 0) dX12_direction_22 (by decide) ?_
      obtain ⟨V23, hV23⟩ : ∃ z : sv_V, z = sv_I V22 146 106 (0 : Int32) := ⟨_, rfl⟩
      have h := sx_letE hV23 h
      refine sv_putI (pc := 23) hG dX12_direction_23 f_12_536 lay_146 rfl hV23 ?_
      exact sv_vret (pc := 26) dX12_direction_26 rfl h hP
def ncX12_follow : Nat := 35046953231757228780452501306097836644079428333640807308240452440952529309670584814878032228651445984699662187544005473801825080067576954387979475341213191231157181837498009452017247141977756086012909965772794448646160630546509307295106145932426350694317763532561195374854106564204290975252361963857942098297300874499986730
theorem kcX12_follow : CK cX12_follow ncX12_follow 134 := ⟨by decide +kernel, by decide +kernel⟩
theorem dX12_follow_0 : decode cX12_follow 0 = .ok (.aload_n 0, 1) := dl_o42 kcX12_follow (by decide +kernel)
theorem dX12_follow_1 : decode cX12_follow 1 = .ok (.iload 4, 2) := dl_o21 kcX12_follow (by decide +kernel)
theorem dX12_follow_3 : decode cX12_follow 3 = .ok (.iaload, 1) := dl_o46 kcX12_follow (by decide +kernel)
theorem dX12_follow_4 : decode cX12_follow 4 = .ok (.aload_n 0, 1) := dl_o42 kcX12_follow (by decide +kernel)
theorem dX12_follow_5 : decode cX12_follow 5 = .ok (.iload_n 3, 1) := dl_o29 kcX12_follow (by decide +kernel)
theorem dX12_follow_6 : decode cX12_follow 6 = .ok (.iaload, 1) := dl_o46 kcX12_follow (by decide +kernel)
theorem dX12_follow_7 : decode cX12_follow 7 = .ok (.if_icmp .ge 8, 3) := dl_o162 kcX12_follow 8 (by decide +kernel) (by decide +kernel)
theorem dX12_follow_10 : decode cX12_follow 10 = .ok (.iload 4, 2) := dl_o21 kcX12_follow (by decide +kernel)
theorem dX12_follow_12 : decode cX12_follow 12 = .ok (.goto 4, 3) := dl_o167 kcX12_follow 4 (by decide +kernel) (by decide +kernel)
theorem dX12_follow_15 : decode cX12_follow 15 = .ok (.iload_n 3, 1) := dl_o29 kcX12_follow (by decide +kernel)
theorem dX12_follow_16 : decode cX12_follow 16 = .ok (.istore 5, 2) := dl_o54 kcX12_follow (by decide +kernel)
theorem dX12_follow_18 : decode cX12_follow 18 = .ok (.iload 5, 2) := dl_o21 kcX12_follow (by decide +kernel)
theorem dX12_follow_20 : decode cX12_follow 20 = .ok (.iload_n 3, 1) := dl_o29 kcX12_follow (by decide +kernel)
theorem dX12_follow_21 : decode cX12_follow 21 = .ok (.if_icmp .ne 8, 3) := dl_o160 kcX12_follow 8 (by decide +kernel) (by decide +kernel)
theorem dX12_follow_24 : decode cX12_follow 24 = .ok (.iload 4, 2) := dl_o21 kcX12_follow (by decide +kernel)
theorem dX12_follow_26 : decode cX12_follow 26 = .ok (.goto 4, 3) := dl_o167 kcX12_follow 4 (by decide +kernel) (by decide +kernel)
theorem dX12_follow_29 : decode cX12_follow 29 = .ok (.iload_n 3, 1) := dl_o29 kcX12_follow (by decide +kernel)
theorem dX12_follow_30 : decode cX12_follow 30 = .ok (.istore 6, 2) := dl_o54 kcX12_follow (by decide +kernel)
theorem dX12_follow_32 : decode cX12_follow 32 = .ok (.aload_n 0, 1) := dl_o42 kcX12_follow (by decide +kernel)
theorem dX12_follow_33 : decode cX12_follow 33 = .ok (.iload_n 2, 1) := dl_o28 kcX12_follow (by decide +kernel)
theorem dX12_follow_34 : decode cX12_follow 34 = .ok (.iaload, 1) := dl_o46 kcX12_follow (by decide +kernel)
theorem dX12_follow_35 : decode cX12_follow 35 = .ok (.aload_n 0, 1) := dl_o42 kcX12_follow (by decide +kernel)
theorem dX12_follow_36 : decode cX12_follow 36 = .ok (.iload 5, 2) := dl_o21 kcX12_follow (by decide +kernel)
theorem dX12_follow_38 : decode cX12_follow 38 = .ok (.iaload, 1) := dl_o46 kcX12_follow (by decide +kernel)
theorem dX12_follow_39 : decode cX12_follow 39 = .ok (.if_icmp .gt 22, 3) := dl_o163 kcX12_follow 22 (by decide +kernel) (by decide +kernel)
theorem dX12_follow_42 : decode cX12_follow 42 = .ok (.aload_n 1, 1) := dl_o43 kcX12_follow (by decide +kernel)
theorem dX12_follow_43 : decode cX12_follow 43 = .ok (.iload_n 2, 1) := dl_o28 kcX12_follow (by decide +kernel)
theorem dX12_follow_44 : decode cX12_follow 44 = .ok (.aload_n 0, 1) := dl_o42 kcX12_follow (by decide +kernel)
theorem dX12_follow_45 : decode cX12_follow 45 = .ok (.iload_n 2, 1) := dl_o28 kcX12_follow (by decide +kernel)
theorem dX12_follow_46 : decode cX12_follow 46 = .ok (.iaload, 1) := dl_o46 kcX12_follow (by decide +kernel)
theorem dX12_follow_47 : decode cX12_follow 47 = .ok (.aload_n 1, 1) := dl_o43 kcX12_follow (by decide +kernel)
theorem dX12_follow_48 : decode cX12_follow 48 = .ok (.iload 5, 2) := dl_o21 kcX12_follow (by decide +kernel)
theorem dX12_follow_50 : decode cX12_follow 50 = .ok (.iaload, 1) := dl_o46 kcX12_follow (by decide +kernel)
theorem dX12_follow_51 : decode cX12_follow 51 = .ok (.aload_n 0, 1) := dl_o42 kcX12_follow (by decide +kernel)
theorem dX12_follow_52 : decode cX12_follow 52 = .ok (.iload 5, 2) := dl_o21 kcX12_follow (by decide +kernel)
theorem dX12_follow_54 : decode cX12_follow 54 = .ok (.iaload, 1) := dl_o46 kcX12_follow (by decide +kernel)
theorem dX12_follow_55 : decode cX12_follow 55 = .ok (.isub, 1) := dl_o100 kcX12_follow (by decide +kernel)
theorem dX12_follow_56 : decode cX12_follow 56 = .ok (.iadd, 1) := dl_o96 kcX12_follow (by decide +kernel)
theorem dX12_follow_57 : decode cX12_follow 57 = .ok (.iastore, 1) := dl_o79 kcX12_follow (by decide +kernel)
theorem dX12_follow_58 : decode cX12_follow 58 = .ok (.goto 75, 3) := dl_o167 kcX12_follow 75 (by decide +kernel) (by decide +kernel)
theorem dX12_follow_61 : decode cX12_follow 61 = .ok (.aload_n 0, 1) := dl_o42 kcX12_follow (by decide +kernel)
theorem dX12_follow_62 : decode cX12_follow 62 = .ok (.iload_n 2, 1) := dl_o28 kcX12_follow (by decide +kernel)
theorem dX12_follow_63 : decode cX12_follow 63 = .ok (.iaload, 1) := dl_o46 kcX12_follow (by decide +kernel)
theorem dX12_follow_64 : decode cX12_follow 64 = .ok (.aload_n 0, 1) := dl_o42 kcX12_follow (by decide +kernel)
theorem dX12_follow_65 : decode cX12_follow 65 = .ok (.iload 6, 2) := dl_o21 kcX12_follow (by decide +kernel)
theorem dX12_follow_67 : decode cX12_follow 67 = .ok (.iaload, 1) := dl_o46 kcX12_follow (by decide +kernel)
theorem dX12_follow_68 : decode cX12_follow 68 = .ok (.if_icmp .lt 22, 3) := dl_o161 kcX12_follow 22 (by decide +kernel) (by decide +kernel)
theorem dX12_follow_71 : decode cX12_follow 71 = .ok (.aload_n 1, 1) := dl_o43 kcX12_follow (by decide +kernel)
theorem dX12_follow_72 : decode cX12_follow 72 = .ok (.iload_n 2, 1) := dl_o28 kcX12_follow (by decide +kernel)
theorem dX12_follow_73 : decode cX12_follow 73 = .ok (.aload_n 0, 1) := dl_o42 kcX12_follow (by decide +kernel)
theorem dX12_follow_74 : decode cX12_follow 74 = .ok (.iload_n 2, 1) := dl_o28 kcX12_follow (by decide +kernel)
theorem dX12_follow_75 : decode cX12_follow 75 = .ok (.iaload, 1) := dl_o46 kcX12_follow (by decide +kernel)
theorem dX12_follow_76 : decode cX12_follow 76 = .ok (.aload_n 1, 1) := dl_o43 kcX12_follow (by decide +kernel)
theorem dX12_follow_77 : decode cX12_follow 77 = .ok (.iload 6, 2) := dl_o21 kcX12_follow (by decide +kernel)
theorem dX12_follow_79 : decode cX12_follow 79 = .ok (.iaload, 1) := dl_o46 kcX12_follow (by decide +kernel)
theorem dX12_follow_80 : decode cX12_follow 80 = .ok (.aload_n 0, 1) := dl_o42 kcX12_follow (by decide +kernel)
theorem dX12_follow_81 : decode cX12_follow 81 = .ok (.iload 6, 2) := dl_o21 kcX12_follow (by decide +kernel)
theorem dX12_follow_83 : decode cX12_follow 83 = .ok (.iaload, 1) := dl_o46 kcX12_follow (by decide +kernel)
theorem dX12_follow_84 : decode cX12_follow 84 = .ok (.isub, 1) := dl_o100 kcX12_follow (by decide +kernel)
theorem dX12_follow_85 : decode cX12_follow 85 = .ok (.iadd, 1) := dl_o96 kcX12_follow (by decide +kernel)
theorem dX12_follow_86 : decode cX12_follow 86 = .ok (.iastore, 1) := dl_o79 kcX12_follow (by decide +kernel)
theorem dX12_follow_87 : decode cX12_follow 87 = .ok (.goto 46, 3) := dl_o167 kcX12_follow 46 (by decide +kernel) (by decide +kernel)
theorem dX12_follow_90 : decode cX12_follow 90 = .ok (.aload_n 1, 1) := dl_o43 kcX12_follow (by decide +kernel)
theorem dX12_follow_91 : decode cX12_follow 91 = .ok (.iload_n 2, 1) := dl_o28 kcX12_follow (by decide +kernel)
theorem dX12_follow_92 : decode cX12_follow 92 = .ok (.aload_n 1, 1) := dl_o43 kcX12_follow (by decide +kernel)
theorem dX12_follow_93 : decode cX12_follow 93 = .ok (.iload 5, 2) := dl_o21 kcX12_follow (by decide +kernel)
theorem dX12_follow_95 : decode cX12_follow 95 = .ok (.iaload, 1) := dl_o46 kcX12_follow (by decide +kernel)
theorem dX12_follow_96 : decode cX12_follow 96 = .ok (.i2l, 1) := dl_o133 kcX12_follow (by decide +kernel)
theorem dX12_follow_97 : decode cX12_follow 97 = .ok (.aload_n 0, 1) := dl_o42 kcX12_follow (by decide +kernel)
theorem dX12_follow_98 : decode cX12_follow 98 = .ok (.iload_n 2, 1) := dl_o28 kcX12_follow (by decide +kernel)
theorem dX12_follow_99 : decode cX12_follow 99 = .ok (.iaload, 1) := dl_o46 kcX12_follow (by decide +kernel)
theorem dX12_follow_100 : decode cX12_follow 100 = .ok (.aload_n 0, 1) := dl_o42 kcX12_follow (by decide +kernel)
theorem dX12_follow_101 : decode cX12_follow 101 = .ok (.iload 5, 2) := dl_o21 kcX12_follow (by decide +kernel)
theorem dX12_follow_103 : decode cX12_follow 103 = .ok (.iaload, 1) := dl_o46 kcX12_follow (by decide +kernel)
theorem dX12_follow_104 : decode cX12_follow 104 = .ok (.isub, 1) := dl_o100 kcX12_follow (by decide +kernel)
theorem dX12_follow_105 : decode cX12_follow 105 = .ok (.i2l, 1) := dl_o133 kcX12_follow (by decide +kernel)
theorem dX12_follow_106 : decode cX12_follow 106 = .ok (.aload_n 1, 1) := dl_o43 kcX12_follow (by decide +kernel)
theorem dX12_follow_107 : decode cX12_follow 107 = .ok (.iload 6, 2) := dl_o21 kcX12_follow (by decide +kernel)
theorem dX12_follow_109 : decode cX12_follow 109 = .ok (.iaload, 1) := dl_o46 kcX12_follow (by decide +kernel)
theorem dX12_follow_110 : decode cX12_follow 110 = .ok (.aload_n 1, 1) := dl_o43 kcX12_follow (by decide +kernel)
theorem dX12_follow_111 : decode cX12_follow 111 = .ok (.iload 5, 2) := dl_o21 kcX12_follow (by decide +kernel)
theorem dX12_follow_113 : decode cX12_follow 113 = .ok (.iaload, 1) := dl_o46 kcX12_follow (by decide +kernel)
theorem dX12_follow_114 : decode cX12_follow 114 = .ok (.isub, 1) := dl_o100 kcX12_follow (by decide +kernel)
theorem dX12_follow_115 : decode cX12_follow 115 = .ok (.i2l, 1) := dl_o133 kcX12_follow (by decide +kernel)
theorem dX12_follow_116 : decode cX12_follow 116 = .ok (.lmul, 1) := dl_o105 kcX12_follow (by decide +kernel)
theorem dX12_follow_117 : decode cX12_follow 117 = .ok (.aload_n 0, 1) := dl_o42 kcX12_follow (by decide +kernel)
theorem dX12_follow_118 : decode cX12_follow 118 = .ok (.iload 6, 2) := dl_o21 kcX12_follow (by decide +kernel)
theorem dX12_follow_120 : decode cX12_follow 120 = .ok (.iaload, 1) := dl_o46 kcX12_follow (by decide +kernel)
theorem dX12_follow_121 : decode cX12_follow 121 = .ok (.aload_n 0, 1) := dl_o42 kcX12_follow (by decide +kernel)
theorem dX12_follow_122 : decode cX12_follow 122 = .ok (.iload 5, 2) := dl_o21 kcX12_follow (by decide +kernel)
theorem dX12_follow_124 : decode cX12_follow 124 = .ok (.iaload, 1) := dl_o46 kcX12_follow (by decide +kernel)
theorem dX12_follow_125 : decode cX12_follow 125 = .ok (.isub, 1) := dl_o100 kcX12_follow (by decide +kernel)
theorem dX12_follow_126 : decode cX12_follow 126 = .ok (.i2l, 1) := dl_o133 kcX12_follow (by decide +kernel)
theorem dX12_follow_127 : decode cX12_follow 127 = .ok (.invokestatic 194, 3) := dl_o184 kcX12_follow (by decide +kernel)
theorem dX12_follow_130 : decode cX12_follow 130 = .ok (.ladd, 1) := dl_o97 kcX12_follow (by decide +kernel)
theorem dX12_follow_131 : decode cX12_follow 131 = .ok (.l2i, 1) := dl_o136 kcX12_follow (by decide +kernel)
theorem dX12_follow_132 : decode cX12_follow 132 = .ok (.iastore, 1) := dl_o79 kcX12_follow (by decide +kernel)
theorem dX12_follow_133 : decode cX12_follow 133 = .ok (.return_, 1) := dl_o177 kcX12_follow (by decide +kernel)
def B_X12_follow_30  (l0 : Nat) (l1 : Nat) (l2 : Int32) (l5 : Int32) (s0 : Int32) (V : sv_V) : Option sv_V := (sv_len 0 l0).bind (fun n1 => if sx_in l2 n1 = true then if sx_in l5 n1 = true then if (V.1 l0 l5.toNatClampNeg) < (V.1 l0 l2.toNatClampNeg) then (if sx_in l2 n1 = true then if sx_in s0 n1 = true then if (V.1 l0 l2.toNatClampNeg) < (V.1 l0 s0.toNatClampNeg) then ((sv_len 0 l1).bind (fun n9 => if sx_in l5 n9 = true then if sx_in l2 n1 = true then if sx_in l5 n1 = true then if sx_in s0 n9 = true then if sx_in l5 n9 = true then if sx_in s0 n1 = true then if sx_in l5 n1 = true then (F_X12_nearest ((((V.1 l0 l2.toNatClampNeg) - (V.1 l0 l5.toNatClampNeg)).toInt64) * (((V.1 l1 s0.toNatClampNeg) - (V.1 l1 l5.toNatClampNeg)).toInt64)) (((V.1 l0 s0.toNatClampNeg) - (V.1 l0 l5.toNatClampNeg)).toInt64) V).bind (fun (x20, V18) => if sx_in l2 n9 = true then sx_let (sv_I V18 l1 l2.toNatClampNeg ((((V.1 l1 l5.toNatClampNeg).toInt64) + x20).toInt32)) (fun V22 => some V22) else none) else none else none else none else none else none else none else none)) else (if sx_in l2 n1 = true then (sv_len 0 l1).bind (fun n24 => if sx_in s0 n24 = true then if sx_in s0 n1 = true then if sx_in l2 n24 = true then sx_let (sv_I V l1 l2.toNatClampNeg ((V.1 l0 l2.toNatClampNeg) + ((V.1 l1 s0.toNatClampNeg) - (V.1 l0 s0.toNatClampNeg)))) (fun V29 => some V29) else none else none else none) else none) else none else none) else (if sx_in l2 n1 = true then (sv_len 0 l1).bind (fun n31 => if sx_in l5 n31 = true then if sx_in l5 n1 = true then if sx_in l2 n31 = true then sx_let (sv_I V l1 l2.toNatClampNeg ((V.1 l0 l2.toNatClampNeg) + ((V.1 l1 l5.toNatClampNeg) - (V.1 l0 l5.toNatClampNeg)))) (fun V36 => some V36) else none else none else none) else none) else none else none)
set_option maxRecDepth 20000 in
theorem tB_X12_follow_30 {g : sx_G} (hG : sx_Go g) {P : Option Value → sv_V → Prop} {Vr : sv_V} (hP : P none Vr)   {l0 : Nat} {l1 : Nat} {l2 : Int32} {l5 : Int32} {s0 : Int32} {V : sv_V} (h : B_X12_follow_30  l0 l1 l2 l5 s0 V = some Vr) : sv_N g qX12_follow 2 30 [(0, .ref l0), (1, .ref l1), (2, .int l2), (5, .int l5)] [.int s0] V P := by
  unfold B_X12_follow_30 at h
  refine sx_istore (pc := 30) (lo' := [(6, .int s0), (0, .ref l0), (1, .ref l1), (2, .int l2), (5, .int l5)]) dX12_follow_30 (by decide) rfl ?_
  refine sx_aload_n (pc := 32) dX12_follow_32 sx_m1 ?_
  refine sx_iload_n (pc := 33) dX12_follow_33 sx_m3 ?_
  obtain ⟨n1, g2, h⟩ := sx_bnd h
  obtain ⟨g3, h⟩ := sx_grd h
  refine sv_iald (pc := 34) hG dX12_follow_34 (sv_len_e g2) g3 ?_
  refine sx_aload_n (pc := 35) dX12_follow_35 sx_m1 ?_
  refine sx_iload (pc := 36) dX12_follow_36 sx_m4 ?_
  obtain ⟨g4, h⟩ := sx_grd h
  refine sv_iald (pc := 38) hG dX12_follow_38 (sv_len_e g2) g4 ?_
  refine sx_icmp_gt (pc := 39) (tgt := 61) dX12_follow_39 (by decide) (fun c5 => ?_) (fun c5 => ?_)
  · have h := sx_pos c5 h
    refine sx_aload_n (pc := 61) dX12_follow_61 sx_m1 ?_
    refine sx_iload_n (pc := 62) dX12_follow_62 sx_m3 ?_
    obtain ⟨g6, h⟩ := sx_grd h
    refine sv_iald (pc := 63) hG dX12_follow_63 (sv_len_e g2) g6 ?_
    refine sx_aload_n (pc := 64) dX12_follow_64 sx_m1 ?_
    refine sx_iload (pc := 65) dX12_follow_65 sx_m0 ?_
    obtain ⟨g7, h⟩ := sx_grd h
    refine sv_iald (pc := 67) hG dX12_follow_67 (sv_len_e g2) g7 ?_
    refine sx_icmp_lt (pc := 68) (tgt := 90) dX12_follow_68 (by decide) (fun c8 => ?_) (fun c8 => ?_)
    · have h := sx_pos c8 h
      refine sx_aload_n (pc := 90) dX12_follow_90 sx_m2 ?_
      refine sx_iload_n (pc := 91) dX12_follow_91 sx_m3 ?_
      refine sx_aload_n (pc := 92) dX12_follow_92 sx_m2 ?_
      refine sx_iload (pc := 93) dX12_follow_93 sx_m4 ?_
      obtain ⟨n9, g10, h⟩ := sx_bnd h
      obtain ⟨g11, h⟩ := sx_grd h
      refine sv_iald (pc := 95) hG dX12_follow_95 (sv_len_e g10) g11 ?_
      refine sx_i2l (pc := 96) dX12_follow_96 ?_
      refine sx_aload_n (pc := 97) dX12_follow_97 sx_m1 ?_
      refine sx_iload_n (pc := 98) dX12_follow_98 sx_m3 ?_
      obtain ⟨g12, h⟩ := sx_grd h
      refine sv_iald (pc := 99) hG dX12_follow_99 (sv_len_e g2) g12 ?_
      refine sx_aload_n (pc := 100) dX12_follow_100 sx_m1 ?_
      refine sx_iload (pc := 101) dX12_follow_101 sx_m4 ?_
      obtain ⟨g13, h⟩ := sx_grd h
      refine sv_iald (pc := 103) hG dX12_follow_103 (sv_len_e g2) g13 ?_
      refine sx_isub (pc := 104) dX12_follow_104 ?_
      refine sx_i2l (pc := 105) dX12_follow_105 ?_
      refine sx_aload_n (pc := 106) dX12_follow_106 sx_m2 ?_
      refine sx_iload (pc := 107) dX12_follow_107 sx_m0 ?_
      obtain ⟨g14, h⟩ := sx_grd h
      refine sv_iald (pc := 109) hG dX12_follow_109 (sv_len_e g10) g14 ?_
      refine sx_aload_n (pc := 110) dX12_follow_110 sx_m2 ?_
      refine sx_iload (pc := 111) dX12_follow_111 sx_m4 ?_
      obtain ⟨g15, h⟩ := sx_grd h
      refine sv_iald (pc := 113) hG dX12_follow_113 (sv_len_e g10) g15 ?_
      refine sx_isub (pc := 114) dX12_follow_114 ?_
      refine sx_i2l (pc := 115) dX12_follow_115 ?_
      refine sx_lmul (pc := 116) dX12_follow_116 ?_
      refine sx_aload_n (pc := 117) dX12_follow_117 sx_m1 ?_
      refine sx_iload (pc := 118) dX12_follow_118 sx_m0 ?_
      obtain ⟨g16, h⟩ := sx_grd h
      refine sv_iald (pc := 120) hG dX12_follow_120 (sv_len_e g2) g16 ?_
      refine sx_aload_n (pc := 121) dX12_follow_121 sx_m1 ?_
      refine sx_iload (pc := 122) dX12_follow_122 sx_m4 ?_
      obtain ⟨g17, h⟩ := sx_grd h
      refine sv_iald (pc := 124) hG dX12_follow_124 (sv_len_e g2) g17 ?_
      refine sx_isub (pc := 125) dX12_follow_125 ?_
      refine sx_i2l (pc := 126) dX12_follow_126 ?_
      obtain ⟨⟨x20, V18⟩, g19, h⟩ := sx_bnd h
      refine sv_cS (pc := 127) (y := qX12_nearest) (o := (some (.long x20))) (as := [.long ((((V.1 l0 l2.toNatClampNeg) - (V.1 l0 l5.toNatClampNeg)).toInt64) * (((V.1 l1 s0.toNatClampNeg) - (V.1 l1 l5.toNatClampNeg)).toInt64)), .long (((V.1 l0 s0.toNatClampNeg) - (V.1 l0 l5.toNatClampNeg)).toInt64)]) (V1 := V18) dX12_follow_127 l_X12_194 y0X12_nearest ysX12_nearest rfl (Nat.le_of_ble_eq_true rfl) (by decide) (Nat.le_of_ble_eq_true rfl) rfl rfl rfl (t_X12_nearest hG ⟨rfl, rfl⟩ g19) ?_
      refine sx_ladd (pc := 130) dX12_follow_130 ?_
      refine sx_l2i (pc := 131) dX12_follow_131 ?_
      obtain ⟨g21, h⟩ := sx_grd h
      obtain ⟨V22, hV22⟩ : ∃ z : sv_V, z = sv_I V18 l1 l2.toNatClampNeg ((((V.1 l1 l5.toNatClampNeg).toInt64) + x20).toInt32) := ⟨_, rfl⟩
      have h := sx_letE hV22 h
      refine sv_iast (pc := 132) hG dX12_follow_132 (sv_len_e g10) g21 hV22 ?_
      exact sv_vret (pc := 133) dX12_follow_133 rfl h hP
    · have h := sx_neg c8 h
      refine sx_aload_n (pc := 71) dX12_follow_71 sx_m2 ?_
      refine sx_iload_n (pc := 72) dX12_follow_72 sx_m3 ?_
      refine sx_aload_n (pc := 73) dX12_follow_73 sx_m1 ?_
      refine sx_iload_n (pc := 74) dX12_follow_74 sx_m3 ?_
      obtain ⟨g23, h⟩ := sx_grd h
      refine sv_iald (pc := 75) hG dX12_follow_75 (sv_len_e g2) g23 ?_
      refine sx_aload_n (pc := 76) dX12_follow_76 sx_m2 ?_
      refine sx_iload (pc := 77) dX12_follow_77 sx_m0 ?_
      obtain ⟨n24, g25, h⟩ := sx_bnd h
      obtain ⟨g26, h⟩ := sx_grd h
      refine sv_iald (pc := 79) hG dX12_follow_79 (sv_len_e g25) g26 ?_
      refine sx_aload_n (pc := 80) dX12_follow_80 sx_m1 ?_
      refine sx_iload (pc := 81) dX12_follow_81 sx_m0 ?_
      obtain ⟨g27, h⟩ := sx_grd h
      refine sv_iald (pc := 83) hG dX12_follow_83 (sv_len_e g2) g27 ?_
      refine sx_isub (pc := 84) dX12_follow_84 ?_
      refine sx_iadd (pc := 85) dX12_follow_85 ?_
      obtain ⟨g28, h⟩ := sx_grd h
      obtain ⟨V29, hV29⟩ : ∃ z : sv_V, z = sv_I V l1 l2.toNatClampNeg ((V.1 l0 l2.toNatClampNeg) + ((V.1 l1 s0.toNatClampNeg) - (V.1 l0 s0.toNatClampNeg))) := ⟨_, rfl⟩
      have h := sx_letE hV29 h
      refine sv_iast (pc := 86) hG dX12_follow_86 (sv_len_e g25) g28 hV29 ?_
      refine sx_goto (pc := 87) (tgt := 133) dX12_follow_87 (by decide) ?_
      exact sv_vret (pc := 133) dX12_follow_133 rfl h hP
  · have h := sx_neg c5 h
    refine sx_aload_n (pc := 42) dX12_follow_42 sx_m2 ?_
    refine sx_iload_n (pc := 43) dX12_follow_43 sx_m3 ?_
    refine sx_aload_n (pc := 44) dX12_follow_44 sx_m1 ?_
    refine sx_iload_n (pc := 45) dX12_follow_45 sx_m3 ?_
    obtain ⟨g30, h⟩ := sx_grd h
    refine sv_iald (pc := 46) hG dX12_follow_46 (sv_len_e g2) g30 ?_
    refine sx_aload_n (pc := 47) dX12_follow_47 sx_m2 ?_
    refine sx_iload (pc := 48) dX12_follow_48 sx_m4 ?_
    obtain ⟨n31, g32, h⟩ := sx_bnd h
    obtain ⟨g33, h⟩ := sx_grd h
    refine sv_iald (pc := 50) hG dX12_follow_50 (sv_len_e g32) g33 ?_
    refine sx_aload_n (pc := 51) dX12_follow_51 sx_m1 ?_
    refine sx_iload (pc := 52) dX12_follow_52 sx_m4 ?_
    obtain ⟨g34, h⟩ := sx_grd h
    refine sv_iald (pc := 54) hG dX12_follow_54 (sv_len_e g2) g34 ?_
    refine sx_isub (pc := 55) dX12_follow_55 ?_
    refine sx_iadd (pc := 56) dX12_follow_56 ?_
    obtain ⟨g35, h⟩ := sx_grd h
    obtain ⟨V36, hV36⟩ : ∃ z : sv_V, z = sv_I V l1 l2.toNatClampNeg ((V.1 l0 l2.toNatClampNeg) + ((V.1 l1 l5.toNatClampNeg) - (V.1 l0 l5.toNatClampNeg))) := ⟨_, rfl⟩
    have h := sx_letE hV36 h
    refine sv_iast (pc := 57) hG dX12_follow_57 (sv_len_e g32) g35 hV36 ?_
    refine sx_goto (pc := 58) (tgt := 133) dX12_follow_58 (by decide) ?_
    exact sv_vret (pc := 133) dX12_follow_133 rfl h hP
def B_X12_follow_16  (l0 : Nat) (l1 : Nat) (l2 : Int32) (l3 : Int32) (l4 : Int32) (s0 : Int32) (V : sv_V) : Option sv_V := if s0 = l3 then (B_X12_follow_30  l0 l1 l2 s0 l4 V) else (B_X12_follow_30  l0 l1 l2 s0 l3 V)
set_option maxRecDepth 20000 in
theorem tB_X12_follow_16 {g : sx_G} (hG : sx_Go g) {P : Option Value → sv_V → Prop} {Vr : sv_V} (hP : P none Vr)   {l0 : Nat} {l1 : Nat} {l2 : Int32} {l3 : Int32} {l4 : Int32} {s0 : Int32} {V : sv_V} (h : B_X12_follow_16  l0 l1 l2 l3 l4 s0 V = some Vr) : sv_N g qX12_follow 2 16 [(0, .ref l0), (1, .ref l1), (2, .int l2), (3, .int l3), (4, .int l4)] [.int s0] V P := by
  unfold B_X12_follow_16 at h
  refine sx_istore (pc := 16) (lo' := [(5, .int s0), (0, .ref l0), (1, .ref l1), (2, .int l2), (3, .int l3), (4, .int l4)]) dX12_follow_16 (by decide) rfl ?_
  refine sx_iload (pc := 18) dX12_follow_18 sx_m0 ?_
  refine sx_iload_n (pc := 20) dX12_follow_20 sx_m4 ?_
  refine sx_icmp_ne (pc := 21) (tgt := 29) dX12_follow_21 (by decide) (fun c37 => ?_) (fun c37 => ?_)
  · have h := sx_neg c37 h
    refine sx_iload_n (pc := 29) dX12_follow_29 sx_m4 ?_
    refine sx_wk (sx_s1 sx_m1 (sx_s1 sx_m2 (sx_s1 sx_m3 (sx_s1 sx_m0 sx_s0)))) ?_
    exact tB_X12_follow_30 hG hP  h
  · have h := sx_pos c37 h
    refine sx_iload (pc := 24) dX12_follow_24 sx_m5 ?_
    refine sx_goto (pc := 26) (tgt := 30) dX12_follow_26 (by decide) ?_
    refine sx_wk (sx_s1 sx_m1 (sx_s1 sx_m2 (sx_s1 sx_m3 (sx_s1 sx_m0 sx_s0)))) ?_
    exact tB_X12_follow_30 hG hP  h
def F_X12_follow (l0 : Nat) (l1 : Nat) (l2 : Int32) (l3 : Int32) (l4 : Int32) (V : sv_V) : Option sv_V := (sv_len 0 l0).bind (fun n38 => if sx_in l4 n38 = true then if sx_in l3 n38 = true then if (V.1 l0 l3.toNatClampNeg) ≤ (V.1 l0 l4.toNatClampNeg) then (B_X12_follow_16  l0 l1 l2 l3 l4 l3 V) else (B_X12_follow_16  l0 l1 l2 l3 l4 l4 V) else none else none)
set_option maxRecDepth 20000 in
theorem t_X12_follow {g : sx_G} (hG : sx_Go g) {P : Option Value → sv_V → Prop} {Vr : sv_V} (hP : P none Vr) {l0 : Nat} {l1 : Nat} {l2 : Int32} {l3 : Int32} {l4 : Int32} {V : sv_V} (h : F_X12_follow l0 l1 l2 l3 l4 V = some Vr) : sv_N g qX12_follow 2 0 [(0, .ref l0), (1, .ref l1), (2, .int l2), (3, .int l3), (4, .int l4)] [] V P := by
  unfold F_X12_follow at h
  refine sx_aload_n (pc := 0) dX12_follow_0 sx_m0 ?_
  refine sx_iload (pc := 1) dX12_follow_1 sx_m4 ?_
  obtain ⟨n38, g39, h⟩ := sx_bnd h
  obtain ⟨g40, h⟩ := sx_grd h
  refine sv_iald (pc := 3) hG dX12_follow_3 (sv_len_e g39) g40 ?_
  refine sx_aload_n (pc := 4) dX12_follow_4 sx_m0 ?_
  refine sx_iload_n (pc := 5) dX12_follow_5 sx_m3 ?_
  obtain ⟨g41, h⟩ := sx_grd h
  refine sv_iald (pc := 6) hG dX12_follow_6 (sv_len_e g39) g41 ?_
  refine sx_icmp_ge (pc := 7) (tgt := 15) dX12_follow_7 (by decide) (fun c42 => ?_) (fun c42 => ?_)
  · have h := sx_pos c42 h
    refine sx_iload_n (pc := 15) dX12_follow_15 sx_m3 ?_
    refine sx_wk (sx_s1 sx_m0 (sx_s1 sx_m1 (sx_s1 sx_m2 (sx_s1 sx_m3 (sx_s1 sx_m4 sx_s0))))) ?_
    exact tB_X12_follow_16 hG hP  h
  · have h := sx_neg c42 h
    refine sx_iload (pc := 10) dX12_follow_10 sx_m4 ?_
    refine sx_goto (pc := 12) (tgt := 16) dX12_follow_12 (by decide) ?_
    refine sx_wk (sx_s1 sx_m0 (sx_s1 sx_m1 (sx_s1 sx_m2 (sx_s1 sx_m3 (sx_s1 sx_m4 sx_s0))))) ?_
    exact tB_X12_follow_16 hG hP  h
end
section
/-! methods: X12_more, X2_findGlyph, X3_glyphHolds, X3_depthsHold, X4_tablesLieRight, X5_goAlongNumbers, X5_goAlongLine, X5_goAlongBothLines -/
def ncX12_more : Nat := 40296885020808439089116478105673925632256162995708066700752459691189142134916034643197848911511520817272560458044352402416162475498573428145565905197914646004324741471436191184678116997720131892818489258974922097517529376776693023258537508931500132403863074834010724012171422400377565103483671213639966778300426835530356895482243051021015498437501069809946272526522654361190963479120122550788588374078188342492554165385754387950197245193266629805273447817923103612269433771595974250308655061089025824078138585420063780949486208635223301884373333488570983008735064208022729163985314165220293337101706586247857129646080124858405287960111167558778040239751662999702173537004771899390273362066825992921881644869034147219652708429279831582599892644402354667256512285672530614573189794630275339022880446230893471382353688578392429714324118376261861594683942143995393263410620011751754858361574487591138127080766197624013034203378972603656898443870702017563650554910435465654312568774099136990331933996342359390976465643479337189233781170988106448578792041668229356874375751800275251147509066777129182320960502509542323232782636776107766967252250185093659928586933355046906449139255508321697612915558661058346530096952156104540889741469466567791469867365627805798399356866130107106895394367330623183432832003955594580109817828003915475455216925615944804510629178307171251805828567636183230258936479319363491501220501238833018867068433562576795345140036813751849856789396109664936633041257992744181016414999906094087130866943587435194810385370690559499250683941530915525667355
theorem kcX12_more : CK cX12_more ncX12_more 651 := ⟨by decide +kernel, by decide +kernel⟩
theorem dX12_more_0 : decode cX12_more 0 = .ok (.iload_n 1, 1) := dl_o27 kcX12_more (by decide +kernel)
theorem dX12_more_1 : decode cX12_more 1 = .ok (.tableswitch 644 128 141 #[71, 193, 193, 644, 644, 293, 314, 314, 512, 541, 546, 644, 644, 623], 71) := by decide +kernel
theorem dX12_more_72 : decode cX12_more 72 = .ok (.aload_n 0, 1) := dl_o42 kcX12_more (by decide +kernel)
theorem dX12_more_73 : decode cX12_more 73 = .ok (.aload_n 0, 1) := dl_o42 kcX12_more (by decide +kernel)
theorem dX12_more_74 : decode cX12_more 74 = .ok (.getfield 469, 3) := dl_o180 kcX12_more (by decide +kernel)
theorem dX12_more_77 : decode cX12_more 77 = .ok (.invokevirtual 576, 3) := dl_o182 kcX12_more (by decide +kernel)
theorem dX12_more_80 : decode cX12_more 80 = .ok (.ifCond .eq 113, 3) := dl_o153 kcX12_more 113 (by decide +kernel) (by decide +kernel)
theorem dX12_more_83 : decode cX12_more 83 = .ok (.iconst 0, 1) := dl_o3 kcX12_more (by decide +kernel)
theorem dX12_more_84 : decode cX12_more 84 = .ok (.istore_n 2, 1) := dl_o61 kcX12_more (by decide +kernel)
theorem dX12_more_85 : decode cX12_more 85 = .ok (.iload_n 2, 1) := dl_o28 kcX12_more (by decide +kernel)
theorem dX12_more_86 : decode cX12_more 86 = .ok (.aload_n 0, 1) := dl_o42 kcX12_more (by decide +kernel)
theorem dX12_more_87 : decode cX12_more 87 = .ok (.getfield 469, 3) := dl_o180 kcX12_more (by decide +kernel)
theorem dX12_more_90 : decode cX12_more 90 = .ok (.if_icmp .ge 98, 3) := dl_o162 kcX12_more 98 (by decide +kernel) (by decide +kernel)
theorem dX12_more_93 : decode cX12_more 93 = .ok (.aload_n 0, 1) := dl_o42 kcX12_more (by decide +kernel)
theorem dX12_more_94 : decode cX12_more 94 = .ok (.getfield 409, 3) := dl_o180 kcX12_more (by decide +kernel)
theorem dX12_more_97 : decode cX12_more 97 = .ok (.ifCond .ne 91, 3) := dl_o154 kcX12_more 91 (by decide +kernel) (by decide +kernel)
theorem dX12_more_100 : decode cX12_more 100 = .ok (.aload_n 0, 1) := dl_o42 kcX12_more (by decide +kernel)
theorem dX12_more_101 : decode cX12_more 101 = .ok (.aload_n 0, 1) := dl_o42 kcX12_more (by decide +kernel)
theorem dX12_more_102 : decode cX12_more 102 = .ok (.getfield 460, 3) := dl_o180 kcX12_more (by decide +kernel)
theorem dX12_more_105 : decode cX12_more 105 = .ok (.aload_n 0, 1) := dl_o42 kcX12_more (by decide +kernel)
theorem dX12_more_106 : decode cX12_more 106 = .ok (.invokevirtual 579, 3) := dl_o182 kcX12_more (by decide +kernel)
theorem dX12_more_109 : decode cX12_more 109 = .ok (.invokevirtual 582, 3) := dl_o182 kcX12_more (by decide +kernel)
theorem dX12_more_112 : decode cX12_more 112 = .ok (.istore_n 3, 1) := dl_o62 kcX12_more (by decide +kernel)
theorem dX12_more_113 : decode cX12_more 113 = .ok (.aload_n 0, 1) := dl_o42 kcX12_more (by decide +kernel)
theorem dX12_more_114 : decode cX12_more 114 = .ok (.getfield 409, 3) := dl_o180 kcX12_more (by decide +kernel)
theorem dX12_more_117 : decode cX12_more 117 = .ok (.ifCond .ne 32, 3) := dl_o154 kcX12_more 32 (by decide +kernel) (by decide +kernel)
theorem dX12_more_120 : decode cX12_more 120 = .ok (.aload_n 0, 1) := dl_o42 kcX12_more (by decide +kernel)
theorem dX12_more_121 : decode cX12_more 121 = .ok (.getfield 460, 3) := dl_o180 kcX12_more (by decide +kernel)
theorem dX12_more_124 : decode cX12_more 124 = .ok (.iconst 1, 1) := dl_o4 kcX12_more (by decide +kernel)
theorem dX12_more_125 : decode cX12_more 125 = .ok (.if_icmp .ne 16, 3) := dl_o160 kcX12_more 16 (by decide +kernel) (by decide +kernel)
theorem dX12_more_128 : decode cX12_more 128 = .ok (.iload_n 3, 1) := dl_o29 kcX12_more (by decide +kernel)
theorem dX12_more_129 : decode cX12_more 129 = .ok (.bipush 102, 2) := dl_o16 kcX12_more 102 (by decide +kernel) (by decide +kernel)
theorem dX12_more_131 : decode cX12_more 131 = .ok (.isub, 1) := dl_o100 kcX12_more (by decide +kernel)
theorem dX12_more_132 : decode cX12_more 132 = .ok (.aload_n 0, 1) := dl_o42 kcX12_more (by decide +kernel)
theorem dX12_more_133 : decode cX12_more 133 = .ok (.getfield 514, 3) := dl_o180 kcX12_more (by decide +kernel)
theorem dX12_more_136 : decode cX12_more 136 = .ok (.iconst 2, 1) := dl_o5 kcX12_more (by decide +kernel)
theorem dX12_more_137 : decode cX12_more 137 = .ok (.isub, 1) := dl_o100 kcX12_more (by decide +kernel)
theorem dX12_more_138 : decode cX12_more 138 = .ok (.if_icmp .lt 11, 3) := dl_o161 kcX12_more 11 (by decide +kernel) (by decide +kernel)
theorem dX12_more_141 : decode cX12_more 141 = .ok (.aload_n 0, 1) := dl_o42 kcX12_more (by decide +kernel)
theorem dX12_more_142 : decode cX12_more 142 = .ok (.iconst 5, 1) := dl_o8 kcX12_more (by decide +kernel)
theorem dX12_more_143 : decode cX12_more 143 = .ok (.invokevirtual 421, 3) := dl_o182 kcX12_more (by decide +kernel)
theorem dX12_more_146 : decode cX12_more 146 = .ok (.goto 36, 3) := dl_o167 kcX12_more 36 (by decide +kernel) (by decide +kernel)
theorem dX12_more_149 : decode cX12_more 149 = .ok (.aload_n 0, 1) := dl_o42 kcX12_more (by decide +kernel)
theorem dX12_more_150 : decode cX12_more 150 = .ok (.getfield 409, 3) := dl_o180 kcX12_more (by decide +kernel)
theorem dX12_more_153 : decode cX12_more 153 = .ok (.ifCond .ne 29, 3) := dl_o154 kcX12_more 29 (by decide +kernel) (by decide +kernel)
theorem dX12_more_156 : decode cX12_more 156 = .ok (.aload_n 0, 1) := dl_o42 kcX12_more (by decide +kernel)
theorem dX12_more_157 : decode cX12_more 157 = .ok (.getfield 85, 3) := dl_o180 kcX12_more (by decide +kernel)
theorem dX12_more_160 : decode cX12_more 160 = .ok (.iload_n 3, 1) := dl_o29 kcX12_more (by decide +kernel)
theorem dX12_more_161 : decode cX12_more 161 = .ok (.bipush 102, 2) := dl_o16 kcX12_more 102 (by decide +kernel) (by decide +kernel)
theorem dX12_more_163 : decode cX12_more 163 = .ok (.isub, 1) := dl_o100 kcX12_more (by decide +kernel)
theorem dX12_more_164 : decode cX12_more 164 = .ok (.aload_n 0, 1) := dl_o42 kcX12_more (by decide +kernel)
theorem dX12_more_165 : decode cX12_more 165 = .ok (.getfield 85, 3) := dl_o180 kcX12_more (by decide +kernel)
theorem dX12_more_168 : decode cX12_more 168 = .ok (.iload_n 3, 1) := dl_o29 kcX12_more (by decide +kernel)
theorem dX12_more_169 : decode cX12_more 169 = .ok (.bipush 102, 2) := dl_o16 kcX12_more 102 (by decide +kernel) (by decide +kernel)
theorem dX12_more_171 : decode cX12_more 171 = .ok (.isub, 1) := dl_o100 kcX12_more (by decide +kernel)
theorem dX12_more_172 : decode cX12_more 172 = .ok (.baload, 1) := dl_o51 kcX12_more (by decide +kernel)
theorem dX12_more_173 : decode cX12_more 173 = .ok (.ifCond .ne 7, 3) := dl_o154 kcX12_more 7 (by decide +kernel) (by decide +kernel)
theorem dX12_more_176 : decode cX12_more 176 = .ok (.iconst 1, 1) := dl_o4 kcX12_more (by decide +kernel)
theorem dX12_more_177 : decode cX12_more 177 = .ok (.goto 4, 3) := dl_o167 kcX12_more 4 (by decide +kernel) (by decide +kernel)
theorem dX12_more_180 : decode cX12_more 180 = .ok (.iconst 0, 1) := dl_o3 kcX12_more (by decide +kernel)
theorem dX12_more_181 : decode cX12_more 181 = .ok (.bastore, 1) := dl_o84 kcX12_more (by decide +kernel)
theorem dX12_more_182 : decode cX12_more 182 = .ok (.iinc 2 1, 3) := by decide +kernel
theorem dX12_more_185 : decode cX12_more 185 = .ok (.goto (-100), 3) := dl_o167 kcX12_more 65436 (by decide +kernel) (by decide +kernel)
theorem dX12_more_188 : decode cX12_more 188 = .ok (.aload_n 0, 1) := dl_o42 kcX12_more (by decide +kernel)
theorem dX12_more_189 : decode cX12_more 189 = .ok (.iconst 1, 1) := dl_o4 kcX12_more (by decide +kernel)
theorem dX12_more_190 : decode cX12_more 190 = .ok (.putfield 469, 3) := dl_o181 kcX12_more (by decide +kernel)
theorem dX12_more_193 : decode cX12_more 193 = .ok (.return_, 1) := dl_o177 kcX12_more (by decide +kernel)
theorem dX12_more_194 : decode cX12_more 194 = .ok (.aload_n 0, 1) := dl_o42 kcX12_more (by decide +kernel)
theorem dX12_more_195 : decode cX12_more 195 = .ok (.iconst 2, 1) := dl_o5 kcX12_more (by decide +kernel)
theorem dX12_more_196 : decode cX12_more 196 = .ok (.invokevirtual 576, 3) := dl_o182 kcX12_more (by decide +kernel)
theorem dX12_more_199 : decode cX12_more 199 = .ok (.ifCond .eq 94, 3) := dl_o153 kcX12_more 94 (by decide +kernel) (by decide +kernel)
theorem dX12_more_202 : decode cX12_more 202 = .ok (.aload_n 0, 1) := dl_o42 kcX12_more (by decide +kernel)
theorem dX12_more_203 : decode cX12_more 203 = .ok (.invokevirtual 579, 3) := dl_o182 kcX12_more (by decide +kernel)
theorem dX12_more_206 : decode cX12_more 206 = .ok (.istore_n 2, 1) := dl_o61 kcX12_more (by decide +kernel)
theorem dX12_more_207 : decode cX12_more 207 = .ok (.aload_n 0, 1) := dl_o42 kcX12_more (by decide +kernel)
theorem dX12_more_208 : decode cX12_more 208 = .ok (.invokevirtual 579, 3) := dl_o182 kcX12_more (by decide +kernel)
theorem dX12_more_211 : decode cX12_more 211 = .ok (.istore_n 3, 1) := dl_o62 kcX12_more (by decide +kernel)
theorem dX12_more_212 : decode cX12_more 212 = .ok (.aload_n 0, 1) := dl_o42 kcX12_more (by decide +kernel)
theorem dX12_more_213 : decode cX12_more 213 = .ok (.getfield 706, 3) := dl_o180 kcX12_more (by decide +kernel)
theorem dX12_more_216 : decode cX12_more 216 = .ok (.ifCond .ne 7, 3) := dl_o154 kcX12_more 7 (by decide +kernel) (by decide +kernel)
theorem dX12_more_219 : decode cX12_more 219 = .ok (.iconst 0, 1) := dl_o3 kcX12_more (by decide +kernel)
theorem dX12_more_220 : decode cX12_more 220 = .ok (.goto 16, 3) := dl_o167 kcX12_more 16 (by decide +kernel) (by decide +kernel)
theorem dX12_more_223 : decode cX12_more 223 = .ok (.aload_n 0, 1) := dl_o42 kcX12_more (by decide +kernel)
theorem dX12_more_224 : decode cX12_more 224 = .ok (.getfield 88, 3) := dl_o180 kcX12_more (by decide +kernel)
theorem dX12_more_227 : decode cX12_more 227 = .ok (.aload_n 0, 1) := dl_o42 kcX12_more (by decide +kernel)
theorem dX12_more_228 : decode cX12_more 228 = .ok (.getfield 706, 3) := dl_o180 kcX12_more (by decide +kernel)
theorem dX12_more_231 : decode cX12_more 231 = .ok (.iconst 1, 1) := dl_o4 kcX12_more (by decide +kernel)
theorem dX12_more_232 : decode cX12_more 232 = .ok (.isub, 1) := dl_o100 kcX12_more (by decide +kernel)
theorem dX12_more_233 : decode cX12_more 233 = .ok (.iaload, 1) := dl_o46 kcX12_more (by decide +kernel)
theorem dX12_more_234 : decode cX12_more 234 = .ok (.iconst 1, 1) := dl_o4 kcX12_more (by decide +kernel)
theorem dX12_more_235 : decode cX12_more 235 = .ok (.iadd, 1) := dl_o96 kcX12_more (by decide +kernel)
theorem dX12_more_236 : decode cX12_more 236 = .ok (.istore 4, 2) := dl_o54 kcX12_more (by decide +kernel)
theorem dX12_more_238 : decode cX12_more 238 = .ok (.iload_n 3, 1) := dl_o29 kcX12_more (by decide +kernel)
theorem dX12_more_239 : decode cX12_more 239 = .ok (.iload_n 2, 1) := dl_o28 kcX12_more (by decide +kernel)
theorem dX12_more_240 : decode cX12_more 240 = .ok (.if_icmp .gt 19, 3) := dl_o163 kcX12_more 19 (by decide +kernel) (by decide +kernel)
theorem dX12_more_243 : decode cX12_more 243 = .ok (.iload_n 3, 1) := dl_o29 kcX12_more (by decide +kernel)
theorem dX12_more_244 : decode cX12_more 244 = .ok (.ifCond .lt 9, 3) := dl_o155 kcX12_more 9 (by decide +kernel) (by decide +kernel)
theorem dX12_more_247 : decode cX12_more 247 = .ok (.iload_n 2, 1) := dl_o28 kcX12_more (by decide +kernel)
theorem dX12_more_248 : decode cX12_more 248 = .ok (.iload 4, 2) := dl_o21 kcX12_more (by decide +kernel)
theorem dX12_more_250 : decode cX12_more 250 = .ok (.if_icmp .lt 9, 3) := dl_o161 kcX12_more 9 (by decide +kernel) (by decide +kernel)
theorem dX12_more_253 : decode cX12_more 253 = .ok (.aload_n 0, 1) := dl_o42 kcX12_more (by decide +kernel)
theorem dX12_more_254 : decode cX12_more 254 = .ok (.iconst 5, 1) := dl_o8 kcX12_more (by decide +kernel)
theorem dX12_more_255 : decode cX12_more 255 = .ok (.invokevirtual 421, 3) := dl_o182 kcX12_more (by decide +kernel)
theorem dX12_more_258 : decode cX12_more 258 = .ok (.return_, 1) := dl_o177 kcX12_more (by decide +kernel)
theorem dX12_more_259 : decode cX12_more 259 = .ok (.iload_n 3, 1) := dl_o29 kcX12_more (by decide +kernel)
theorem dX12_more_260 : decode cX12_more 260 = .ok (.istore 5, 2) := dl_o54 kcX12_more (by decide +kernel)
theorem dX12_more_262 : decode cX12_more 262 = .ok (.iload 5, 2) := dl_o21 kcX12_more (by decide +kernel)
theorem dX12_more_264 : decode cX12_more 264 = .ok (.iload_n 2, 1) := dl_o28 kcX12_more (by decide +kernel)
theorem dX12_more_265 : decode cX12_more 265 = .ok (.if_icmp .gt 28, 3) := dl_o163 kcX12_more 28 (by decide +kernel) (by decide +kernel)
theorem dX12_more_268 : decode cX12_more 268 = .ok (.aload_n 0, 1) := dl_o42 kcX12_more (by decide +kernel)
theorem dX12_more_269 : decode cX12_more 269 = .ok (.getfield 85, 3) := dl_o180 kcX12_more (by decide +kernel)
theorem dX12_more_272 : decode cX12_more 272 = .ok (.iload 5, 2) := dl_o21 kcX12_more (by decide +kernel)
theorem dX12_more_274 : decode cX12_more 274 = .ok (.iload_n 1, 1) := dl_o27 kcX12_more (by decide +kernel)
theorem dX12_more_275 : decode cX12_more 275 = .ok (.sipush 129, 3) := dl_o17 kcX12_more 129 (by decide +kernel) (by decide +kernel)
theorem dX12_more_278 : decode cX12_more 278 = .ok (.if_icmp .ne 7, 3) := dl_o160 kcX12_more 7 (by decide +kernel) (by decide +kernel)
theorem dX12_more_281 : decode cX12_more 281 = .ok (.iconst 1, 1) := dl_o4 kcX12_more (by decide +kernel)
theorem dX12_more_282 : decode cX12_more 282 = .ok (.goto 4, 3) := dl_o167 kcX12_more 4 (by decide +kernel) (by decide +kernel)
theorem dX12_more_285 : decode cX12_more 285 = .ok (.iconst 0, 1) := dl_o3 kcX12_more (by decide +kernel)
theorem dX12_more_286 : decode cX12_more 286 = .ok (.bastore, 1) := dl_o84 kcX12_more (by decide +kernel)
theorem dX12_more_287 : decode cX12_more 287 = .ok (.iinc 5 1, 3) := by decide +kernel
theorem dX12_more_290 : decode cX12_more 290 = .ok (.goto (-28), 3) := dl_o167 kcX12_more 65508 (by decide +kernel) (by decide +kernel)
theorem dX12_more_293 : decode cX12_more 293 = .ok (.return_, 1) := dl_o177 kcX12_more (by decide +kernel)
theorem dX12_more_294 : decode cX12_more 294 = .ok (.aload_n 0, 1) := dl_o42 kcX12_more (by decide +kernel)
theorem dX12_more_295 : decode cX12_more 295 = .ok (.aload_n 0, 1) := dl_o42 kcX12_more (by decide +kernel)
theorem dX12_more_296 : decode cX12_more 296 = .ok (.iconst 1, 1) := dl_o4 kcX12_more (by decide +kernel)
theorem dX12_more_297 : decode cX12_more 297 = .ok (.invokevirtual 576, 3) := dl_o182 kcX12_more (by decide +kernel)
theorem dX12_more_300 : decode cX12_more 300 = .ok (.ifCond .eq 10, 3) := dl_o153 kcX12_more 10 (by decide +kernel) (by decide +kernel)
theorem dX12_more_303 : decode cX12_more 303 = .ok (.aload_n 0, 1) := dl_o42 kcX12_more (by decide +kernel)
theorem dX12_more_304 : decode cX12_more 304 = .ok (.invokevirtual 579, 3) := dl_o182 kcX12_more (by decide +kernel)
theorem dX12_more_307 : decode cX12_more 307 = .ok (.goto 4, 3) := dl_o167 kcX12_more 4 (by decide +kernel) (by decide +kernel)
theorem dX12_more_310 : decode cX12_more 310 = .ok (.iconst 0, 1) := dl_o3 kcX12_more (by decide +kernel)
theorem dX12_more_311 : decode cX12_more 311 = .ok (.putfield 739, 3) := dl_o181 kcX12_more (by decide +kernel)
theorem dX12_more_314 : decode cX12_more 314 = .ok (.return_, 1) := dl_o177 kcX12_more (by decide +kernel)
theorem dX12_more_315 : decode cX12_more 315 = .ok (.aload_n 0, 1) := dl_o42 kcX12_more (by decide +kernel)
theorem dX12_more_316 : decode cX12_more 316 = .ok (.iconst 2, 1) := dl_o5 kcX12_more (by decide +kernel)
theorem dX12_more_317 : decode cX12_more 317 = .ok (.invokevirtual 576, 3) := dl_o182 kcX12_more (by decide +kernel)
theorem dX12_more_320 : decode cX12_more 320 = .ok (.ifCond .eq 192, 3) := dl_o153 kcX12_more 192 (by decide +kernel) (by decide +kernel)
theorem dX12_more_323 : decode cX12_more 323 = .ok (.aload_n 0, 1) := dl_o42 kcX12_more (by decide +kernel)
theorem dX12_more_324 : decode cX12_more 324 = .ok (.aload_n 0, 1) := dl_o42 kcX12_more (by decide +kernel)
theorem dX12_more_325 : decode cX12_more 325 = .ok (.getfield 466, 3) := dl_o180 kcX12_more (by decide +kernel)
theorem dX12_more_328 : decode cX12_more 328 = .ok (.aload_n 0, 1) := dl_o42 kcX12_more (by decide +kernel)
theorem dX12_more_329 : decode cX12_more 329 = .ok (.invokevirtual 579, 3) := dl_o182 kcX12_more (by decide +kernel)
theorem dX12_more_332 : decode cX12_more 332 = .ok (.invokevirtual 582, 3) := dl_o182 kcX12_more (by decide +kernel)
theorem dX12_more_335 : decode cX12_more 335 = .ok (.istore_n 2, 1) := dl_o61 kcX12_more (by decide +kernel)
theorem dX12_more_336 : decode cX12_more 336 = .ok (.aload_n 0, 1) := dl_o42 kcX12_more (by decide +kernel)
theorem dX12_more_337 : decode cX12_more 337 = .ok (.aload_n 0, 1) := dl_o42 kcX12_more (by decide +kernel)
theorem dX12_more_338 : decode cX12_more 338 = .ok (.getfield 463, 3) := dl_o180 kcX12_more (by decide +kernel)
theorem dX12_more_341 : decode cX12_more 341 = .ok (.aload_n 0, 1) := dl_o42 kcX12_more (by decide +kernel)
theorem dX12_more_342 : decode cX12_more 342 = .ok (.invokevirtual 579, 3) := dl_o182 kcX12_more (by decide +kernel)
theorem dX12_more_345 : decode cX12_more 345 = .ok (.invokevirtual 582, 3) := dl_o182 kcX12_more (by decide +kernel)
theorem dX12_more_348 : decode cX12_more 348 = .ok (.istore_n 3, 1) := dl_o62 kcX12_more (by decide +kernel)
theorem dX12_more_349 : decode cX12_more 349 = .ok (.aload_n 0, 1) := dl_o42 kcX12_more (by decide +kernel)
theorem dX12_more_350 : decode cX12_more 350 = .ok (.getfield 409, 3) := dl_o180 kcX12_more (by decide +kernel)
theorem dX12_more_353 : decode cX12_more 353 = .ok (.ifCond .ne 159, 3) := dl_o154 kcX12_more 159 (by decide +kernel) (by decide +kernel)
theorem dX12_more_356 : decode cX12_more 356 = .ok (.iload_n 1, 1) := dl_o27 kcX12_more (by decide +kernel)
theorem dX12_more_357 : decode cX12_more 357 = .ok (.sipush 135, 3) := dl_o17 kcX12_more 135 (by decide +kernel) (by decide +kernel)
theorem dX12_more_360 : decode cX12_more 360 = .ok (.if_icmp .ne 7, 3) := dl_o160 kcX12_more 7 (by decide +kernel) (by decide +kernel)
theorem dX12_more_363 : decode cX12_more 363 = .ok (.iconst 1, 1) := dl_o4 kcX12_more (by decide +kernel)
theorem dX12_more_364 : decode cX12_more 364 = .ok (.goto 4, 3) := dl_o167 kcX12_more 4 (by decide +kernel) (by decide +kernel)
theorem dX12_more_367 : decode cX12_more 367 = .ok (.iconst 0, 1) := dl_o3 kcX12_more (by decide +kernel)
theorem dX12_more_368 : decode cX12_more 368 = .ok (.istore 4, 2) := dl_o54 kcX12_more (by decide +kernel)
theorem dX12_more_370 : decode cX12_more 370 = .ok (.aload_n 0, 1) := dl_o42 kcX12_more (by decide +kernel)
theorem dX12_more_371 : decode cX12_more 371 = .ok (.aload_n 0, 1) := dl_o42 kcX12_more (by decide +kernel)
theorem dX12_more_372 : decode cX12_more 372 = .ok (.getfield 70, 3) := dl_o180 kcX12_more (by decide +kernel)
theorem dX12_more_375 : decode cX12_more 375 = .ok (.iload_n 3, 1) := dl_o29 kcX12_more (by decide +kernel)
theorem dX12_more_376 : decode cX12_more 376 = .ok (.iaload, 1) := dl_o46 kcX12_more (by decide +kernel)
theorem dX12_more_377 : decode cX12_more 377 = .ok (.aload_n 0, 1) := dl_o42 kcX12_more (by decide +kernel)
theorem dX12_more_378 : decode cX12_more 378 = .ok (.getfield 70, 3) := dl_o180 kcX12_more (by decide +kernel)
theorem dX12_more_381 : decode cX12_more 381 = .ok (.iload_n 2, 1) := dl_o28 kcX12_more (by decide +kernel)
theorem dX12_more_382 : decode cX12_more 382 = .ok (.iaload, 1) := dl_o46 kcX12_more (by decide +kernel)
theorem dX12_more_383 : decode cX12_more 383 = .ok (.isub, 1) := dl_o100 kcX12_more (by decide +kernel)
theorem dX12_more_384 : decode cX12_more 384 = .ok (.aload_n 0, 1) := dl_o42 kcX12_more (by decide +kernel)
theorem dX12_more_385 : decode cX12_more 385 = .ok (.getfield 73, 3) := dl_o180 kcX12_more (by decide +kernel)
theorem dX12_more_388 : decode cX12_more 388 = .ok (.iload_n 3, 1) := dl_o29 kcX12_more (by decide +kernel)
theorem dX12_more_389 : decode cX12_more 389 = .ok (.iaload, 1) := dl_o46 kcX12_more (by decide +kernel)
theorem dX12_more_390 : decode cX12_more 390 = .ok (.aload_n 0, 1) := dl_o42 kcX12_more (by decide +kernel)
theorem dX12_more_391 : decode cX12_more 391 = .ok (.getfield 73, 3) := dl_o180 kcX12_more (by decide +kernel)
theorem dX12_more_394 : decode cX12_more 394 = .ok (.iload_n 2, 1) := dl_o28 kcX12_more (by decide +kernel)
theorem dX12_more_395 : decode cX12_more 395 = .ok (.iaload, 1) := dl_o46 kcX12_more (by decide +kernel)
theorem dX12_more_396 : decode cX12_more 396 = .ok (.isub, 1) := dl_o100 kcX12_more (by decide +kernel)
theorem dX12_more_397 : decode cX12_more 397 = .ok (.invokevirtual 586, 3) := dl_o182 kcX12_more (by decide +kernel)
theorem dX12_more_400 : decode cX12_more 400 = .ok (.aload_n 0, 1) := dl_o42 kcX12_more (by decide +kernel)
theorem dX12_more_401 : decode cX12_more 401 = .ok (.iload 4, 2) := dl_o21 kcX12_more (by decide +kernel)
theorem dX12_more_403 : decode cX12_more 403 = .ok (.ifCond .eq 11, 3) := dl_o153 kcX12_more 11 (by decide +kernel) (by decide +kernel)
theorem dX12_more_406 : decode cX12_more 406 = .ok (.aload_n 0, 1) := dl_o42 kcX12_more (by decide +kernel)
theorem dX12_more_407 : decode cX12_more 407 = .ok (.getfield 536, 3) := dl_o180 kcX12_more (by decide +kernel)
theorem dX12_more_410 : decode cX12_more 410 = .ok (.ineg, 1) := dl_o116 kcX12_more (by decide +kernel)
theorem dX12_more_411 : decode cX12_more 411 = .ok (.goto 7, 3) := dl_o167 kcX12_more 7 (by decide +kernel) (by decide +kernel)
theorem dX12_more_414 : decode cX12_more 414 = .ok (.aload_n 0, 1) := dl_o42 kcX12_more (by decide +kernel)
theorem dX12_more_415 : decode cX12_more 415 = .ok (.getfield 533, 3) := dl_o180 kcX12_more (by decide +kernel)
theorem dX12_more_418 : decode cX12_more 418 = .ok (.putfield 445, 3) := dl_o181 kcX12_more (by decide +kernel)
theorem dX12_more_421 : decode cX12_more 421 = .ok (.aload_n 0, 1) := dl_o42 kcX12_more (by decide +kernel)
theorem dX12_more_422 : decode cX12_more 422 = .ok (.iload 4, 2) := dl_o21 kcX12_more (by decide +kernel)
theorem dX12_more_424 : decode cX12_more 424 = .ok (.ifCond .eq 10, 3) := dl_o153 kcX12_more 10 (by decide +kernel) (by decide +kernel)
theorem dX12_more_427 : decode cX12_more 427 = .ok (.aload_n 0, 1) := dl_o42 kcX12_more (by decide +kernel)
theorem dX12_more_428 : decode cX12_more 428 = .ok (.getfield 533, 3) := dl_o180 kcX12_more (by decide +kernel)
theorem dX12_more_431 : decode cX12_more 431 = .ok (.goto 7, 3) := dl_o167 kcX12_more 7 (by decide +kernel) (by decide +kernel)
theorem dX12_more_434 : decode cX12_more 434 = .ok (.aload_n 0, 1) := dl_o42 kcX12_more (by decide +kernel)
theorem dX12_more_435 : decode cX12_more 435 = .ok (.getfield 536, 3) := dl_o180 kcX12_more (by decide +kernel)
theorem dX12_more_438 : decode cX12_more 438 = .ok (.putfield 448, 3) := dl_o181 kcX12_more (by decide +kernel)
theorem dX12_more_441 : decode cX12_more 441 = .ok (.aload_n 0, 1) := dl_o42 kcX12_more (by decide +kernel)
theorem dX12_more_442 : decode cX12_more 442 = .ok (.aload_n 0, 1) := dl_o42 kcX12_more (by decide +kernel)
theorem dX12_more_443 : decode cX12_more 443 = .ok (.getfield 76, 3) := dl_o180 kcX12_more (by decide +kernel)
theorem dX12_more_446 : decode cX12_more 446 = .ok (.iload_n 3, 1) := dl_o29 kcX12_more (by decide +kernel)
theorem dX12_more_447 : decode cX12_more 447 = .ok (.iaload, 1) := dl_o46 kcX12_more (by decide +kernel)
theorem dX12_more_448 : decode cX12_more 448 = .ok (.aload_n 0, 1) := dl_o42 kcX12_more (by decide +kernel)
theorem dX12_more_449 : decode cX12_more 449 = .ok (.getfield 76, 3) := dl_o180 kcX12_more (by decide +kernel)
theorem dX12_more_452 : decode cX12_more 452 = .ok (.iload_n 2, 1) := dl_o28 kcX12_more (by decide +kernel)
theorem dX12_more_453 : decode cX12_more 453 = .ok (.iaload, 1) := dl_o46 kcX12_more (by decide +kernel)
theorem dX12_more_454 : decode cX12_more 454 = .ok (.isub, 1) := dl_o100 kcX12_more (by decide +kernel)
theorem dX12_more_455 : decode cX12_more 455 = .ok (.aload_n 0, 1) := dl_o42 kcX12_more (by decide +kernel)
theorem dX12_more_456 : decode cX12_more 456 = .ok (.getfield 79, 3) := dl_o180 kcX12_more (by decide +kernel)
theorem dX12_more_459 : decode cX12_more 459 = .ok (.iload_n 3, 1) := dl_o29 kcX12_more (by decide +kernel)
theorem dX12_more_460 : decode cX12_more 460 = .ok (.iaload, 1) := dl_o46 kcX12_more (by decide +kernel)
theorem dX12_more_461 : decode cX12_more 461 = .ok (.aload_n 0, 1) := dl_o42 kcX12_more (by decide +kernel)
theorem dX12_more_462 : decode cX12_more 462 = .ok (.getfield 79, 3) := dl_o180 kcX12_more (by decide +kernel)
theorem dX12_more_465 : decode cX12_more 465 = .ok (.iload_n 2, 1) := dl_o28 kcX12_more (by decide +kernel)
theorem dX12_more_466 : decode cX12_more 466 = .ok (.iaload, 1) := dl_o46 kcX12_more (by decide +kernel)
theorem dX12_more_467 : decode cX12_more 467 = .ok (.isub, 1) := dl_o100 kcX12_more (by decide +kernel)
theorem dX12_more_468 : decode cX12_more 468 = .ok (.invokevirtual 586, 3) := dl_o182 kcX12_more (by decide +kernel)
theorem dX12_more_471 : decode cX12_more 471 = .ok (.aload_n 0, 1) := dl_o42 kcX12_more (by decide +kernel)
theorem dX12_more_472 : decode cX12_more 472 = .ok (.iload 4, 2) := dl_o21 kcX12_more (by decide +kernel)
theorem dX12_more_474 : decode cX12_more 474 = .ok (.ifCond .eq 11, 3) := dl_o153 kcX12_more 11 (by decide +kernel) (by decide +kernel)
theorem dX12_more_477 : decode cX12_more 477 = .ok (.aload_n 0, 1) := dl_o42 kcX12_more (by decide +kernel)
theorem dX12_more_478 : decode cX12_more 478 = .ok (.getfield 536, 3) := dl_o180 kcX12_more (by decide +kernel)
theorem dX12_more_481 : decode cX12_more 481 = .ok (.ineg, 1) := dl_o116 kcX12_more (by decide +kernel)
theorem dX12_more_482 : decode cX12_more 482 = .ok (.goto 7, 3) := dl_o167 kcX12_more 7 (by decide +kernel) (by decide +kernel)
theorem dX12_more_485 : decode cX12_more 485 = .ok (.aload_n 0, 1) := dl_o42 kcX12_more (by decide +kernel)
theorem dX12_more_486 : decode cX12_more 486 = .ok (.getfield 533, 3) := dl_o180 kcX12_more (by decide +kernel)
theorem dX12_more_489 : decode cX12_more 489 = .ok (.putfield 439, 3) := dl_o181 kcX12_more (by decide +kernel)
theorem dX12_more_492 : decode cX12_more 492 = .ok (.aload_n 0, 1) := dl_o42 kcX12_more (by decide +kernel)
theorem dX12_more_493 : decode cX12_more 493 = .ok (.iload 4, 2) := dl_o21 kcX12_more (by decide +kernel)
theorem dX12_more_495 : decode cX12_more 495 = .ok (.ifCond .eq 10, 3) := dl_o153 kcX12_more 10 (by decide +kernel) (by decide +kernel)
theorem dX12_more_498 : decode cX12_more 498 = .ok (.aload_n 0, 1) := dl_o42 kcX12_more (by decide +kernel)
theorem dX12_more_499 : decode cX12_more 499 = .ok (.getfield 533, 3) := dl_o180 kcX12_more (by decide +kernel)
theorem dX12_more_502 : decode cX12_more 502 = .ok (.goto 7, 3) := dl_o167 kcX12_more 7 (by decide +kernel) (by decide +kernel)
theorem dX12_more_505 : decode cX12_more 505 = .ok (.aload_n 0, 1) := dl_o42 kcX12_more (by decide +kernel)
theorem dX12_more_506 : decode cX12_more 506 = .ok (.getfield 536, 3) := dl_o180 kcX12_more (by decide +kernel)
theorem dX12_more_509 : decode cX12_more 509 = .ok (.putfield 442, 3) := dl_o181 kcX12_more (by decide +kernel)
theorem dX12_more_512 : decode cX12_more 512 = .ok (.return_, 1) := dl_o177 kcX12_more (by decide +kernel)
theorem dX12_more_513 : decode cX12_more 513 = .ok (.aload_n 0, 1) := dl_o42 kcX12_more (by decide +kernel)
theorem dX12_more_514 : decode cX12_more 514 = .ok (.iconst 1, 1) := dl_o4 kcX12_more (by decide +kernel)
theorem dX12_more_515 : decode cX12_more 515 = .ok (.invokevirtual 576, 3) := dl_o182 kcX12_more (by decide +kernel)
theorem dX12_more_518 : decode cX12_more 518 = .ok (.ifCond .eq 23, 3) := dl_o153 kcX12_more 23 (by decide +kernel) (by decide +kernel)
theorem dX12_more_521 : decode cX12_more 521 = .ok (.aload_n 0, 1) := dl_o42 kcX12_more (by decide +kernel)
theorem dX12_more_522 : decode cX12_more 522 = .ok (.aload_n 0, 1) := dl_o42 kcX12_more (by decide +kernel)
theorem dX12_more_523 : decode cX12_more 523 = .ok (.invokevirtual 579, 3) := dl_o182 kcX12_more (by decide +kernel)
theorem dX12_more_526 : decode cX12_more 526 = .ok (.iconst 1, 1) := dl_o4 kcX12_more (by decide +kernel)
theorem dX12_more_527 : decode cX12_more 527 = .ok (.iand, 1) := dl_o126 kcX12_more (by decide +kernel)
theorem dX12_more_528 : decode cX12_more 528 = .ok (.ifCond .eq 9, 3) := dl_o153 kcX12_more 9 (by decide +kernel) (by decide +kernel)
theorem dX12_more_531 : decode cX12_more 531 = .ok (.ldc2_w 742, 3) := dl_o20 kcX12_more (by decide +kernel)
theorem dX12_more_534 : decode cX12_more 534 = .ok (.goto 4, 3) := dl_o167 kcX12_more 4 (by decide +kernel) (by decide +kernel)
theorem dX12_more_537 : decode cX12_more 537 = .ok (.lconst 0, 1) := dl_o9 kcX12_more (by decide +kernel)
theorem dX12_more_538 : decode cX12_more 538 = .ok (.invokevirtual 564, 3) := dl_o182 kcX12_more (by decide +kernel)
theorem dX12_more_541 : decode cX12_more 541 = .ok (.return_, 1) := dl_o177 kcX12_more (by decide +kernel)
theorem dX12_more_542 : decode cX12_more 542 = .ok (.aload_n 0, 1) := dl_o42 kcX12_more (by decide +kernel)
theorem dX12_more_543 : decode cX12_more 543 = .ok (.invokevirtual 744, 3) := dl_o182 kcX12_more (by decide +kernel)
theorem dX12_more_546 : decode cX12_more 546 = .ok (.return_, 1) := dl_o177 kcX12_more (by decide +kernel)
theorem dX12_more_547 : decode cX12_more 547 = .ok (.aload_n 0, 1) := dl_o42 kcX12_more (by decide +kernel)
theorem dX12_more_548 : decode cX12_more 548 = .ok (.iconst 3, 1) := dl_o6 kcX12_more (by decide +kernel)
theorem dX12_more_549 : decode cX12_more 549 = .ok (.invokevirtual 576, 3) := dl_o182 kcX12_more (by decide +kernel)
theorem dX12_more_552 : decode cX12_more 552 = .ok (.ifCond .eq 71, 3) := dl_o153 kcX12_more 71 (by decide +kernel) (by decide +kernel)
theorem dX12_more_555 : decode cX12_more 555 = .ok (.aload_n 0, 1) := dl_o42 kcX12_more (by decide +kernel)
theorem dX12_more_556 : decode cX12_more 556 = .ok (.getfield 91, 3) := dl_o180 kcX12_more (by decide +kernel)
theorem dX12_more_559 : decode cX12_more 559 = .ok (.aload_n 0, 1) := dl_o42 kcX12_more (by decide +kernel)
theorem dX12_more_560 : decode cX12_more 560 = .ok (.getfield 418, 3) := dl_o180 kcX12_more (by decide +kernel)
theorem dX12_more_563 : decode cX12_more 563 = .ok (.iconst 3, 1) := dl_o6 kcX12_more (by decide +kernel)
theorem dX12_more_564 : decode cX12_more 564 = .ok (.isub, 1) := dl_o100 kcX12_more (by decide +kernel)
theorem dX12_more_565 : decode cX12_more 565 = .ok (.iaload, 1) := dl_o46 kcX12_more (by decide +kernel)
theorem dX12_more_566 : decode cX12_more 566 = .ok (.istore_n 2, 1) := dl_o61 kcX12_more (by decide +kernel)
theorem dX12_more_567 : decode cX12_more 567 = .ok (.aload_n 0, 1) := dl_o42 kcX12_more (by decide +kernel)
theorem dX12_more_568 : decode cX12_more 568 = .ok (.getfield 91, 3) := dl_o180 kcX12_more (by decide +kernel)
theorem dX12_more_571 : decode cX12_more 571 = .ok (.aload_n 0, 1) := dl_o42 kcX12_more (by decide +kernel)
theorem dX12_more_572 : decode cX12_more 572 = .ok (.getfield 418, 3) := dl_o180 kcX12_more (by decide +kernel)
theorem dX12_more_575 : decode cX12_more 575 = .ok (.iconst 3, 1) := dl_o6 kcX12_more (by decide +kernel)
theorem dX12_more_576 : decode cX12_more 576 = .ok (.isub, 1) := dl_o100 kcX12_more (by decide +kernel)
theorem dX12_more_577 : decode cX12_more 577 = .ok (.aload_n 0, 1) := dl_o42 kcX12_more (by decide +kernel)
theorem dX12_more_578 : decode cX12_more 578 = .ok (.getfield 91, 3) := dl_o180 kcX12_more (by decide +kernel)
theorem dX12_more_581 : decode cX12_more 581 = .ok (.aload_n 0, 1) := dl_o42 kcX12_more (by decide +kernel)
theorem dX12_more_582 : decode cX12_more 582 = .ok (.getfield 418, 3) := dl_o180 kcX12_more (by decide +kernel)
theorem dX12_more_585 : decode cX12_more 585 = .ok (.iconst 2, 1) := dl_o5 kcX12_more (by decide +kernel)
theorem dX12_more_586 : decode cX12_more 586 = .ok (.isub, 1) := dl_o100 kcX12_more (by decide +kernel)
theorem dX12_more_587 : decode cX12_more 587 = .ok (.iaload, 1) := dl_o46 kcX12_more (by decide +kernel)
theorem dX12_more_588 : decode cX12_more 588 = .ok (.iastore, 1) := dl_o79 kcX12_more (by decide +kernel)
theorem dX12_more_589 : decode cX12_more 589 = .ok (.aload_n 0, 1) := dl_o42 kcX12_more (by decide +kernel)
theorem dX12_more_590 : decode cX12_more 590 = .ok (.getfield 91, 3) := dl_o180 kcX12_more (by decide +kernel)
theorem dX12_more_593 : decode cX12_more 593 = .ok (.aload_n 0, 1) := dl_o42 kcX12_more (by decide +kernel)
theorem dX12_more_594 : decode cX12_more 594 = .ok (.getfield 418, 3) := dl_o180 kcX12_more (by decide +kernel)
theorem dX12_more_597 : decode cX12_more 597 = .ok (.iconst 2, 1) := dl_o5 kcX12_more (by decide +kernel)
theorem dX12_more_598 : decode cX12_more 598 = .ok (.isub, 1) := dl_o100 kcX12_more (by decide +kernel)
theorem dX12_more_599 : decode cX12_more 599 = .ok (.aload_n 0, 1) := dl_o42 kcX12_more (by decide +kernel)
theorem dX12_more_600 : decode cX12_more 600 = .ok (.getfield 91, 3) := dl_o180 kcX12_more (by decide +kernel)
theorem dX12_more_603 : decode cX12_more 603 = .ok (.aload_n 0, 1) := dl_o42 kcX12_more (by decide +kernel)
theorem dX12_more_604 : decode cX12_more 604 = .ok (.getfield 418, 3) := dl_o180 kcX12_more (by decide +kernel)
theorem dX12_more_607 : decode cX12_more 607 = .ok (.iconst 1, 1) := dl_o4 kcX12_more (by decide +kernel)
theorem dX12_more_608 : decode cX12_more 608 = .ok (.isub, 1) := dl_o100 kcX12_more (by decide +kernel)
theorem dX12_more_609 : decode cX12_more 609 = .ok (.iaload, 1) := dl_o46 kcX12_more (by decide +kernel)
theorem dX12_more_610 : decode cX12_more 610 = .ok (.iastore, 1) := dl_o79 kcX12_more (by decide +kernel)
theorem dX12_more_611 : decode cX12_more 611 = .ok (.aload_n 0, 1) := dl_o42 kcX12_more (by decide +kernel)
theorem dX12_more_612 : decode cX12_more 612 = .ok (.getfield 91, 3) := dl_o180 kcX12_more (by decide +kernel)
theorem dX12_more_615 : decode cX12_more 615 = .ok (.aload_n 0, 1) := dl_o42 kcX12_more (by decide +kernel)
theorem dX12_more_616 : decode cX12_more 616 = .ok (.getfield 418, 3) := dl_o180 kcX12_more (by decide +kernel)
theorem dX12_more_619 : decode cX12_more 619 = .ok (.iconst 1, 1) := dl_o4 kcX12_more (by decide +kernel)
theorem dX12_more_620 : decode cX12_more 620 = .ok (.isub, 1) := dl_o100 kcX12_more (by decide +kernel)
theorem dX12_more_621 : decode cX12_more 621 = .ok (.iload_n 2, 1) := dl_o28 kcX12_more (by decide +kernel)
theorem dX12_more_622 : decode cX12_more 622 = .ok (.iastore, 1) := dl_o79 kcX12_more (by decide +kernel)
theorem dX12_more_623 : decode cX12_more 623 = .ok (.return_, 1) := dl_o177 kcX12_more (by decide +kernel)
theorem dX12_more_624 : decode cX12_more 624 = .ok (.aload_n 0, 1) := dl_o42 kcX12_more (by decide +kernel)
theorem dX12_more_625 : decode cX12_more 625 = .ok (.aload_n 0, 1) := dl_o42 kcX12_more (by decide +kernel)
theorem dX12_more_626 : decode cX12_more 626 = .ok (.iconst 1, 1) := dl_o4 kcX12_more (by decide +kernel)
theorem dX12_more_627 : decode cX12_more 627 = .ok (.invokevirtual 576, 3) := dl_o182 kcX12_more (by decide +kernel)
theorem dX12_more_630 : decode cX12_more 630 = .ok (.ifCond .eq 10, 3) := dl_o153 kcX12_more 10 (by decide +kernel) (by decide +kernel)
theorem dX12_more_633 : decode cX12_more 633 = .ok (.aload_n 0, 1) := dl_o42 kcX12_more (by decide +kernel)
theorem dX12_more_634 : decode cX12_more 634 = .ok (.invokevirtual 579, 3) := dl_o182 kcX12_more (by decide +kernel)
theorem dX12_more_637 : decode cX12_more 637 = .ok (.goto 4, 3) := dl_o167 kcX12_more 4 (by decide +kernel) (by decide +kernel)
theorem dX12_more_640 : decode cX12_more 640 = .ok (.iconst 0, 1) := dl_o3 kcX12_more (by decide +kernel)
theorem dX12_more_641 : decode cX12_more 641 = .ok (.putfield 747, 3) := dl_o181 kcX12_more (by decide +kernel)
theorem dX12_more_644 : decode cX12_more 644 = .ok (.return_, 1) := dl_o177 kcX12_more (by decide +kernel)
theorem dX12_more_645 : decode cX12_more 645 = .ok (.aload_n 0, 1) := dl_o42 kcX12_more (by decide +kernel)
theorem dX12_more_646 : decode cX12_more 646 = .ok (.iload_n 1, 1) := dl_o27 kcX12_more (by decide +kernel)
theorem dX12_more_647 : decode cX12_more 647 = .ok (.invokevirtual 650, 3) := dl_o182 kcX12_more (by decide +kernel)
theorem dX12_more_650 : decode cX12_more 650 = .ok (.return_, 1) := dl_o177 kcX12_more (by decide +kernel)
def B_X12_more_182 (N : Nat) (k85 : Int32 → sv_V → Option sv_V) (l2 : Int32) (V : sv_V) : Option sv_V := sx_let (l2 + 1) (fun x1 => k85 x1 V)
set_option maxRecDepth 20000 in
theorem tB_X12_more_182 {g : sx_G} (hG : sx_Go g) {P : Option Value → sv_V → Prop} {Vr : sv_V} (hP : P none Vr) {N : Nat} {k85 : Int32 → sv_V → Option sv_V} (hk85 : ∀ (l2 : Int32) (V : sv_V), k85 l2 V = some Vr → sv_N g qX12_more 5 85 [(0, .ref 146), (2, .int l2)] [] V P) {l2 : Int32} {V : sv_V} (h : B_X12_more_182 N k85 l2 V = some Vr) : sv_N g qX12_more 5 182 [(0, .ref 146), (2, .int l2)] [] V P := by
  unfold B_X12_more_182 at h
  obtain ⟨x1, hx1⟩ : ∃ z : Int32, z = l2 + 1 := ⟨_, rfl⟩
  have h := sx_letE hx1 h
  refine sx_iinc (pc := 182) (v := x1) (lo' := [(2, .int x1), (0, .ref 146)]) dX12_more_182 sx_m1 (by rw [hx1]; rfl) (by decide) rfl ?_
  refine sx_goto (pc := 185) (tgt := 85) dX12_more_185 (by decide) ?_
  refine sx_wk (sx_s1 sx_m1 (sx_s1 sx_m0 sx_s0)) ?_
  exact hk85 _ _ h
def B_X12_more_141 (N : Nat) (k85 : Int32 → sv_V → Option sv_V) (l2 : Int32) (V : sv_V) : Option sv_V := (F_X12_fail (5 : Int32) V).bind (fun V2 => B_X12_more_182 N k85 l2 V2)
set_option maxRecDepth 20000 in
theorem tB_X12_more_141 {g : sx_G} (hG : sx_Go g) {P : Option Value → sv_V → Prop} {Vr : sv_V} (hP : P none Vr) {N : Nat} {k85 : Int32 → sv_V → Option sv_V} (hk85 : ∀ (l2 : Int32) (V : sv_V), k85 l2 V = some Vr → sv_N g qX12_more 5 85 [(0, .ref 146), (2, .int l2)] [] V P) {l2 : Int32} {V : sv_V} (h : B_X12_more_141 N k85 l2 V = some Vr) : sv_N g qX12_more 5 141 [(0, .ref 146), (2, .int l2)] [] V P := by
  unfold B_X12_more_141 at h
  refine sx_aload_n (pc := 141) dX12_more_141 sx_m0 ?_
  refine sx_iconst (pc := 142) (v := 5) dX12_more_142 (by decide) ?_
  obtain ⟨V2, g3, h⟩ := sx_bnd h
  refine sv_cV (pc := 143) (y := qX12_fail) (o := none) (as := [.int (5 : Int32)]) (V1 := V2) hG dX12_more_143 l_X12_421 y0X12_fail yvX12_fail rfl (Nat.le_of_ble_eq_true rfl) lay_146 kr_12 (by decide) (Nat.le_of_ble_eq_true rfl) rfl rfl rfl (t_X12_fail hG ⟨rfl, rfl⟩ g3) ?_
  refine sx_goto (pc := 146) (tgt := 182) dX12_more_146 (by decide) ?_
  refine sx_wk (sx_s1 sx_m0 (sx_s1 sx_m1 sx_s0)) ?_
  exact tB_X12_more_182 hG hP hk85 h
def B_X12_more_181 (N : Nat) (k85 : Int32 → sv_V → Option sv_V) (l2 : Int32) (s1 : Int32) (s2 : Int32) (V : sv_V) : Option sv_V := if sx_in s1 102 = true then if sv_bl s2 = true then sx_let (sv_I V 171 s1.toNatClampNeg s2) (fun V6 => B_X12_more_182 N k85 l2 V6) else none else none
set_option maxRecDepth 20000 in
theorem tB_X12_more_181 {g : sx_G} (hG : sx_Go g) {P : Option Value → sv_V → Prop} {Vr : sv_V} (hP : P none Vr) {N : Nat} {k85 : Int32 → sv_V → Option sv_V} (hk85 : ∀ (l2 : Int32) (V : sv_V), k85 l2 V = some Vr → sv_N g qX12_more 5 85 [(0, .ref 146), (2, .int l2)] [] V P) {l2 : Int32} {s1 : Int32} {s2 : Int32} {V : sv_V} (h : B_X12_more_181 N k85 l2 s1 s2 V = some Vr) : sv_N g qX12_more 5 181 [(0, .ref 146), (2, .int l2)] [.int s2, .int s1, .ref 171] V P := by
  unfold B_X12_more_181 at h
  obtain ⟨g4, h⟩ := sx_grd h
  obtain ⟨g5, h⟩ := sx_grd h
  obtain ⟨V6, hV6⟩ : ∃ z : sv_V, z = sv_I V 171 s1.toNatClampNeg s2 := ⟨_, rfl⟩
  have h := sx_letE hV6 h
  refine sv_zast (pc := 181) hG dX12_more_181 lay_171 g4 g5 hV6 ?_
  refine sx_wk (sx_s1 sx_m0 (sx_s1 sx_m1 sx_s0)) ?_
  exact tB_X12_more_182 hG hP hk85 h
def B_X12_more_149 (N : Nat) (k85 : Int32 → sv_V → Option sv_V) (l2 : Int32) (l3 : Int32) (V : sv_V) : Option sv_V := if (V.1 146 59) = 0 then (if sx_in (l3 - (102 : Int32)) 102 = true then if (V.1 171 (l3 - (102 : Int32)).toNatClampNeg) = 0 then (B_X12_more_181 N k85 l2 (l3 - (102 : Int32)) (1 : Int32) V) else (B_X12_more_181 N k85 l2 (l3 - (102 : Int32)) (0 : Int32) V) else none) else (B_X12_more_182 N k85 l2 V)
set_option maxRecDepth 20000 in
theorem tB_X12_more_149 {g : sx_G} (hG : sx_Go g) {P : Option Value → sv_V → Prop} {Vr : sv_V} (hP : P none Vr) {N : Nat} {k85 : Int32 → sv_V → Option sv_V} (hk85 : ∀ (l2 : Int32) (V : sv_V), k85 l2 V = some Vr → sv_N g qX12_more 5 85 [(0, .ref 146), (2, .int l2)] [] V P) {l2 : Int32} {l3 : Int32} {V : sv_V} (h : B_X12_more_149 N k85 l2 l3 V = some Vr) : sv_N g qX12_more 5 149 [(0, .ref 146), (2, .int l2), (3, .int l3)] [] V P := by
  unfold B_X12_more_149 at h
  refine sx_aload_n (pc := 149) dX12_more_149 sx_m0 ?_
  refine sv_getI (pc := 150) hG dX12_more_150 f_12_409 lay_146 rfl ?_
  refine sx_if_ne (pc := 153) (tgt := 182) dX12_more_153 (by decide) (fun c7 => ?_) (fun c7 => ?_)
  · have h := sx_neg c7 h
    refine sx_wk (sx_s1 sx_m0 (sx_s1 sx_m1 sx_s0)) ?_
    exact tB_X12_more_182 hG hP hk85 h
  · have h := sx_pos c7 h
    refine sx_aload_n (pc := 156) dX12_more_156 sx_m0 ?_
    refine sv_getA (pc := 157) hG dX12_more_157 f_12_85 lay_146 rfl cr_146_51 ?_
    refine sx_iload_n (pc := 160) dX12_more_160 sx_m2 ?_
    refine sx_bipush (pc := 161) (v := 102) dX12_more_161 (by decide) ?_
    refine sx_isub (pc := 163) dX12_more_163 ?_
    refine sx_aload_n (pc := 164) dX12_more_164 sx_m0 ?_
    refine sv_getA (pc := 165) hG dX12_more_165 f_12_85 lay_146 rfl cr_146_51 ?_
    refine sx_iload_n (pc := 168) dX12_more_168 sx_m2 ?_
    refine sx_bipush (pc := 169) (v := 102) dX12_more_169 (by decide) ?_
    refine sx_isub (pc := 171) dX12_more_171 ?_
    obtain ⟨g8, h⟩ := sx_grd h
    refine sv_zald (pc := 172) hG dX12_more_172 lay_171 g8 ?_
    refine sx_if_ne (pc := 173) (tgt := 180) dX12_more_173 (by decide) (fun c9 => ?_) (fun c9 => ?_)
    · have h := sx_neg c9 h
      refine sx_iconst (pc := 180) (v := 0) dX12_more_180 (by decide) ?_
      refine sx_wk (sx_s1 sx_m0 (sx_s1 sx_m1 sx_s0)) ?_
      exact tB_X12_more_181 hG hP hk85 h
    · have h := sx_pos c9 h
      refine sx_iconst (pc := 176) (v := 1) dX12_more_176 (by decide) ?_
      refine sx_goto (pc := 177) (tgt := 181) dX12_more_177 (by decide) ?_
      refine sx_wk (sx_s1 sx_m0 (sx_s1 sx_m1 sx_s0)) ?_
      exact tB_X12_more_181 hG hP hk85 h
def B_X12_more_85 (N : Nat) (k85 : Int32 → sv_V → Option sv_V) (l2 : Int32) (V : sv_V) : Option sv_V := if (V.1 146 75) ≤ l2 then (sx_let (sv_I V 146 75 (1 : Int32)) (fun V11 => some V11)) else (if (V.1 146 59) = 0 then ((F_X12_pop  V).bind (fun (x16, V14) => (F_X12_pointOf (V.1 146 72) x16 V14).bind (fun (x19, V17) => if (V17.1 146 59) = 0 then (if (V17.1 146 72) = (1 : Int32) then (if (x19 - (102 : Int32)) < ((V17.1 146 52) - (2 : Int32)) then (B_X12_more_149 N k85 l2 x19 V17) else (B_X12_more_141 N k85 l2 V17)) else (B_X12_more_141 N k85 l2 V17)) else (B_X12_more_149 N k85 l2 x19 V17)))) else (sx_let (sv_I V 146 75 (1 : Int32)) (fun V13 => some V13)))
set_option maxRecDepth 20000 in
theorem tB_X12_more_85 {g : sx_G} (hG : sx_Go g) {P : Option Value → sv_V → Prop} {Vr : sv_V} (hP : P none Vr) {N : Nat} {k85 : Int32 → sv_V → Option sv_V} (hk85 : ∀ (l2 : Int32) (V : sv_V), k85 l2 V = some Vr → sv_N g qX12_more 5 85 [(0, .ref 146), (2, .int l2)] [] V P) {l2 : Int32} {V : sv_V} (h : B_X12_more_85 N k85 l2 V = some Vr) : sv_N g qX12_more 5 85 [(0, .ref 146), (2, .int l2)] [] V P := by
  unfold B_X12_more_85 at h
  refine sx_iload_n (pc := 85) dX12_more_85 sx_m1 ?_
  refine sx_aload_n (pc := 86) dX12_more_86 sx_m0 ?_
  refine sv_getI (pc := 87) hG dX12_more_87 f_12_469 lay_146 rfl ?_
  refine sx_icmp_ge (pc := 90) (tgt := 188) dX12_more_90 (by decide) (fun c10 => ?_) (fun c10 => ?_)
  · have h := sx_pos c10 h
    refine sx_aload_n (pc := 188) dX12_more_188 sx_m0 ?_
    refine sx_iconst (pc := 189) (v := 1) dX12_more_189 (by decide) ?_
    obtain ⟨V11, hV11⟩ : ∃ z : sv_V, z = sv_I V 146 75 (1 : Int32) := ⟨_, rfl⟩
    have h := sx_letE hV11 h
    refine sv_putI (pc := 190) hG dX12_more_190 f_12_469 lay_146 rfl hV11 ?_
    exact sv_vret (pc := 193) dX12_more_193 rfl h hP
  · have h := sx_neg c10 h
    refine sx_aload_n (pc := 93) dX12_more_93 sx_m0 ?_
    refine sv_getI (pc := 94) hG dX12_more_94 f_12_409 lay_146 rfl ?_
    refine sx_if_ne (pc := 97) (tgt := 188) dX12_more_97 (by decide) (fun c12 => ?_) (fun c12 => ?_)
    · have h := sx_neg c12 h
      refine sx_aload_n (pc := 188) dX12_more_188 sx_m0 ?_
      refine sx_iconst (pc := 189) (v := 1) dX12_more_189 (by decide) ?_
      obtain ⟨V13, hV13⟩ : ∃ z : sv_V, z = sv_I V 146 75 (1 : Int32) := ⟨_, rfl⟩
      have h := sx_letE hV13 h
      refine sv_putI (pc := 190) hG dX12_more_190 f_12_469 lay_146 rfl hV13 ?_
      exact sv_vret (pc := 193) dX12_more_193 rfl h hP
    · have h := sx_pos c12 h
      refine sx_aload_n (pc := 100) dX12_more_100 sx_m0 ?_
      refine sx_aload_n (pc := 101) dX12_more_101 sx_m0 ?_
      refine sv_getI (pc := 102) hG dX12_more_102 f_12_460 lay_146 rfl ?_
      refine sx_aload_n (pc := 105) dX12_more_105 sx_m0 ?_
      obtain ⟨⟨x16, V14⟩, g15, h⟩ := sx_bnd h
      refine sv_cV (pc := 106) (y := qX12_pop) (o := (some (.int x16))) (as := []) (V1 := V14) hG dX12_more_106 l_X12_579 y0X12_pop yvX12_pop rfl (Nat.le_of_ble_eq_true rfl) lay_146 kr_12 (by decide) (Nat.le_of_ble_eq_true rfl) rfl rfl rfl (t_X12_pop hG ⟨rfl, rfl⟩ g15) ?_
      obtain ⟨⟨x19, V17⟩, g18, h⟩ := sx_bnd h
      refine sv_cV (pc := 109) (y := qX12_pointOf) (o := (some (.int x19))) (as := [.int (V.1 146 72), .int x16]) (V1 := V17) hG dX12_more_109 l_X12_582 y0X12_pointOf yvX12_pointOf rfl (Nat.le_of_ble_eq_true rfl) lay_146 kr_12 (by decide) (Nat.le_of_ble_eq_true rfl) rfl rfl rfl (t_X12_pointOf hG ⟨rfl, rfl⟩ g18) ?_
      refine sx_istore_n (pc := 112) (lo' := [(3, .int x19), (0, .ref 146), (2, .int l2)]) dX12_more_112 (by decide) rfl ?_
      refine sx_aload_n (pc := 113) dX12_more_113 sx_m1 ?_
      refine sv_getI (pc := 114) hG dX12_more_114 f_12_409 lay_146 rfl ?_
      refine sx_if_ne (pc := 117) (tgt := 149) dX12_more_117 (by decide) (fun c20 => ?_) (fun c20 => ?_)
      · have h := sx_neg c20 h
        refine sx_wk (sx_s1 sx_m1 (sx_s1 sx_m2 (sx_s1 sx_m0 sx_s0))) ?_
        exact tB_X12_more_149 hG hP hk85 h
      · have h := sx_pos c20 h
        refine sx_aload_n (pc := 120) dX12_more_120 sx_m1 ?_
        refine sv_getI (pc := 121) hG dX12_more_121 f_12_460 lay_146 rfl ?_
        refine sx_iconst (pc := 124) (v := 1) dX12_more_124 (by decide) ?_
        refine sx_icmp_ne (pc := 125) (tgt := 141) dX12_more_125 (by decide) (fun c21 => ?_) (fun c21 => ?_)
        · have h := sx_neg c21 h
          refine sx_wk (sx_s1 sx_m1 (sx_s1 sx_m2 sx_s0)) ?_
          exact tB_X12_more_141 hG hP hk85 h
        · have h := sx_pos c21 h
          refine sx_iload_n (pc := 128) dX12_more_128 sx_m0 ?_
          refine sx_bipush (pc := 129) (v := 102) dX12_more_129 (by decide) ?_
          refine sx_isub (pc := 131) dX12_more_131 ?_
          refine sx_aload_n (pc := 132) dX12_more_132 sx_m1 ?_
          refine sv_getI (pc := 133) hG dX12_more_133 f_12_514 lay_146 rfl ?_
          refine sx_iconst (pc := 136) (v := 2) dX12_more_136 (by decide) ?_
          refine sx_isub (pc := 137) dX12_more_137 ?_
          refine sx_icmp_lt (pc := 138) (tgt := 149) dX12_more_138 (by decide) (fun c22 => ?_) (fun c22 => ?_)
          · have h := sx_pos c22 h
            refine sx_wk (sx_s1 sx_m1 (sx_s1 sx_m2 (sx_s1 sx_m0 sx_s0))) ?_
            exact tB_X12_more_149 hG hP hk85 h
          · have h := sx_neg c22 h
            refine sx_wk (sx_s1 sx_m1 (sx_s1 sx_m2 sx_s0)) ?_
            exact tB_X12_more_141 hG hP hk85 h
theorem tL_X12_more_85 {g : sx_G} (hG : sx_Go g) {P : Option Value → sv_V → Prop} {Vr : sv_V} (hP : P none Vr) {N : Nat}   : ∀ (n : Nat) (l2 : Int32) (V : sv_V), sx_lp2 (B_X12_more_85 N ) n l2 V = some Vr → sv_N g qX12_more 5 85 [(0, .ref 146), (2, .int l2)] [] V P :=
  sx_lp2_ind (fun k0 ih _ V h => tB_X12_more_85 hG hP ih h)
def B_X12_more_253 (N : Nat)   (V : sv_V) : Option sv_V := (F_X12_fail (5 : Int32) V).bind (fun V23 => some V23)
set_option maxRecDepth 20000 in
theorem tB_X12_more_253 {g : sx_G} (hG : sx_Go g) {P : Option Value → sv_V → Prop} {Vr : sv_V} (hP : P none Vr) {N : Nat}    {V : sv_V} (h : B_X12_more_253 N   V = some Vr) : sv_N g qX12_more 5 253 [(0, .ref 146)] [] V P := by
  unfold B_X12_more_253 at h
  refine sx_aload_n (pc := 253) dX12_more_253 sx_m0 ?_
  refine sx_iconst (pc := 254) (v := 5) dX12_more_254 (by decide) ?_
  obtain ⟨V23, g24, h⟩ := sx_bnd h
  refine sv_cV (pc := 255) (y := qX12_fail) (o := none) (as := [.int (5 : Int32)]) (V1 := V23) hG dX12_more_255 l_X12_421 y0X12_fail yvX12_fail rfl (Nat.le_of_ble_eq_true rfl) lay_146 kr_12 (by decide) (Nat.le_of_ble_eq_true rfl) rfl rfl rfl (t_X12_fail hG ⟨rfl, rfl⟩ g24) ?_
  exact sv_vret (pc := 258) dX12_more_258 rfl h hP
def B_X12_more_286 (N : Nat) (k262 : Int32 → Int32 → Int32 → sv_V → Option sv_V) (l1 : Int32) (l2 : Int32) (l5 : Int32) (s1 : Int32) (s2 : Int32) (V : sv_V) : Option sv_V := if sx_in s1 102 = true then if sv_bl s2 = true then sx_let (sv_I V 171 s1.toNatClampNeg s2) (fun V27 => sx_let (l5 + 1) (fun x28 => k262 l1 l2 x28 V27)) else none else none
set_option maxRecDepth 20000 in
theorem tB_X12_more_286 {g : sx_G} (hG : sx_Go g) {P : Option Value → sv_V → Prop} {Vr : sv_V} (hP : P none Vr) {N : Nat} {k262 : Int32 → Int32 → Int32 → sv_V → Option sv_V} (hk262 : ∀ (l1 : Int32) (l2 : Int32) (l5 : Int32) (V : sv_V), k262 l1 l2 l5 V = some Vr → sv_N g qX12_more 5 262 [(0, .ref 146), (1, .int l1), (2, .int l2), (5, .int l5)] [] V P) {l1 : Int32} {l2 : Int32} {l5 : Int32} {s1 : Int32} {s2 : Int32} {V : sv_V} (h : B_X12_more_286 N k262 l1 l2 l5 s1 s2 V = some Vr) : sv_N g qX12_more 5 286 [(0, .ref 146), (1, .int l1), (2, .int l2), (5, .int l5)] [.int s2, .int s1, .ref 171] V P := by
  unfold B_X12_more_286 at h
  obtain ⟨g25, h⟩ := sx_grd h
  obtain ⟨g26, h⟩ := sx_grd h
  obtain ⟨V27, hV27⟩ : ∃ z : sv_V, z = sv_I V 171 s1.toNatClampNeg s2 := ⟨_, rfl⟩
  have h := sx_letE hV27 h
  refine sv_zast (pc := 286) hG dX12_more_286 lay_171 g25 g26 hV27 ?_
  obtain ⟨x28, hx28⟩ : ∃ z : Int32, z = l5 + 1 := ⟨_, rfl⟩
  have h := sx_letE hx28 h
  refine sx_iinc (pc := 287) (v := x28) (lo' := [(5, .int x28), (0, .ref 146), (1, .int l1), (2, .int l2)]) dX12_more_287 sx_m3 (by rw [hx28]; rfl) (by decide) rfl ?_
  refine sx_goto (pc := 290) (tgt := 262) dX12_more_290 (by decide) ?_
  refine sx_wk (sx_s1 sx_m1 (sx_s1 sx_m2 (sx_s1 sx_m3 (sx_s1 sx_m0 sx_s0)))) ?_
  exact hk262 _ _ _ _ h
def B_X12_more_262 (N : Nat) (k262 : Int32 → Int32 → Int32 → sv_V → Option sv_V) (l1 : Int32) (l2 : Int32) (l5 : Int32) (V : sv_V) : Option sv_V := if l2 < l5 then (some V) else (if l1 = (129 : Int32) then (B_X12_more_286 N k262 l1 l2 l5 l5 (1 : Int32) V) else (B_X12_more_286 N k262 l1 l2 l5 l5 (0 : Int32) V))
set_option maxRecDepth 20000 in
theorem tB_X12_more_262 {g : sx_G} (hG : sx_Go g) {P : Option Value → sv_V → Prop} {Vr : sv_V} (hP : P none Vr) {N : Nat} {k262 : Int32 → Int32 → Int32 → sv_V → Option sv_V} (hk262 : ∀ (l1 : Int32) (l2 : Int32) (l5 : Int32) (V : sv_V), k262 l1 l2 l5 V = some Vr → sv_N g qX12_more 5 262 [(0, .ref 146), (1, .int l1), (2, .int l2), (5, .int l5)] [] V P) {l1 : Int32} {l2 : Int32} {l5 : Int32} {V : sv_V} (h : B_X12_more_262 N k262 l1 l2 l5 V = some Vr) : sv_N g qX12_more 5 262 [(0, .ref 146), (1, .int l1), (2, .int l2), (5, .int l5)] [] V P := by
  unfold B_X12_more_262 at h
  refine sx_iload (pc := 262) dX12_more_262 sx_m3 ?_
  refine sx_iload_n (pc := 264) dX12_more_264 sx_m2 ?_
  refine sx_icmp_gt (pc := 265) (tgt := 293) dX12_more_265 (by decide) (fun c29 => ?_) (fun c29 => ?_)
  · have h := sx_pos c29 h
    exact sv_vret (pc := 293) dX12_more_293 rfl h hP
  · have h := sx_neg c29 h
    refine sx_aload_n (pc := 268) dX12_more_268 sx_m0 ?_
    refine sv_getA (pc := 269) hG dX12_more_269 f_12_85 lay_146 rfl cr_146_51 ?_
    refine sx_iload (pc := 272) dX12_more_272 sx_m3 ?_
    refine sx_iload_n (pc := 274) dX12_more_274 sx_m1 ?_
    refine sx_sipush (pc := 275) (v := 129) dX12_more_275 (by decide) ?_
    refine sx_icmp_ne (pc := 278) (tgt := 285) dX12_more_278 (by decide) (fun c30 => ?_) (fun c30 => ?_)
    · have h := sx_neg c30 h
      refine sx_iconst (pc := 285) (v := 0) dX12_more_285 (by decide) ?_
      refine sx_wk (sx_s1 sx_m0 (sx_s1 sx_m1 (sx_s1 sx_m2 (sx_s1 sx_m3 sx_s0)))) ?_
      exact tB_X12_more_286 hG hP hk262 h
    · have h := sx_pos c30 h
      refine sx_iconst (pc := 281) (v := 1) dX12_more_281 (by decide) ?_
      refine sx_goto (pc := 282) (tgt := 286) dX12_more_282 (by decide) ?_
      refine sx_wk (sx_s1 sx_m0 (sx_s1 sx_m1 (sx_s1 sx_m2 (sx_s1 sx_m3 sx_s0)))) ?_
      exact tB_X12_more_286 hG hP hk262 h
theorem tL_X12_more_262 {g : sx_G} (hG : sx_Go g) {P : Option Value → sv_V → Prop} {Vr : sv_V} (hP : P none Vr) {N : Nat}   : ∀ (n : Nat) (l1 : Int32) (l2 : Int32) (l5 : Int32) (V : sv_V), sx_lp4 (B_X12_more_262 N ) n l1 l2 l5 V = some Vr → sv_N g qX12_more 5 262 [(0, .ref 146), (1, .int l1), (2, .int l2), (5, .int l5)] [] V P :=
  sx_lp4_ind (fun k0 ih _ _ _ V h => tB_X12_more_262 hG hP ih h)
def B_X12_more_259 (N : Nat)  (l1 : Int32) (l2 : Int32) (l3 : Int32) (V : sv_V) : Option sv_V := sx_lp4 (B_X12_more_262 N ) N l1 l2 l3 V
set_option maxRecDepth 20000 in
theorem tB_X12_more_259 {g : sx_G} (hG : sx_Go g) {P : Option Value → sv_V → Prop} {Vr : sv_V} (hP : P none Vr) {N : Nat}   {l1 : Int32} {l2 : Int32} {l3 : Int32} {V : sv_V} (h : B_X12_more_259 N  l1 l2 l3 V = some Vr) : sv_N g qX12_more 5 259 [(0, .ref 146), (1, .int l1), (2, .int l2), (3, .int l3)] [] V P := by
  unfold B_X12_more_259 at h
  refine sx_iload_n (pc := 259) dX12_more_259 sx_m3 ?_
  refine sx_istore (pc := 260) (lo' := [(5, .int l3), (0, .ref 146), (1, .int l1), (2, .int l2), (3, .int l3)]) dX12_more_260 (by decide) rfl ?_
  refine sx_wk (sx_s1 sx_m1 (sx_s1 sx_m2 (sx_s1 sx_m3 (sx_s1 sx_m0 sx_s0)))) ?_
  exact tL_X12_more_262 hG hP  N _ _ _ _ h
def B_X12_more_236 (N : Nat)  (l1 : Int32) (l2 : Int32) (l3 : Int32) (s0 : Int32) (V : sv_V) : Option sv_V := if l2 < l3 then (B_X12_more_259 N  l1 l2 l3 V) else (if l3 < 0 then (B_X12_more_253 N   V) else (if l2 < s0 then (B_X12_more_259 N  l1 l2 l3 V) else (B_X12_more_253 N   V)))
set_option maxRecDepth 20000 in
theorem tB_X12_more_236 {g : sx_G} (hG : sx_Go g) {P : Option Value → sv_V → Prop} {Vr : sv_V} (hP : P none Vr) {N : Nat}   {l1 : Int32} {l2 : Int32} {l3 : Int32} {s0 : Int32} {V : sv_V} (h : B_X12_more_236 N  l1 l2 l3 s0 V = some Vr) : sv_N g qX12_more 5 236 [(0, .ref 146), (1, .int l1), (2, .int l2), (3, .int l3)] [.int s0] V P := by
  unfold B_X12_more_236 at h
  refine sx_istore (pc := 236) (lo' := [(4, .int s0), (0, .ref 146), (1, .int l1), (2, .int l2), (3, .int l3)]) dX12_more_236 (by decide) rfl ?_
  refine sx_iload_n (pc := 238) dX12_more_238 sx_m4 ?_
  refine sx_iload_n (pc := 239) dX12_more_239 sx_m3 ?_
  refine sx_icmp_gt (pc := 240) (tgt := 259) dX12_more_240 (by decide) (fun c31 => ?_) (fun c31 => ?_)
  · have h := sx_pos c31 h
    refine sx_wk (sx_s1 sx_m1 (sx_s1 sx_m2 (sx_s1 sx_m3 (sx_s1 sx_m4 sx_s0)))) ?_
    exact tB_X12_more_259 hG hP  h
  · have h := sx_neg c31 h
    refine sx_iload_n (pc := 243) dX12_more_243 sx_m4 ?_
    refine sx_if_lt (pc := 244) (tgt := 253) dX12_more_244 (by decide) (fun c32 => ?_) (fun c32 => ?_)
    · have h := sx_pos c32 h
      refine sx_wk (sx_s1 sx_m1 sx_s0) ?_
      exact tB_X12_more_253 hG hP  h
    · have h := sx_neg c32 h
      refine sx_iload_n (pc := 247) dX12_more_247 sx_m3 ?_
      refine sx_iload (pc := 248) dX12_more_248 sx_m0 ?_
      refine sx_icmp_lt (pc := 250) (tgt := 259) dX12_more_250 (by decide) (fun c33 => ?_) (fun c33 => ?_)
      · have h := sx_pos c33 h
        refine sx_wk (sx_s1 sx_m1 (sx_s1 sx_m2 (sx_s1 sx_m3 (sx_s1 sx_m4 sx_s0)))) ?_
        exact tB_X12_more_259 hG hP  h
      · have h := sx_neg c33 h
        refine sx_wk (sx_s1 sx_m1 sx_s0) ?_
        exact tB_X12_more_253 hG hP  h
def B_X12_more_194 (N : Nat)  (l1 : Int32) (V : sv_V) : Option sv_V := (F_X12_has (2 : Int32) V).bind (fun (x36, V34) => if x36 = 0 then (some V34) else ((F_X12_pop  V34).bind (fun (x40, V38) => (F_X12_pop  V38).bind (fun (x43, V41) => if (V41.1 146 53) = 0 then (B_X12_more_236 N  l1 x40 x43 (0 : Int32) V41) else (if sx_in ((V41.1 146 53) - (1 : Int32)) 20 = true then B_X12_more_236 N  l1 x40 x43 ((V41.1 172 ((V41.1 146 53) - (1 : Int32)).toNatClampNeg) + (1 : Int32)) V41 else none)))))
set_option maxRecDepth 20000 in
theorem tB_X12_more_194 {g : sx_G} (hG : sx_Go g) {P : Option Value → sv_V → Prop} {Vr : sv_V} (hP : P none Vr) {N : Nat}   {l1 : Int32} {V : sv_V} (h : B_X12_more_194 N  l1 V = some Vr) : sv_N g qX12_more 5 194 [(0, .ref 146), (1, .int l1)] [] V P := by
  unfold B_X12_more_194 at h
  refine sx_aload_n (pc := 194) dX12_more_194 sx_m0 ?_
  refine sx_iconst (pc := 195) (v := 2) dX12_more_195 (by decide) ?_
  obtain ⟨⟨x36, V34⟩, g35, h⟩ := sx_bnd h
  refine sv_cV (pc := 196) (y := qX12_has) (o := (some (.int x36))) (as := [.int (2 : Int32)]) (V1 := V34) hG dX12_more_196 l_X12_576 y0X12_has yvX12_has rfl (Nat.le_of_ble_eq_true rfl) lay_146 kr_12 (by decide) (Nat.le_of_ble_eq_true rfl) rfl rfl rfl (t_X12_has hG ⟨rfl, rfl⟩ g35) ?_
  refine sx_if_eq (pc := 199) (tgt := 293) dX12_more_199 (by decide) (fun c37 => ?_) (fun c37 => ?_)
  · have h := sx_pos c37 h
    exact sv_vret (pc := 293) dX12_more_293 rfl h hP
  · have h := sx_neg c37 h
    refine sx_aload_n (pc := 202) dX12_more_202 sx_m0 ?_
    obtain ⟨⟨x40, V38⟩, g39, h⟩ := sx_bnd h
    refine sv_cV (pc := 203) (y := qX12_pop) (o := (some (.int x40))) (as := []) (V1 := V38) hG dX12_more_203 l_X12_579 y0X12_pop yvX12_pop rfl (Nat.le_of_ble_eq_true rfl) lay_146 kr_12 (by decide) (Nat.le_of_ble_eq_true rfl) rfl rfl rfl (t_X12_pop hG ⟨rfl, rfl⟩ g39) ?_
    refine sx_istore_n (pc := 206) (lo' := [(2, .int x40), (0, .ref 146), (1, .int l1)]) dX12_more_206 (by decide) rfl ?_
    refine sx_aload_n (pc := 207) dX12_more_207 sx_m1 ?_
    obtain ⟨⟨x43, V41⟩, g42, h⟩ := sx_bnd h
    refine sv_cV (pc := 208) (y := qX12_pop) (o := (some (.int x43))) (as := []) (V1 := V41) hG dX12_more_208 l_X12_579 y0X12_pop yvX12_pop rfl (Nat.le_of_ble_eq_true rfl) lay_146 kr_12 (by decide) (Nat.le_of_ble_eq_true rfl) rfl rfl rfl (t_X12_pop hG ⟨rfl, rfl⟩ g42) ?_
    refine sx_istore_n (pc := 211) (lo' := [(3, .int x43), (2, .int x40), (0, .ref 146), (1, .int l1)]) dX12_more_211 (by decide) rfl ?_
    refine sx_aload_n (pc := 212) dX12_more_212 sx_m2 ?_
    refine sv_getI (pc := 213) hG dX12_more_213 f_12_706 lay_146 rfl ?_
    refine sx_if_ne (pc := 216) (tgt := 223) dX12_more_216 (by decide) (fun c44 => ?_) (fun c44 => ?_)
    · have h := sx_neg c44 h
      refine sx_aload_n (pc := 223) dX12_more_223 sx_m2 ?_
      refine sv_getA (pc := 224) hG dX12_more_224 f_12_88 lay_146 rfl cr_146_54 ?_
      refine sx_aload_n (pc := 227) dX12_more_227 sx_m2 ?_
      refine sv_getI (pc := 228) hG dX12_more_228 f_12_706 lay_146 rfl ?_
      refine sx_iconst (pc := 231) (v := 1) dX12_more_231 (by decide) ?_
      refine sx_isub (pc := 232) dX12_more_232 ?_
      obtain ⟨g45, h⟩ := sx_grd h
      refine sv_iald (pc := 233) hG dX12_more_233 lay_172 g45 ?_
      refine sx_iconst (pc := 234) (v := 1) dX12_more_234 (by decide) ?_
      refine sx_iadd (pc := 235) dX12_more_235 ?_
      refine sx_wk (sx_s1 sx_m2 (sx_s1 sx_m3 (sx_s1 sx_m1 (sx_s1 sx_m0 sx_s0)))) ?_
      exact tB_X12_more_236 hG hP  h
    · have h := sx_pos c44 h
      refine sx_iconst (pc := 219) (v := 0) dX12_more_219 (by decide) ?_
      refine sx_goto (pc := 220) (tgt := 236) dX12_more_220 (by decide) ?_
      refine sx_wk (sx_s1 sx_m2 (sx_s1 sx_m3 (sx_s1 sx_m1 (sx_s1 sx_m0 sx_s0)))) ?_
      exact tB_X12_more_236 hG hP  h
def B_X12_more_489 (N : Nat)  (l4 : Int32) (s1 : Int32) (V : sv_V) : Option sv_V := sx_let (sv_I V 146 65 s1) (fun V46 => if l4 = 0 then (sx_let (sv_I V46 146 66 (V46.1 146 106)) (fun V48 => some V48)) else (sx_let (sv_I V46 146 66 (V46.1 146 105)) (fun V49 => some V49)))
set_option maxRecDepth 20000 in
theorem tB_X12_more_489 {g : sx_G} (hG : sx_Go g) {P : Option Value → sv_V → Prop} {Vr : sv_V} (hP : P none Vr) {N : Nat}   {l4 : Int32} {s1 : Int32} {V : sv_V} (h : B_X12_more_489 N  l4 s1 V = some Vr) : sv_N g qX12_more 5 489 [(0, .ref 146), (4, .int l4)] [.int s1, .ref 146] V P := by
  unfold B_X12_more_489 at h
  obtain ⟨V46, hV46⟩ : ∃ z : sv_V, z = sv_I V 146 65 s1 := ⟨_, rfl⟩
  have h := sx_letE hV46 h
  refine sv_putI (pc := 489) hG dX12_more_489 f_12_439 lay_146 rfl hV46 ?_
  refine sx_aload_n (pc := 492) dX12_more_492 sx_m0 ?_
  refine sx_iload (pc := 493) dX12_more_493 sx_m1 ?_
  refine sx_if_eq (pc := 495) (tgt := 505) dX12_more_495 (by decide) (fun c47 => ?_) (fun c47 => ?_)
  · have h := sx_pos c47 h
    refine sx_aload_n (pc := 505) dX12_more_505 sx_m0 ?_
    refine sv_getI (pc := 506) hG dX12_more_506 f_12_536 lay_146 rfl ?_
    obtain ⟨V48, hV48⟩ : ∃ z : sv_V, z = sv_I V46 146 66 (V46.1 146 106) := ⟨_, rfl⟩
    have h := sx_letE hV48 h
    refine sv_putI (pc := 509) hG dX12_more_509 f_12_442 lay_146 rfl hV48 ?_
    exact sv_vret (pc := 512) dX12_more_512 rfl h hP
  · have h := sx_neg c47 h
    refine sx_aload_n (pc := 498) dX12_more_498 sx_m0 ?_
    refine sv_getI (pc := 499) hG dX12_more_499 f_12_533 lay_146 rfl ?_
    refine sx_goto (pc := 502) (tgt := 509) dX12_more_502 (by decide) ?_
    obtain ⟨V49, hV49⟩ : ∃ z : sv_V, z = sv_I V46 146 66 (V46.1 146 105) := ⟨_, rfl⟩
    have h := sx_letE hV49 h
    refine sv_putI (pc := 509) hG dX12_more_509 f_12_442 lay_146 rfl hV49 ?_
    exact sv_vret (pc := 512) dX12_more_512 rfl h hP
def B_X12_more_438 (N : Nat)  (l2 : Int32) (l3 : Int32) (l4 : Int32) (s1 : Int32) (V : sv_V) : Option sv_V := sx_let (sv_I V 146 68 s1) (fun V50 => if sx_in l3 204 = true then if sx_in l2 204 = true then if sx_in l3 204 = true then if sx_in l2 204 = true then (F_X12_direction N ((V50.1 168 l3.toNatClampNeg) - (V50.1 168 l2.toNatClampNeg)) ((V50.1 169 l3.toNatClampNeg) - (V50.1 169 l2.toNatClampNeg)) V50).bind (fun V55 => if l4 = 0 then (B_X12_more_489 N  l4 (V55.1 146 105) V55) else (B_X12_more_489 N  l4 (-(V55.1 146 106)) V55)) else none else none else none else none)
set_option maxRecDepth 20000 in
theorem tB_X12_more_438 {g : sx_G} (hG : sx_Go g) {P : Option Value → sv_V → Prop} {Vr : sv_V} (hP : P none Vr) {N : Nat}   {l2 : Int32} {l3 : Int32} {l4 : Int32} {s1 : Int32} {V : sv_V} (h : B_X12_more_438 N  l2 l3 l4 s1 V = some Vr) : sv_N g qX12_more 5 438 [(0, .ref 146), (2, .int l2), (3, .int l3), (4, .int l4)] [.int s1, .ref 146] V P := by
  unfold B_X12_more_438 at h
  obtain ⟨V50, hV50⟩ : ∃ z : sv_V, z = sv_I V 146 68 s1 := ⟨_, rfl⟩
  have h := sx_letE hV50 h
  refine sv_putI (pc := 438) hG dX12_more_438 f_12_448 lay_146 rfl hV50 ?_
  refine sx_aload_n (pc := 441) dX12_more_441 sx_m0 ?_
  refine sx_aload_n (pc := 442) dX12_more_442 sx_m0 ?_
  refine sv_getA (pc := 443) hG dX12_more_443 f_12_76 lay_146 rfl cr_146_48 ?_
  refine sx_iload_n (pc := 446) dX12_more_446 sx_m2 ?_
  obtain ⟨g51, h⟩ := sx_grd h
  refine sv_iald (pc := 447) hG dX12_more_447 lay_168 g51 ?_
  refine sx_aload_n (pc := 448) dX12_more_448 sx_m0 ?_
  refine sv_getA (pc := 449) hG dX12_more_449 f_12_76 lay_146 rfl cr_146_48 ?_
  refine sx_iload_n (pc := 452) dX12_more_452 sx_m1 ?_
  obtain ⟨g52, h⟩ := sx_grd h
  refine sv_iald (pc := 453) hG dX12_more_453 lay_168 g52 ?_
  refine sx_isub (pc := 454) dX12_more_454 ?_
  refine sx_aload_n (pc := 455) dX12_more_455 sx_m0 ?_
  refine sv_getA (pc := 456) hG dX12_more_456 f_12_79 lay_146 rfl cr_146_49 ?_
  refine sx_iload_n (pc := 459) dX12_more_459 sx_m2 ?_
  obtain ⟨g53, h⟩ := sx_grd h
  refine sv_iald (pc := 460) hG dX12_more_460 lay_169 g53 ?_
  refine sx_aload_n (pc := 461) dX12_more_461 sx_m0 ?_
  refine sv_getA (pc := 462) hG dX12_more_462 f_12_79 lay_146 rfl cr_146_49 ?_
  refine sx_iload_n (pc := 465) dX12_more_465 sx_m1 ?_
  obtain ⟨g54, h⟩ := sx_grd h
  refine sv_iald (pc := 466) hG dX12_more_466 lay_169 g54 ?_
  refine sx_isub (pc := 467) dX12_more_467 ?_
  obtain ⟨V55, g56, h⟩ := sx_bnd h
  refine sv_cV (pc := 468) (y := qX12_direction) (o := none) (as := [.int ((V50.1 168 l3.toNatClampNeg) - (V50.1 168 l2.toNatClampNeg)), .int ((V50.1 169 l3.toNatClampNeg) - (V50.1 169 l2.toNatClampNeg))]) (V1 := V55) hG dX12_more_468 l_X12_586 y0X12_direction yvX12_direction rfl (Nat.le_of_ble_eq_true rfl) lay_146 kr_12 (by decide) (Nat.le_of_ble_eq_true rfl) rfl rfl rfl (t_X12_direction hG ⟨rfl, rfl⟩ g56) ?_
  refine sx_aload_n (pc := 471) dX12_more_471 sx_m0 ?_
  refine sx_iload (pc := 472) dX12_more_472 sx_m3 ?_
  refine sx_if_eq (pc := 474) (tgt := 485) dX12_more_474 (by decide) (fun c57 => ?_) (fun c57 => ?_)
  · have h := sx_pos c57 h
    refine sx_aload_n (pc := 485) dX12_more_485 sx_m0 ?_
    refine sv_getI (pc := 486) hG dX12_more_486 f_12_533 lay_146 rfl ?_
    refine sx_wk (sx_s1 sx_m0 (sx_s1 sx_m3 sx_s0)) ?_
    exact tB_X12_more_489 hG hP  h
  · have h := sx_neg c57 h
    refine sx_aload_n (pc := 477) dX12_more_477 sx_m0 ?_
    refine sv_getI (pc := 478) hG dX12_more_478 f_12_536 lay_146 rfl ?_
    refine sx_ineg (pc := 481) dX12_more_481 ?_
    refine sx_goto (pc := 482) (tgt := 489) dX12_more_482 (by decide) ?_
    refine sx_wk (sx_s1 sx_m0 (sx_s1 sx_m3 sx_s0)) ?_
    exact tB_X12_more_489 hG hP  h
def B_X12_more_418 (N : Nat)  (l2 : Int32) (l3 : Int32) (l4 : Int32) (s1 : Int32) (V : sv_V) : Option sv_V := sx_let (sv_I V 146 67 s1) (fun V58 => if l4 = 0 then (B_X12_more_438 N  l2 l3 l4 (V58.1 146 106) V58) else (B_X12_more_438 N  l2 l3 l4 (V58.1 146 105) V58))
set_option maxRecDepth 20000 in
theorem tB_X12_more_418 {g : sx_G} (hG : sx_Go g) {P : Option Value → sv_V → Prop} {Vr : sv_V} (hP : P none Vr) {N : Nat}   {l2 : Int32} {l3 : Int32} {l4 : Int32} {s1 : Int32} {V : sv_V} (h : B_X12_more_418 N  l2 l3 l4 s1 V = some Vr) : sv_N g qX12_more 5 418 [(0, .ref 146), (2, .int l2), (3, .int l3), (4, .int l4)] [.int s1, .ref 146] V P := by
  unfold B_X12_more_418 at h
  obtain ⟨V58, hV58⟩ : ∃ z : sv_V, z = sv_I V 146 67 s1 := ⟨_, rfl⟩
  have h := sx_letE hV58 h
  refine sv_putI (pc := 418) hG dX12_more_418 f_12_445 lay_146 rfl hV58 ?_
  refine sx_aload_n (pc := 421) dX12_more_421 sx_m0 ?_
  refine sx_iload (pc := 422) dX12_more_422 sx_m3 ?_
  refine sx_if_eq (pc := 424) (tgt := 434) dX12_more_424 (by decide) (fun c59 => ?_) (fun c59 => ?_)
  · have h := sx_pos c59 h
    refine sx_aload_n (pc := 434) dX12_more_434 sx_m0 ?_
    refine sv_getI (pc := 435) hG dX12_more_435 f_12_536 lay_146 rfl ?_
    refine sx_wk (sx_s1 sx_m0 (sx_s1 sx_m1 (sx_s1 sx_m2 (sx_s1 sx_m3 sx_s0)))) ?_
    exact tB_X12_more_438 hG hP  h
  · have h := sx_neg c59 h
    refine sx_aload_n (pc := 427) dX12_more_427 sx_m0 ?_
    refine sv_getI (pc := 428) hG dX12_more_428 f_12_533 lay_146 rfl ?_
    refine sx_goto (pc := 431) (tgt := 438) dX12_more_431 (by decide) ?_
    refine sx_wk (sx_s1 sx_m0 (sx_s1 sx_m1 (sx_s1 sx_m2 (sx_s1 sx_m3 sx_s0)))) ?_
    exact tB_X12_more_438 hG hP  h
def B_X12_more_368 (N : Nat)  (l2 : Int32) (l3 : Int32) (s0 : Int32) (V : sv_V) : Option sv_V := if sx_in l3 204 = true then if sx_in l2 204 = true then if sx_in l3 204 = true then if sx_in l2 204 = true then (F_X12_direction N ((V.1 166 l3.toNatClampNeg) - (V.1 166 l2.toNatClampNeg)) ((V.1 167 l3.toNatClampNeg) - (V.1 167 l2.toNatClampNeg)) V).bind (fun V64 => if s0 = 0 then (B_X12_more_418 N  l2 l3 s0 (V64.1 146 105) V64) else (B_X12_more_418 N  l2 l3 s0 (-(V64.1 146 106)) V64)) else none else none else none else none
set_option maxRecDepth 20000 in
theorem tB_X12_more_368 {g : sx_G} (hG : sx_Go g) {P : Option Value → sv_V → Prop} {Vr : sv_V} (hP : P none Vr) {N : Nat}   {l2 : Int32} {l3 : Int32} {s0 : Int32} {V : sv_V} (h : B_X12_more_368 N  l2 l3 s0 V = some Vr) : sv_N g qX12_more 5 368 [(0, .ref 146), (2, .int l2), (3, .int l3)] [.int s0] V P := by
  unfold B_X12_more_368 at h
  refine sx_istore (pc := 368) (lo' := [(4, .int s0), (0, .ref 146), (2, .int l2), (3, .int l3)]) dX12_more_368 (by decide) rfl ?_
  refine sx_aload_n (pc := 370) dX12_more_370 sx_m1 ?_
  refine sx_aload_n (pc := 371) dX12_more_371 sx_m1 ?_
  refine sv_getA (pc := 372) hG dX12_more_372 f_12_70 lay_146 rfl cr_146_46 ?_
  refine sx_iload_n (pc := 375) dX12_more_375 sx_m3 ?_
  obtain ⟨g60, h⟩ := sx_grd h
  refine sv_iald (pc := 376) hG dX12_more_376 lay_166 g60 ?_
  refine sx_aload_n (pc := 377) dX12_more_377 sx_m1 ?_
  refine sv_getA (pc := 378) hG dX12_more_378 f_12_70 lay_146 rfl cr_146_46 ?_
  refine sx_iload_n (pc := 381) dX12_more_381 sx_m2 ?_
  obtain ⟨g61, h⟩ := sx_grd h
  refine sv_iald (pc := 382) hG dX12_more_382 lay_166 g61 ?_
  refine sx_isub (pc := 383) dX12_more_383 ?_
  refine sx_aload_n (pc := 384) dX12_more_384 sx_m1 ?_
  refine sv_getA (pc := 385) hG dX12_more_385 f_12_73 lay_146 rfl cr_146_47 ?_
  refine sx_iload_n (pc := 388) dX12_more_388 sx_m3 ?_
  obtain ⟨g62, h⟩ := sx_grd h
  refine sv_iald (pc := 389) hG dX12_more_389 lay_167 g62 ?_
  refine sx_aload_n (pc := 390) dX12_more_390 sx_m1 ?_
  refine sv_getA (pc := 391) hG dX12_more_391 f_12_73 lay_146 rfl cr_146_47 ?_
  refine sx_iload_n (pc := 394) dX12_more_394 sx_m2 ?_
  obtain ⟨g63, h⟩ := sx_grd h
  refine sv_iald (pc := 395) hG dX12_more_395 lay_167 g63 ?_
  refine sx_isub (pc := 396) dX12_more_396 ?_
  obtain ⟨V64, g65, h⟩ := sx_bnd h
  refine sv_cV (pc := 397) (y := qX12_direction) (o := none) (as := [.int ((V.1 166 l3.toNatClampNeg) - (V.1 166 l2.toNatClampNeg)), .int ((V.1 167 l3.toNatClampNeg) - (V.1 167 l2.toNatClampNeg))]) (V1 := V64) hG dX12_more_397 l_X12_586 y0X12_direction yvX12_direction rfl (Nat.le_of_ble_eq_true rfl) lay_146 kr_12 (by decide) (Nat.le_of_ble_eq_true rfl) rfl rfl rfl (t_X12_direction hG ⟨rfl, rfl⟩ g65) ?_
  refine sx_aload_n (pc := 400) dX12_more_400 sx_m1 ?_
  refine sx_iload (pc := 401) dX12_more_401 sx_m0 ?_
  refine sx_if_eq (pc := 403) (tgt := 414) dX12_more_403 (by decide) (fun c66 => ?_) (fun c66 => ?_)
  · have h := sx_pos c66 h
    refine sx_aload_n (pc := 414) dX12_more_414 sx_m1 ?_
    refine sv_getI (pc := 415) hG dX12_more_415 f_12_533 lay_146 rfl ?_
    refine sx_wk (sx_s1 sx_m1 (sx_s1 sx_m2 (sx_s1 sx_m3 (sx_s1 sx_m0 sx_s0)))) ?_
    exact tB_X12_more_418 hG hP  h
  · have h := sx_neg c66 h
    refine sx_aload_n (pc := 406) dX12_more_406 sx_m1 ?_
    refine sv_getI (pc := 407) hG dX12_more_407 f_12_536 lay_146 rfl ?_
    refine sx_ineg (pc := 410) dX12_more_410 ?_
    refine sx_goto (pc := 411) (tgt := 418) dX12_more_411 (by decide) ?_
    refine sx_wk (sx_s1 sx_m1 (sx_s1 sx_m2 (sx_s1 sx_m3 (sx_s1 sx_m0 sx_s0)))) ?_
    exact tB_X12_more_418 hG hP  h
def B_X12_more_315 (N : Nat)  (l1 : Int32) (V : sv_V) : Option sv_V := (F_X12_has (2 : Int32) V).bind (fun (x69, V67) => if x69 = 0 then (some V67) else ((F_X12_pop  V67).bind (fun (x73, V71) => (F_X12_pointOf (V67.1 146 74) x73 V71).bind (fun (x76, V74) => (F_X12_pop  V74).bind (fun (x79, V77) => (F_X12_pointOf (V74.1 146 73) x79 V77).bind (fun (x82, V80) => if (V80.1 146 59) = 0 then (if l1 = (135 : Int32) then (B_X12_more_368 N  x76 x82 (1 : Int32) V80) else (B_X12_more_368 N  x76 x82 (0 : Int32) V80)) else (some V80)))))))
set_option maxRecDepth 20000 in
theorem tB_X12_more_315 {g : sx_G} (hG : sx_Go g) {P : Option Value → sv_V → Prop} {Vr : sv_V} (hP : P none Vr) {N : Nat}   {l1 : Int32} {V : sv_V} (h : B_X12_more_315 N  l1 V = some Vr) : sv_N g qX12_more 5 315 [(0, .ref 146), (1, .int l1)] [] V P := by
  unfold B_X12_more_315 at h
  refine sx_aload_n (pc := 315) dX12_more_315 sx_m0 ?_
  refine sx_iconst (pc := 316) (v := 2) dX12_more_316 (by decide) ?_
  obtain ⟨⟨x69, V67⟩, g68, h⟩ := sx_bnd h
  refine sv_cV (pc := 317) (y := qX12_has) (o := (some (.int x69))) (as := [.int (2 : Int32)]) (V1 := V67) hG dX12_more_317 l_X12_576 y0X12_has yvX12_has rfl (Nat.le_of_ble_eq_true rfl) lay_146 kr_12 (by decide) (Nat.le_of_ble_eq_true rfl) rfl rfl rfl (t_X12_has hG ⟨rfl, rfl⟩ g68) ?_
  refine sx_if_eq (pc := 320) (tgt := 512) dX12_more_320 (by decide) (fun c70 => ?_) (fun c70 => ?_)
  · have h := sx_pos c70 h
    exact sv_vret (pc := 512) dX12_more_512 rfl h hP
  · have h := sx_neg c70 h
    refine sx_aload_n (pc := 323) dX12_more_323 sx_m0 ?_
    refine sx_aload_n (pc := 324) dX12_more_324 sx_m0 ?_
    refine sv_getI (pc := 325) hG dX12_more_325 f_12_466 lay_146 rfl ?_
    refine sx_aload_n (pc := 328) dX12_more_328 sx_m0 ?_
    obtain ⟨⟨x73, V71⟩, g72, h⟩ := sx_bnd h
    refine sv_cV (pc := 329) (y := qX12_pop) (o := (some (.int x73))) (as := []) (V1 := V71) hG dX12_more_329 l_X12_579 y0X12_pop yvX12_pop rfl (Nat.le_of_ble_eq_true rfl) lay_146 kr_12 (by decide) (Nat.le_of_ble_eq_true rfl) rfl rfl rfl (t_X12_pop hG ⟨rfl, rfl⟩ g72) ?_
    obtain ⟨⟨x76, V74⟩, g75, h⟩ := sx_bnd h
    refine sv_cV (pc := 332) (y := qX12_pointOf) (o := (some (.int x76))) (as := [.int (V67.1 146 74), .int x73]) (V1 := V74) hG dX12_more_332 l_X12_582 y0X12_pointOf yvX12_pointOf rfl (Nat.le_of_ble_eq_true rfl) lay_146 kr_12 (by decide) (Nat.le_of_ble_eq_true rfl) rfl rfl rfl (t_X12_pointOf hG ⟨rfl, rfl⟩ g75) ?_
    refine sx_istore_n (pc := 335) (lo' := [(2, .int x76), (0, .ref 146), (1, .int l1)]) dX12_more_335 (by decide) rfl ?_
    refine sx_aload_n (pc := 336) dX12_more_336 sx_m1 ?_
    refine sx_aload_n (pc := 337) dX12_more_337 sx_m1 ?_
    refine sv_getI (pc := 338) hG dX12_more_338 f_12_463 lay_146 rfl ?_
    refine sx_aload_n (pc := 341) dX12_more_341 sx_m1 ?_
    obtain ⟨⟨x79, V77⟩, g78, h⟩ := sx_bnd h
    refine sv_cV (pc := 342) (y := qX12_pop) (o := (some (.int x79))) (as := []) (V1 := V77) hG dX12_more_342 l_X12_579 y0X12_pop yvX12_pop rfl (Nat.le_of_ble_eq_true rfl) lay_146 kr_12 (by decide) (Nat.le_of_ble_eq_true rfl) rfl rfl rfl (t_X12_pop hG ⟨rfl, rfl⟩ g78) ?_
    obtain ⟨⟨x82, V80⟩, g81, h⟩ := sx_bnd h
    refine sv_cV (pc := 345) (y := qX12_pointOf) (o := (some (.int x82))) (as := [.int (V74.1 146 73), .int x79]) (V1 := V80) hG dX12_more_345 l_X12_582 y0X12_pointOf yvX12_pointOf rfl (Nat.le_of_ble_eq_true rfl) lay_146 kr_12 (by decide) (Nat.le_of_ble_eq_true rfl) rfl rfl rfl (t_X12_pointOf hG ⟨rfl, rfl⟩ g81) ?_
    refine sx_istore_n (pc := 348) (lo' := [(3, .int x82), (2, .int x76), (0, .ref 146), (1, .int l1)]) dX12_more_348 (by decide) rfl ?_
    refine sx_aload_n (pc := 349) dX12_more_349 sx_m2 ?_
    refine sv_getI (pc := 350) hG dX12_more_350 f_12_409 lay_146 rfl ?_
    refine sx_if_ne (pc := 353) (tgt := 512) dX12_more_353 (by decide) (fun c83 => ?_) (fun c83 => ?_)
    · have h := sx_neg c83 h
      exact sv_vret (pc := 512) dX12_more_512 rfl h hP
    · have h := sx_pos c83 h
      refine sx_iload_n (pc := 356) dX12_more_356 sx_m3 ?_
      refine sx_sipush (pc := 357) (v := 135) dX12_more_357 (by decide) ?_
      refine sx_icmp_ne (pc := 360) (tgt := 367) dX12_more_360 (by decide) (fun c84 => ?_) (fun c84 => ?_)
      · have h := sx_neg c84 h
        refine sx_iconst (pc := 367) (v := 0) dX12_more_367 (by decide) ?_
        refine sx_wk (sx_s1 sx_m2 (sx_s1 sx_m1 (sx_s1 sx_m0 sx_s0))) ?_
        exact tB_X12_more_368 hG hP  h
      · have h := sx_pos c84 h
        refine sx_iconst (pc := 363) (v := 1) dX12_more_363 (by decide) ?_
        refine sx_goto (pc := 364) (tgt := 368) dX12_more_364 (by decide) ?_
        refine sx_wk (sx_s1 sx_m2 (sx_s1 sx_m1 (sx_s1 sx_m0 sx_s0))) ?_
        exact tB_X12_more_368 hG hP  h
def B_X12_more_538 (N : Nat)  (s1 : Int64) (V : sv_V) : Option sv_V := (F_X12_push s1 V).bind (fun V85 => some V85)
set_option maxRecDepth 20000 in
theorem tB_X12_more_538 {g : sx_G} (hG : sx_Go g) {P : Option Value → sv_V → Prop} {Vr : sv_V} (hP : P none Vr) {N : Nat}   {s1 : Int64} {V : sv_V} (h : B_X12_more_538 N  s1 V = some Vr) : sv_N g qX12_more 5 538 [] [.long s1, .ref 146] V P := by
  unfold B_X12_more_538 at h
  obtain ⟨V85, g86, h⟩ := sx_bnd h
  refine sv_cV (pc := 538) (y := qX12_push) (o := none) (as := [.long s1]) (V1 := V85) hG dX12_more_538 l_X12_564 y0X12_push yvX12_push rfl (Nat.le_of_ble_eq_true rfl) lay_146 kr_12 (by decide) (Nat.le_of_ble_eq_true rfl) rfl rfl rfl (t_X12_push hG ⟨rfl, rfl⟩ g86) ?_
  exact sv_vret (pc := 541) dX12_more_541 rfl h hP
def B_X12_more_645 (N : Nat)  (l1 : Int32) (V : sv_V) : Option sv_V := (F_X12_unknown l1 V).bind (fun V87 => some V87)
set_option maxRecDepth 20000 in
theorem tB_X12_more_645 {g : sx_G} (hG : sx_Go g) {P : Option Value → sv_V → Prop} {Vr : sv_V} (hP : P none Vr) {N : Nat}   {l1 : Int32} {V : sv_V} (h : B_X12_more_645 N  l1 V = some Vr) : sv_N g qX12_more 5 645 [(0, .ref 146), (1, .int l1)] [] V P := by
  unfold B_X12_more_645 at h
  refine sx_aload_n (pc := 645) dX12_more_645 sx_m0 ?_
  refine sx_iload_n (pc := 646) dX12_more_646 sx_m1 ?_
  obtain ⟨V87, g88, h⟩ := sx_bnd h
  refine sv_cV (pc := 647) (y := qX12_unknown) (o := none) (as := [.int l1]) (V1 := V87) hG dX12_more_647 l_X12_650 y0X12_unknown yvX12_unknown rfl (Nat.le_of_ble_eq_true rfl) lay_146 kr_12 (by decide) (Nat.le_of_ble_eq_true rfl) rfl rfl rfl (t_X12_unknown hG ⟨rfl, rfl⟩ g88) ?_
  exact sv_vret (pc := 650) dX12_more_650 rfl h hP
def F_X12_more (N : Nat) (l1 : Int32) (V : sv_V) : Option sv_V := if l1 = 128 then ((F_X12_has (V.1 146 75) V).bind (fun (x92, V90) => if x92 = 0 then (some V90) else (sx_lp2 (B_X12_more_85 N ) N (0 : Int32) V90))) else (if l1 = 129 then (B_X12_more_194 N  l1 V) else (if l1 = 130 then (B_X12_more_194 N  l1 V) else (if l1 = 131 then (B_X12_more_645 N  l1 V) else (if l1 = 132 then (B_X12_more_645 N  l1 V) else (if l1 = 133 then ((F_X12_has (1 : Int32) V).bind (fun (x101, V99) => if x101 = 0 then (sx_let (sv_I V99 146 87 (0 : Int32)) (fun V103 => some V103)) else ((F_X12_pop  V99).bind (fun (x106, V104) => sx_let (sv_I V104 146 87 x106) (fun V107 => some V107))))) else (if l1 = 134 then (B_X12_more_315 N  l1 V) else (if l1 = 135 then (B_X12_more_315 N  l1 V) else (if l1 = 136 then ((F_X12_has (1 : Int32) V).bind (fun (x113, V111) => if x113 = 0 then (some V111) else ((F_X12_pop  V111).bind (fun (x117, V115) => if (x117 &&& (1 : Int32)) = 0 then (B_X12_more_538 N  (0 : Int64) V115) else (B_X12_more_538 N  (35 : Int64) V115))))) else (if l1 = 137 then ((F_X12_defineOwn N  V).bind (fun V120 => some V120)) else (if l1 = 138 then ((F_X12_has (3 : Int32) V).bind (fun (x125, V123) => if x125 = 0 then (some V123) else (if sx_in ((V123.1 146 56) - (3 : Int32)) 256 = true then sx_let (V123.1 173 ((V123.1 146 56) - (3 : Int32)).toNatClampNeg) (fun x128 => if sx_in ((V123.1 146 56) - (2 : Int32)) 256 = true then if sx_in ((V123.1 146 56) - (3 : Int32)) 256 = true then sx_let (sv_I V123 173 ((V123.1 146 56) - (3 : Int32)).toNatClampNeg (V123.1 173 ((V123.1 146 56) - (2 : Int32)).toNatClampNeg)) (fun V131 => if sx_in ((V131.1 146 56) - (1 : Int32)) 256 = true then if sx_in ((V131.1 146 56) - (2 : Int32)) 256 = true then sx_let (sv_I V131 173 ((V131.1 146 56) - (2 : Int32)).toNatClampNeg (V131.1 173 ((V131.1 146 56) - (1 : Int32)).toNatClampNeg)) (fun V134 => if sx_in ((V134.1 146 56) - (1 : Int32)) 256 = true then sx_let (sv_I V134 173 ((V134.1 146 56) - (1 : Int32)).toNatClampNeg x128) (fun V136 => some V136) else none) else none else none) else none else none) else none))) else (if l1 = 139 then (B_X12_more_645 N  l1 V) else (if l1 = 140 then (B_X12_more_645 N  l1 V) else (if l1 = 141 then ((F_X12_has (1 : Int32) V).bind (fun (x142, V140) => if x142 = 0 then (sx_let (sv_I V140 146 88 (0 : Int32)) (fun V144 => some V144)) else ((F_X12_pop  V140).bind (fun (x147, V145) => sx_let (sv_I V145 146 88 x147) (fun V148 => some V148))))) else (B_X12_more_645 N  l1 V))))))))))))))
set_option maxRecDepth 20000 in
theorem t_X12_more {g : sx_G} (hG : sx_Go g) {P : Option Value → sv_V → Prop} {Vr : sv_V} (hP : P none Vr) {N : Nat} {l1 : Int32} {V : sv_V} (h : F_X12_more N l1 V = some Vr) : sv_N g qX12_more 5 0 [(0, .ref 146), (1, .int l1)] [] V P := by
  unfold F_X12_more at h
  refine sx_iload_n (pc := 0) dX12_more_0 sx_m1 ?_
  by_cases c89 : l1 = 128
  · have h := sx_pos c89 h
    refine sx_tabI (pc := 1) (off := 71) (tgt := 72) dX12_more_1 (by rw [c89]; decide) (by rw [c89]; decide) (by rw [c89]; rfl) (by decide) ?_
    refine sx_aload_n (pc := 72) dX12_more_72 sx_m0 ?_
    refine sx_aload_n (pc := 73) dX12_more_73 sx_m0 ?_
    refine sv_getI (pc := 74) hG dX12_more_74 f_12_469 lay_146 rfl ?_
    obtain ⟨⟨x92, V90⟩, g91, h⟩ := sx_bnd h
    refine sv_cV (pc := 77) (y := qX12_has) (o := (some (.int x92))) (as := [.int (V.1 146 75)]) (V1 := V90) hG dX12_more_77 l_X12_576 y0X12_has yvX12_has rfl (Nat.le_of_ble_eq_true rfl) lay_146 kr_12 (by decide) (Nat.le_of_ble_eq_true rfl) rfl rfl rfl (t_X12_has hG ⟨rfl, rfl⟩ g91) ?_
    refine sx_if_eq (pc := 80) (tgt := 193) dX12_more_80 (by decide) (fun c93 => ?_) (fun c93 => ?_)
    · have h := sx_pos c93 h
      exact sv_vret (pc := 193) dX12_more_193 rfl h hP
    · have h := sx_neg c93 h
      refine sx_iconst (pc := 83) (v := 0) dX12_more_83 (by decide) ?_
      refine sx_istore_n (pc := 84) (lo' := [(2, .int (0 : Int32)), (0, .ref 146), (1, .int l1)]) dX12_more_84 (by decide) rfl ?_
      refine sx_wk (sx_s1 sx_m1 (sx_s1 sx_m0 sx_s0)) ?_
      exact tL_X12_more_85 hG hP  N _ _ h
  have h := sx_neg c89 h
  by_cases c94 : l1 = 129
  · have h := sx_pos c94 h
    refine sx_tabI (pc := 1) (off := 193) (tgt := 194) dX12_more_1 (by rw [c94]; decide) (by rw [c94]; decide) (by rw [c94]; rfl) (by decide) ?_
    refine sx_wk (sx_s1 sx_m0 (sx_s1 sx_m1 sx_s0)) ?_
    exact tB_X12_more_194 hG hP  h
  have h := sx_neg c94 h
  by_cases c95 : l1 = 130
  · have h := sx_pos c95 h
    refine sx_tabI (pc := 1) (off := 193) (tgt := 194) dX12_more_1 (by rw [c95]; decide) (by rw [c95]; decide) (by rw [c95]; rfl) (by decide) ?_
    refine sx_wk (sx_s1 sx_m0 (sx_s1 sx_m1 sx_s0)) ?_
    exact tB_X12_more_194 hG hP  h
  have h := sx_neg c95 h
  by_cases c96 : l1 = 131
  · have h := sx_pos c96 h
    refine sx_tabI (pc := 1) (off := 644) (tgt := 645) dX12_more_1 (by rw [c96]; decide) (by rw [c96]; decide) (by rw [c96]; rfl) (by decide) ?_
    refine sx_wk (sx_s1 sx_m0 (sx_s1 sx_m1 sx_s0)) ?_
    exact tB_X12_more_645 hG hP  h
  have h := sx_neg c96 h
  by_cases c97 : l1 = 132
  · have h := sx_pos c97 h
    refine sx_tabI (pc := 1) (off := 644) (tgt := 645) dX12_more_1 (by rw [c97]; decide) (by rw [c97]; decide) (by rw [c97]; rfl) (by decide) ?_
    refine sx_wk (sx_s1 sx_m0 (sx_s1 sx_m1 sx_s0)) ?_
    exact tB_X12_more_645 hG hP  h
  have h := sx_neg c97 h
  by_cases c98 : l1 = 133
  · have h := sx_pos c98 h
    refine sx_tabI (pc := 1) (off := 293) (tgt := 294) dX12_more_1 (by rw [c98]; decide) (by rw [c98]; decide) (by rw [c98]; rfl) (by decide) ?_
    refine sx_aload_n (pc := 294) dX12_more_294 sx_m0 ?_
    refine sx_aload_n (pc := 295) dX12_more_295 sx_m0 ?_
    refine sx_iconst (pc := 296) (v := 1) dX12_more_296 (by decide) ?_
    obtain ⟨⟨x101, V99⟩, g100, h⟩ := sx_bnd h
    refine sv_cV (pc := 297) (y := qX12_has) (o := (some (.int x101))) (as := [.int (1 : Int32)]) (V1 := V99) hG dX12_more_297 l_X12_576 y0X12_has yvX12_has rfl (Nat.le_of_ble_eq_true rfl) lay_146 kr_12 (by decide) (Nat.le_of_ble_eq_true rfl) rfl rfl rfl (t_X12_has hG ⟨rfl, rfl⟩ g100) ?_
    refine sx_if_eq (pc := 300) (tgt := 310) dX12_more_300 (by decide) (fun c102 => ?_) (fun c102 => ?_)
    · have h := sx_pos c102 h
      refine sx_iconst (pc := 310) (v := 0) dX12_more_310 (by decide) ?_
      obtain ⟨V103, hV103⟩ : ∃ z : sv_V, z = sv_I V99 146 87 (0 : Int32) := ⟨_, rfl⟩
      have h := sx_letE hV103 h
      refine sv_putI (pc := 311) hG dX12_more_311 f_12_739 lay_146 rfl hV103 ?_
      exact sv_vret (pc := 314) dX12_more_314 rfl h hP
    · have h := sx_neg c102 h
      refine sx_aload_n (pc := 303) dX12_more_303 sx_m0 ?_
      obtain ⟨⟨x106, V104⟩, g105, h⟩ := sx_bnd h
      refine sv_cV (pc := 304) (y := qX12_pop) (o := (some (.int x106))) (as := []) (V1 := V104) hG dX12_more_304 l_X12_579 y0X12_pop yvX12_pop rfl (Nat.le_of_ble_eq_true rfl) lay_146 kr_12 (by decide) (Nat.le_of_ble_eq_true rfl) rfl rfl rfl (t_X12_pop hG ⟨rfl, rfl⟩ g105) ?_
      refine sx_goto (pc := 307) (tgt := 311) dX12_more_307 (by decide) ?_
      obtain ⟨V107, hV107⟩ : ∃ z : sv_V, z = sv_I V104 146 87 x106 := ⟨_, rfl⟩
      have h := sx_letE hV107 h
      refine sv_putI (pc := 311) hG dX12_more_311 f_12_739 lay_146 rfl hV107 ?_
      exact sv_vret (pc := 314) dX12_more_314 rfl h hP
  have h := sx_neg c98 h
  by_cases c108 : l1 = 134
  · have h := sx_pos c108 h
    refine sx_tabI (pc := 1) (off := 314) (tgt := 315) dX12_more_1 (by rw [c108]; decide) (by rw [c108]; decide) (by rw [c108]; rfl) (by decide) ?_
    refine sx_wk (sx_s1 sx_m0 (sx_s1 sx_m1 sx_s0)) ?_
    exact tB_X12_more_315 hG hP  h
  have h := sx_neg c108 h
  by_cases c109 : l1 = 135
  · have h := sx_pos c109 h
    refine sx_tabI (pc := 1) (off := 314) (tgt := 315) dX12_more_1 (by rw [c109]; decide) (by rw [c109]; decide) (by rw [c109]; rfl) (by decide) ?_
    refine sx_wk (sx_s1 sx_m0 (sx_s1 sx_m1 sx_s0)) ?_
    exact tB_X12_more_315 hG hP  h
  have h := sx_neg c109 h
  by_cases c110 : l1 = 136
  · have h := sx_pos c110 h
    refine sx_tabI (pc := 1) (off := 512) (tgt := 513) dX12_more_1 (by rw [c110]; decide) (by rw [c110]; decide) (by rw [c110]; rfl) (by decide) ?_
    refine sx_aload_n (pc := 513) dX12_more_513 sx_m0 ?_
    refine sx_iconst (pc := 514) (v := 1) dX12_more_514 (by decide) ?_
    obtain ⟨⟨x113, V111⟩, g112, h⟩ := sx_bnd h
    refine sv_cV (pc := 515) (y := qX12_has) (o := (some (.int x113))) (as := [.int (1 : Int32)]) (V1 := V111) hG dX12_more_515 l_X12_576 y0X12_has yvX12_has rfl (Nat.le_of_ble_eq_true rfl) lay_146 kr_12 (by decide) (Nat.le_of_ble_eq_true rfl) rfl rfl rfl (t_X12_has hG ⟨rfl, rfl⟩ g112) ?_
    refine sx_if_eq (pc := 518) (tgt := 541) dX12_more_518 (by decide) (fun c114 => ?_) (fun c114 => ?_)
    · have h := sx_pos c114 h
      exact sv_vret (pc := 541) dX12_more_541 rfl h hP
    · have h := sx_neg c114 h
      refine sx_aload_n (pc := 521) dX12_more_521 sx_m0 ?_
      refine sx_aload_n (pc := 522) dX12_more_522 sx_m0 ?_
      obtain ⟨⟨x117, V115⟩, g116, h⟩ := sx_bnd h
      refine sv_cV (pc := 523) (y := qX12_pop) (o := (some (.int x117))) (as := []) (V1 := V115) hG dX12_more_523 l_X12_579 y0X12_pop yvX12_pop rfl (Nat.le_of_ble_eq_true rfl) lay_146 kr_12 (by decide) (Nat.le_of_ble_eq_true rfl) rfl rfl rfl (t_X12_pop hG ⟨rfl, rfl⟩ g116) ?_
      refine sx_iconst (pc := 526) (v := 1) dX12_more_526 (by decide) ?_
      refine sx_iand (pc := 527) dX12_more_527 ?_
      refine sx_if_eq (pc := 528) (tgt := 537) dX12_more_528 (by decide) (fun c118 => ?_) (fun c118 => ?_)
      · have h := sx_pos c118 h
        refine sx_lconst (pc := 537) (v := 0) dX12_more_537 rfl ?_
        refine sx_wk sx_s0 ?_
        exact tB_X12_more_538 hG hP  h
      · have h := sx_neg c118 h
        refine sx_ldc2 (pc := 531) dX12_more_531 k_X12_742 ?_
        refine sx_goto (pc := 534) (tgt := 538) dX12_more_534 (by decide) ?_
        refine sx_wk sx_s0 ?_
        exact tB_X12_more_538 hG hP  h
  have h := sx_neg c110 h
  by_cases c119 : l1 = 137
  · have h := sx_pos c119 h
    refine sx_tabI (pc := 1) (off := 541) (tgt := 542) dX12_more_1 (by rw [c119]; decide) (by rw [c119]; decide) (by rw [c119]; rfl) (by decide) ?_
    refine sx_aload_n (pc := 542) dX12_more_542 sx_m0 ?_
    obtain ⟨V120, g121, h⟩ := sx_bnd h
    refine sv_cV (pc := 543) (y := qX12_defineOwn) (o := none) (as := []) (V1 := V120) hG dX12_more_543 l_X12_744 y0X12_defineOwn yvX12_defineOwn rfl (Nat.le_of_ble_eq_true rfl) lay_146 kr_12 (by decide) (Nat.le_of_ble_eq_true rfl) rfl rfl rfl (t_X12_defineOwn hG ⟨rfl, rfl⟩ g121) ?_
    exact sv_vret (pc := 546) dX12_more_546 rfl h hP
  have h := sx_neg c119 h
  by_cases c122 : l1 = 138
  · have h := sx_pos c122 h
    refine sx_tabI (pc := 1) (off := 546) (tgt := 547) dX12_more_1 (by rw [c122]; decide) (by rw [c122]; decide) (by rw [c122]; rfl) (by decide) ?_
    refine sx_aload_n (pc := 547) dX12_more_547 sx_m0 ?_
    refine sx_iconst (pc := 548) (v := 3) dX12_more_548 (by decide) ?_
    obtain ⟨⟨x125, V123⟩, g124, h⟩ := sx_bnd h
    refine sv_cV (pc := 549) (y := qX12_has) (o := (some (.int x125))) (as := [.int (3 : Int32)]) (V1 := V123) hG dX12_more_549 l_X12_576 y0X12_has yvX12_has rfl (Nat.le_of_ble_eq_true rfl) lay_146 kr_12 (by decide) (Nat.le_of_ble_eq_true rfl) rfl rfl rfl (t_X12_has hG ⟨rfl, rfl⟩ g124) ?_
    refine sx_if_eq (pc := 552) (tgt := 623) dX12_more_552 (by decide) (fun c126 => ?_) (fun c126 => ?_)
    · have h := sx_pos c126 h
      exact sv_vret (pc := 623) dX12_more_623 rfl h hP
    · have h := sx_neg c126 h
      refine sx_aload_n (pc := 555) dX12_more_555 sx_m0 ?_
      refine sv_getA (pc := 556) hG dX12_more_556 f_12_91 lay_146 rfl cr_146_55 ?_
      refine sx_aload_n (pc := 559) dX12_more_559 sx_m0 ?_
      refine sv_getI (pc := 560) hG dX12_more_560 f_12_418 lay_146 rfl ?_
      refine sx_iconst (pc := 563) (v := 3) dX12_more_563 (by decide) ?_
      refine sx_isub (pc := 564) dX12_more_564 ?_
      obtain ⟨g127, h⟩ := sx_grd h
      refine sv_iald (pc := 565) hG dX12_more_565 lay_173 g127 ?_
      refine sv_tI (fun x128 hx128 => ?_)
      have h := sx_letE hx128 h
      refine sx_istore_n (pc := 566) (lo' := [(2, .int x128), (0, .ref 146), (1, .int l1)]) dX12_more_566 (by decide) rfl ?_
      refine sx_aload_n (pc := 567) dX12_more_567 sx_m1 ?_
      refine sv_getA (pc := 568) hG dX12_more_568 f_12_91 lay_146 rfl cr_146_55 ?_
      refine sx_aload_n (pc := 571) dX12_more_571 sx_m1 ?_
      refine sv_getI (pc := 572) hG dX12_more_572 f_12_418 lay_146 rfl ?_
      refine sx_iconst (pc := 575) (v := 3) dX12_more_575 (by decide) ?_
      refine sx_isub (pc := 576) dX12_more_576 ?_
      refine sx_aload_n (pc := 577) dX12_more_577 sx_m1 ?_
      refine sv_getA (pc := 578) hG dX12_more_578 f_12_91 lay_146 rfl cr_146_55 ?_
      refine sx_aload_n (pc := 581) dX12_more_581 sx_m1 ?_
      refine sv_getI (pc := 582) hG dX12_more_582 f_12_418 lay_146 rfl ?_
      refine sx_iconst (pc := 585) (v := 2) dX12_more_585 (by decide) ?_
      refine sx_isub (pc := 586) dX12_more_586 ?_
      obtain ⟨g129, h⟩ := sx_grd h
      refine sv_iald (pc := 587) hG dX12_more_587 lay_173 g129 ?_
      obtain ⟨g130, h⟩ := sx_grd h
      obtain ⟨V131, hV131⟩ : ∃ z : sv_V, z = sv_I V123 173 ((V123.1 146 56) - (3 : Int32)).toNatClampNeg (V123.1 173 ((V123.1 146 56) - (2 : Int32)).toNatClampNeg) := ⟨_, rfl⟩
      have h := sx_letE hV131 h
      refine sv_iast (pc := 588) hG dX12_more_588 lay_173 g130 hV131 ?_
      refine sx_aload_n (pc := 589) dX12_more_589 sx_m1 ?_
      refine sv_getA (pc := 590) hG dX12_more_590 f_12_91 lay_146 rfl cr_146_55 ?_
      refine sx_aload_n (pc := 593) dX12_more_593 sx_m1 ?_
      refine sv_getI (pc := 594) hG dX12_more_594 f_12_418 lay_146 rfl ?_
      refine sx_iconst (pc := 597) (v := 2) dX12_more_597 (by decide) ?_
      refine sx_isub (pc := 598) dX12_more_598 ?_
      refine sx_aload_n (pc := 599) dX12_more_599 sx_m1 ?_
      refine sv_getA (pc := 600) hG dX12_more_600 f_12_91 lay_146 rfl cr_146_55 ?_
      refine sx_aload_n (pc := 603) dX12_more_603 sx_m1 ?_
      refine sv_getI (pc := 604) hG dX12_more_604 f_12_418 lay_146 rfl ?_
      refine sx_iconst (pc := 607) (v := 1) dX12_more_607 (by decide) ?_
      refine sx_isub (pc := 608) dX12_more_608 ?_
      obtain ⟨g132, h⟩ := sx_grd h
      refine sv_iald (pc := 609) hG dX12_more_609 lay_173 g132 ?_
      obtain ⟨g133, h⟩ := sx_grd h
      obtain ⟨V134, hV134⟩ : ∃ z : sv_V, z = sv_I V131 173 ((V131.1 146 56) - (2 : Int32)).toNatClampNeg (V131.1 173 ((V131.1 146 56) - (1 : Int32)).toNatClampNeg) := ⟨_, rfl⟩
      have h := sx_letE hV134 h
      refine sv_iast (pc := 610) hG dX12_more_610 lay_173 g133 hV134 ?_
      refine sx_aload_n (pc := 611) dX12_more_611 sx_m1 ?_
      refine sv_getA (pc := 612) hG dX12_more_612 f_12_91 lay_146 rfl cr_146_55 ?_
      refine sx_aload_n (pc := 615) dX12_more_615 sx_m1 ?_
      refine sv_getI (pc := 616) hG dX12_more_616 f_12_418 lay_146 rfl ?_
      refine sx_iconst (pc := 619) (v := 1) dX12_more_619 (by decide) ?_
      refine sx_isub (pc := 620) dX12_more_620 ?_
      refine sx_iload_n (pc := 621) dX12_more_621 sx_m0 ?_
      obtain ⟨g135, h⟩ := sx_grd h
      obtain ⟨V136, hV136⟩ : ∃ z : sv_V, z = sv_I V134 173 ((V134.1 146 56) - (1 : Int32)).toNatClampNeg x128 := ⟨_, rfl⟩
      have h := sx_letE hV136 h
      refine sv_iast (pc := 622) hG dX12_more_622 lay_173 g135 hV136 ?_
      exact sv_vret (pc := 623) dX12_more_623 rfl h hP
  have h := sx_neg c122 h
  by_cases c137 : l1 = 139
  · have h := sx_pos c137 h
    refine sx_tabI (pc := 1) (off := 644) (tgt := 645) dX12_more_1 (by rw [c137]; decide) (by rw [c137]; decide) (by rw [c137]; rfl) (by decide) ?_
    refine sx_wk (sx_s1 sx_m0 (sx_s1 sx_m1 sx_s0)) ?_
    exact tB_X12_more_645 hG hP  h
  have h := sx_neg c137 h
  by_cases c138 : l1 = 140
  · have h := sx_pos c138 h
    refine sx_tabI (pc := 1) (off := 644) (tgt := 645) dX12_more_1 (by rw [c138]; decide) (by rw [c138]; decide) (by rw [c138]; rfl) (by decide) ?_
    refine sx_wk (sx_s1 sx_m0 (sx_s1 sx_m1 sx_s0)) ?_
    exact tB_X12_more_645 hG hP  h
  have h := sx_neg c138 h
  by_cases c139 : l1 = 141
  · have h := sx_pos c139 h
    refine sx_tabI (pc := 1) (off := 623) (tgt := 624) dX12_more_1 (by rw [c139]; decide) (by rw [c139]; decide) (by rw [c139]; rfl) (by decide) ?_
    refine sx_aload_n (pc := 624) dX12_more_624 sx_m0 ?_
    refine sx_aload_n (pc := 625) dX12_more_625 sx_m0 ?_
    refine sx_iconst (pc := 626) (v := 1) dX12_more_626 (by decide) ?_
    obtain ⟨⟨x142, V140⟩, g141, h⟩ := sx_bnd h
    refine sv_cV (pc := 627) (y := qX12_has) (o := (some (.int x142))) (as := [.int (1 : Int32)]) (V1 := V140) hG dX12_more_627 l_X12_576 y0X12_has yvX12_has rfl (Nat.le_of_ble_eq_true rfl) lay_146 kr_12 (by decide) (Nat.le_of_ble_eq_true rfl) rfl rfl rfl (t_X12_has hG ⟨rfl, rfl⟩ g141) ?_
    refine sx_if_eq (pc := 630) (tgt := 640) dX12_more_630 (by decide) (fun c143 => ?_) (fun c143 => ?_)
    · have h := sx_pos c143 h
      refine sx_iconst (pc := 640) (v := 0) dX12_more_640 (by decide) ?_
      obtain ⟨V144, hV144⟩ : ∃ z : sv_V, z = sv_I V140 146 88 (0 : Int32) := ⟨_, rfl⟩
      have h := sx_letE hV144 h
      refine sv_putI (pc := 641) hG dX12_more_641 f_12_747 lay_146 rfl hV144 ?_
      exact sv_vret (pc := 644) dX12_more_644 rfl h hP
    · have h := sx_neg c143 h
      refine sx_aload_n (pc := 633) dX12_more_633 sx_m0 ?_
      obtain ⟨⟨x147, V145⟩, g146, h⟩ := sx_bnd h
      refine sv_cV (pc := 634) (y := qX12_pop) (o := (some (.int x147))) (as := []) (V1 := V145) hG dX12_more_634 l_X12_579 y0X12_pop yvX12_pop rfl (Nat.le_of_ble_eq_true rfl) lay_146 kr_12 (by decide) (Nat.le_of_ble_eq_true rfl) rfl rfl rfl (t_X12_pop hG ⟨rfl, rfl⟩ g146) ?_
      refine sx_goto (pc := 637) (tgt := 641) dX12_more_637 (by decide) ?_
      obtain ⟨V148, hV148⟩ : ∃ z : sv_V, z = sv_I V145 146 88 x147 := ⟨_, rfl⟩
      have h := sx_letE hV148 h
      refine sv_putI (pc := 641) hG dX12_more_641 f_12_747 lay_146 rfl hV148 ?_
      exact sv_vret (pc := 644) dX12_more_644 rfl h hP
  have h := sx_neg c139 h
  refine sx_tabO (pc := 1) (tgt := 645) dX12_more_1 (by have ec89 := lv_neT (a := 128) c89 rfl; have ec94 := lv_neT (a := 129) c94 rfl; have ec95 := lv_neT (a := 130) c95 rfl; have ec96 := lv_neT (a := 131) c96 rfl; have ec97 := lv_neT (a := 132) c97 rfl; have ec98 := lv_neT (a := 133) c98 rfl; have ec108 := lv_neT (a := 134) c108 rfl; have ec109 := lv_neT (a := 135) c109 rfl; have ec110 := lv_neT (a := 136) c110 rfl; have ec119 := lv_neT (a := 137) c119 rfl; have ec122 := lv_neT (a := 138) c122 rfl; have ec137 := lv_neT (a := 139) c137 rfl; have ec138 := lv_neT (a := 140) c138 rfl; have ec139 := lv_neT (a := 141) c139 rfl; omega) (by decide) ?_
  refine sx_wk (sx_s1 sx_m0 (sx_s1 sx_m1 sx_s0)) ?_
  exact tB_X12_more_645 hG hP  h
def ncX2_findGlyph : Nat := 182723982953290980900169043102390566753362878280314918134440245112371660095807944233962616078251508143176277970513259914721589071376725952449362610953710520855886765902014266999139090697
theorem kcX2_findGlyph : CK cX2_findGlyph ncX2_findGlyph 77 := ⟨by decide +kernel, by decide +kernel⟩
theorem dX2_findGlyph_0 : decode cX2_findGlyph 0 = .ok (.lconst 0, 1) := dl_o9 kcX2_findGlyph (by decide +kernel)
theorem dX2_findGlyph_1 : decode cX2_findGlyph 1 = .ok (.lstore_n 2, 1) := dl_o65 kcX2_findGlyph (by decide +kernel)
theorem dX2_findGlyph_2 : decode cX2_findGlyph 2 = .ok (.aload_n 0, 1) := dl_o42 kcX2_findGlyph (by decide +kernel)
theorem dX2_findGlyph_3 : decode cX2_findGlyph 3 = .ok (.getfield 72, 3) := dl_o180 kcX2_findGlyph (by decide +kernel)
theorem dX2_findGlyph_6 : decode cX2_findGlyph 6 = .ok (.bipush 12, 2) := dl_o16 kcX2_findGlyph 12 (by decide +kernel) (by decide +kernel)
theorem dX2_findGlyph_8 : decode cX2_findGlyph 8 = .ok (.if_icmp .ne 12, 3) := dl_o160 kcX2_findGlyph 12 (by decide +kernel) (by decide +kernel)
theorem dX2_findGlyph_11 : decode cX2_findGlyph 11 = .ok (.aload_n 0, 1) := dl_o42 kcX2_findGlyph (by decide +kernel)
theorem dX2_findGlyph_12 : decode cX2_findGlyph 12 = .ok (.iload_n 1, 1) := dl_o27 kcX2_findGlyph (by decide +kernel)
theorem dX2_findGlyph_13 : decode cX2_findGlyph 13 = .ok (.invokevirtual 75, 3) := dl_o182 kcX2_findGlyph (by decide +kernel)
theorem dX2_findGlyph_16 : decode cX2_findGlyph 16 = .ok (.lstore_n 2, 1) := dl_o65 kcX2_findGlyph (by decide +kernel)
theorem dX2_findGlyph_17 : decode cX2_findGlyph 17 = .ok (.goto 43, 3) := dl_o167 kcX2_findGlyph 43 (by decide +kernel) (by decide +kernel)
theorem dX2_findGlyph_20 : decode cX2_findGlyph 20 = .ok (.aload_n 0, 1) := dl_o42 kcX2_findGlyph (by decide +kernel)
theorem dX2_findGlyph_21 : decode cX2_findGlyph 21 = .ok (.getfield 72, 3) := dl_o180 kcX2_findGlyph (by decide +kernel)
theorem dX2_findGlyph_24 : decode cX2_findGlyph 24 = .ok (.iconst 4, 1) := dl_o7 kcX2_findGlyph (by decide +kernel)
theorem dX2_findGlyph_25 : decode cX2_findGlyph 25 = .ok (.if_icmp .ne 13, 3) := dl_o160 kcX2_findGlyph 13 (by decide +kernel) (by decide +kernel)
theorem dX2_findGlyph_28 : decode cX2_findGlyph 28 = .ok (.aload_n 0, 1) := dl_o42 kcX2_findGlyph (by decide +kernel)
theorem dX2_findGlyph_29 : decode cX2_findGlyph 29 = .ok (.iload_n 1, 1) := dl_o27 kcX2_findGlyph (by decide +kernel)
theorem dX2_findGlyph_30 : decode cX2_findGlyph 30 = .ok (.invokevirtual 79, 3) := dl_o182 kcX2_findGlyph (by decide +kernel)
theorem dX2_findGlyph_33 : decode cX2_findGlyph 33 = .ok (.i2l, 1) := dl_o133 kcX2_findGlyph (by decide +kernel)
theorem dX2_findGlyph_34 : decode cX2_findGlyph 34 = .ok (.lstore_n 2, 1) := dl_o65 kcX2_findGlyph (by decide +kernel)
theorem dX2_findGlyph_35 : decode cX2_findGlyph 35 = .ok (.goto 25, 3) := dl_o167 kcX2_findGlyph 25 (by decide +kernel) (by decide +kernel)
theorem dX2_findGlyph_38 : decode cX2_findGlyph 38 = .ok (.iload_n 1, 1) := dl_o27 kcX2_findGlyph (by decide +kernel)
theorem dX2_findGlyph_39 : decode cX2_findGlyph 39 = .ok (.sipush 256, 3) := dl_o17 kcX2_findGlyph 256 (by decide +kernel) (by decide +kernel)
theorem dX2_findGlyph_42 : decode cX2_findGlyph 42 = .ok (.if_icmp .ge 18, 3) := dl_o162 kcX2_findGlyph 18 (by decide +kernel) (by decide +kernel)
theorem dX2_findGlyph_45 : decode cX2_findGlyph 45 = .ok (.aload_n 0, 1) := dl_o42 kcX2_findGlyph (by decide +kernel)
theorem dX2_findGlyph_46 : decode cX2_findGlyph 46 = .ok (.aload_n 0, 1) := dl_o42 kcX2_findGlyph (by decide +kernel)
theorem dX2_findGlyph_47 : decode cX2_findGlyph 47 = .ok (.getfield 82, 3) := dl_o180 kcX2_findGlyph (by decide +kernel)
theorem dX2_findGlyph_50 : decode cX2_findGlyph 50 = .ok (.bipush 6, 2) := dl_o16 kcX2_findGlyph 6 (by decide +kernel) (by decide +kernel)
theorem dX2_findGlyph_52 : decode cX2_findGlyph 52 = .ok (.iadd, 1) := dl_o96 kcX2_findGlyph (by decide +kernel)
theorem dX2_findGlyph_53 : decode cX2_findGlyph 53 = .ok (.iload_n 1, 1) := dl_o27 kcX2_findGlyph (by decide +kernel)
theorem dX2_findGlyph_54 : decode cX2_findGlyph 54 = .ok (.iadd, 1) := dl_o96 kcX2_findGlyph (by decide +kernel)
theorem dX2_findGlyph_55 : decode cX2_findGlyph 55 = .ok (.invokevirtual 85, 3) := dl_o182 kcX2_findGlyph (by decide +kernel)
theorem dX2_findGlyph_58 : decode cX2_findGlyph 58 = .ok (.i2l, 1) := dl_o133 kcX2_findGlyph (by decide +kernel)
theorem dX2_findGlyph_59 : decode cX2_findGlyph 59 = .ok (.lstore_n 2, 1) := dl_o65 kcX2_findGlyph (by decide +kernel)
theorem dX2_findGlyph_60 : decode cX2_findGlyph 60 = .ok (.lload_n 2, 1) := dl_o32 kcX2_findGlyph (by decide +kernel)
theorem dX2_findGlyph_61 : decode cX2_findGlyph 61 = .ok (.aload_n 0, 1) := dl_o42 kcX2_findGlyph (by decide +kernel)
theorem dX2_findGlyph_62 : decode cX2_findGlyph 62 = .ok (.getfield 54, 3) := dl_o180 kcX2_findGlyph (by decide +kernel)
theorem dX2_findGlyph_65 : decode cX2_findGlyph 65 = .ok (.i2l, 1) := dl_o133 kcX2_findGlyph (by decide +kernel)
theorem dX2_findGlyph_66 : decode cX2_findGlyph 66 = .ok (.lcmp, 1) := dl_o148 kcX2_findGlyph (by decide +kernel)
theorem dX2_findGlyph_67 : decode cX2_findGlyph 67 = .ok (.ifCond .ge 8, 3) := dl_o156 kcX2_findGlyph 8 (by decide +kernel) (by decide +kernel)
theorem dX2_findGlyph_70 : decode cX2_findGlyph 70 = .ok (.lload_n 2, 1) := dl_o32 kcX2_findGlyph (by decide +kernel)
theorem dX2_findGlyph_71 : decode cX2_findGlyph 71 = .ok (.l2i, 1) := dl_o136 kcX2_findGlyph (by decide +kernel)
theorem dX2_findGlyph_72 : decode cX2_findGlyph 72 = .ok (.goto 4, 3) := dl_o167 kcX2_findGlyph 4 (by decide +kernel) (by decide +kernel)
theorem dX2_findGlyph_75 : decode cX2_findGlyph 75 = .ok (.iconst 0, 1) := dl_o3 kcX2_findGlyph (by decide +kernel)
theorem dX2_findGlyph_76 : decode cX2_findGlyph 76 = .ok (.ireturn, 1) := dl_o172 kcX2_findGlyph (by decide +kernel)
def B_X2_findGlyph_60 (N : Nat)  (l2 : Int64) (V : sv_V) : Option (Int32 × sv_V) := if 0 ≤ (lg_cmp l2 ((V.1 2 7).toInt64)) then (some ((0 : Int32), V)) else (some (l2.toInt32, V))
set_option maxRecDepth 20000 in
theorem tB_X2_findGlyph_60 {g : sx_G} (hG : sx_Go g) {P : Option Value → sv_V → Prop} {r : Int32} {Vr : sv_V} (hP : P (some (.int r)) Vr) {N : Nat}   {l2 : Int64} {V : sv_V} (h : B_X2_findGlyph_60 N  l2 V = some (r, Vr)) : sv_N g qX2_findGlyph 3 60 [(0, .ref 2), (2, .long l2)] [] V P := by
  unfold B_X2_findGlyph_60 at h
  refine sx_lload_n (pc := 60) dX2_findGlyph_60 sx_m1 ?_
  refine sx_aload_n (pc := 61) dX2_findGlyph_61 sx_m0 ?_
  refine sv_getI (pc := 62) hG dX2_findGlyph_62 f_2_54 lay_2 rfl ?_
  refine sx_i2l (pc := 65) dX2_findGlyph_65 ?_
  refine sx_lcmp (pc := 66) dX2_findGlyph_66 ?_
  refine sx_if_ge (pc := 67) (tgt := 75) dX2_findGlyph_67 (by decide) (fun c1 => ?_) (fun c1 => ?_)
  · have h := sx_pos c1 h
    refine sx_iconst (pc := 75) (v := 0) dX2_findGlyph_75 (by decide) ?_
    exact sv_iret (pc := 76) dX2_findGlyph_76 rfl h hP
  · have h := sx_neg c1 h
    refine sx_lload_n (pc := 70) dX2_findGlyph_70 sx_m1 ?_
    refine sx_l2i (pc := 71) dX2_findGlyph_71 ?_
    refine sx_goto (pc := 72) (tgt := 76) dX2_findGlyph_72 (by decide) ?_
    exact sv_iret (pc := 76) dX2_findGlyph_76 rfl h hP
def F_X2_findGlyph (N : Nat) (l1 : Int32) (V : sv_V) : Option (Int32 × sv_V) := if (V.1 2 11) = (12 : Int32) then ((F_X2_findInGroups N l1 V).bind (fun (x15, V13) => B_X2_findGlyph_60 N  x15 V13)) else (if (V.1 2 11) = (4 : Int32) then ((F_X2_findInSegments N l1 V).bind (fun (x11, V9) => sx_let (x11.toInt64) (fun x12 => B_X2_findGlyph_60 N  x12 V9))) else (if (256 : Int32) ≤ l1 then (B_X2_findGlyph_60 N  (0 : Int64) V) else ((F_X2_u1 (((V.1 2 12) + (6 : Int32)) + l1) V).bind (fun (x7, V5) => sx_let (x7.toInt64) (fun x8 => B_X2_findGlyph_60 N  x8 V5)))))
set_option maxRecDepth 20000 in
theorem t_X2_findGlyph {g : sx_G} (hG : sx_Go g) {P : Option Value → sv_V → Prop} {r : Int32} {Vr : sv_V} (hP : P (some (.int r)) Vr) {N : Nat} {l1 : Int32} {V : sv_V} (h : F_X2_findGlyph N l1 V = some (r, Vr)) : sv_N g qX2_findGlyph 3 0 [(0, .ref 2), (1, .int l1)] [] V P := by
  unfold F_X2_findGlyph at h
  refine sx_lconst (pc := 0) (v := 0) dX2_findGlyph_0 rfl ?_
  refine sx_lstore_n (pc := 1) (lo' := [(2, .long (0 : Int64)), (0, .ref 2), (1, .int l1)]) dX2_findGlyph_1 (by decide) rfl ?_
  refine sx_aload_n (pc := 2) dX2_findGlyph_2 sx_m1 ?_
  refine sv_getI (pc := 3) hG dX2_findGlyph_3 f_2_72 lay_2 rfl ?_
  refine sx_bipush (pc := 6) (v := 12) dX2_findGlyph_6 (by decide) ?_
  refine sx_icmp_ne (pc := 8) (tgt := 20) dX2_findGlyph_8 (by decide) (fun c2 => ?_) (fun c2 => ?_)
  · have h := sx_neg c2 h
    refine sx_aload_n (pc := 20) dX2_findGlyph_20 sx_m1 ?_
    refine sv_getI (pc := 21) hG dX2_findGlyph_21 f_2_72 lay_2 rfl ?_
    refine sx_iconst (pc := 24) (v := 4) dX2_findGlyph_24 (by decide) ?_
    refine sx_icmp_ne (pc := 25) (tgt := 38) dX2_findGlyph_25 (by decide) (fun c3 => ?_) (fun c3 => ?_)
    · have h := sx_neg c3 h
      refine sx_iload_n (pc := 38) dX2_findGlyph_38 sx_m2 ?_
      refine sx_sipush (pc := 39) (v := 256) dX2_findGlyph_39 (by decide) ?_
      refine sx_icmp_ge (pc := 42) (tgt := 60) dX2_findGlyph_42 (by decide) (fun c4 => ?_) (fun c4 => ?_)
      · have h := sx_pos c4 h
        refine sx_wk (sx_s1 sx_m1 (sx_s1 sx_m0 sx_s0)) ?_
        exact tB_X2_findGlyph_60 hG hP  h
      · have h := sx_neg c4 h
        refine sx_aload_n (pc := 45) dX2_findGlyph_45 sx_m1 ?_
        refine sx_aload_n (pc := 46) dX2_findGlyph_46 sx_m1 ?_
        refine sv_getI (pc := 47) hG dX2_findGlyph_47 f_2_82 lay_2 rfl ?_
        refine sx_bipush (pc := 50) (v := 6) dX2_findGlyph_50 (by decide) ?_
        refine sx_iadd (pc := 52) dX2_findGlyph_52 ?_
        refine sx_iload_n (pc := 53) dX2_findGlyph_53 sx_m2 ?_
        refine sx_iadd (pc := 54) dX2_findGlyph_54 ?_
        obtain ⟨⟨x7, V5⟩, g6, h⟩ := sx_bnd h
        refine sv_cV (pc := 55) (y := qX2_u1) (o := (some (.int x7))) (as := [.int (((V.1 2 12) + (6 : Int32)) + l1)]) (V1 := V5) hG dX2_findGlyph_55 l_X2_85 y0X2_u1 yvX2_u1 rfl (Nat.le_of_ble_eq_true rfl) lay_2 kr_2 (by decide) (Nat.le_of_ble_eq_true rfl) rfl rfl rfl (t_X2_u1 hG ⟨rfl, rfl⟩ g6) ?_
        refine sx_i2l (pc := 58) dX2_findGlyph_58 ?_
        refine sv_tJ (fun x8 hx8 => ?_)
        have h := sx_letE hx8 h
        refine sx_lstore_n (pc := 59) (lo' := [(2, .long x8), (0, .ref 2), (1, .int l1)]) dX2_findGlyph_59 (by decide) rfl ?_
        refine sx_wk (sx_s1 sx_m1 (sx_s1 sx_m0 sx_s0)) ?_
        exact tB_X2_findGlyph_60 hG hP  h
    · have h := sx_pos c3 h
      refine sx_aload_n (pc := 28) dX2_findGlyph_28 sx_m1 ?_
      refine sx_iload_n (pc := 29) dX2_findGlyph_29 sx_m2 ?_
      obtain ⟨⟨x11, V9⟩, g10, h⟩ := sx_bnd h
      refine sv_cV (pc := 30) (y := qX2_findInSegments) (o := (some (.int x11))) (as := [.int l1]) (V1 := V9) hG dX2_findGlyph_30 l_X2_79 y0X2_findInSegments yvX2_findInSegments rfl (Nat.le_of_ble_eq_true rfl) lay_2 kr_2 (by decide) (Nat.le_of_ble_eq_true rfl) rfl rfl rfl (t_X2_findInSegments hG ⟨rfl, rfl⟩ g10) ?_
      refine sx_i2l (pc := 33) dX2_findGlyph_33 ?_
      refine sv_tJ (fun x12 hx12 => ?_)
      have h := sx_letE hx12 h
      refine sx_lstore_n (pc := 34) (lo' := [(2, .long x12), (0, .ref 2), (1, .int l1)]) dX2_findGlyph_34 (by decide) rfl ?_
      refine sx_goto (pc := 35) (tgt := 60) dX2_findGlyph_35 (by decide) ?_
      refine sx_wk (sx_s1 sx_m1 (sx_s1 sx_m0 sx_s0)) ?_
      exact tB_X2_findGlyph_60 hG hP  h
  · have h := sx_pos c2 h
    refine sx_aload_n (pc := 11) dX2_findGlyph_11 sx_m1 ?_
    refine sx_iload_n (pc := 12) dX2_findGlyph_12 sx_m2 ?_
    obtain ⟨⟨x15, V13⟩, g14, h⟩ := sx_bnd h
    refine sv_cV (pc := 13) (y := qX2_findInGroups) (o := (some (.long x15))) (as := [.int l1]) (V1 := V13) hG dX2_findGlyph_13 l_X2_75 y0X2_findInGroups yvX2_findInGroups rfl (Nat.le_of_ble_eq_true rfl) lay_2 kr_2 (by decide) (Nat.le_of_ble_eq_true rfl) rfl rfl rfl (t_X2_findInGroups hG ⟨rfl, rfl⟩ g14) ?_
    refine sx_lstore_n (pc := 16) (lo' := [(2, .long x15), (0, .ref 2), (1, .int l1)]) dX2_findGlyph_16 (by decide) rfl ?_
    refine sx_goto (pc := 17) (tgt := 60) dX2_findGlyph_17 (by decide) ?_
    refine sx_wk (sx_s1 sx_m1 (sx_s1 sx_m0 sx_s0)) ?_
    exact tB_X2_findGlyph_60 hG hP  h
def ncX3_glyphHolds : Nat := 1218441955813204630206530019938690700186263028207249996137409649785516240122765550527871520263004791036048707821088150294450407222443295633029547223548883465287230810844815807693444632391762545938667896356011920069254126774492679736089911928677699900879998572334976986314478438167913470502709477423012216657128943688643889218856241425766178308519244692810318932066982489817597644140153164961946923524888662475689175501852392709
theorem kcX3_glyphHolds : CK cX3_glyphHolds ncX3_glyphHolds 177 := ⟨by decide +kernel, by decide +kernel⟩
theorem dX3_glyphHolds_0 : decode cX3_glyphHolds 0 = .ok (.iconst 2, 1) := dl_o5 kcX3_glyphHolds (by decide +kernel)
theorem dX3_glyphHolds_1 : decode cX3_glyphHolds 1 = .ok (.istore_n 2, 1) := dl_o61 kcX3_glyphHolds (by decide +kernel)
theorem dX3_glyphHolds_2 : decode cX3_glyphHolds 2 = .ok (.iload_n 2, 1) := dl_o28 kcX3_glyphHolds (by decide +kernel)
theorem dX3_glyphHolds_3 : decode cX3_glyphHolds 3 = .ok (.bipush 7, 2) := dl_o16 kcX3_glyphHolds 7 (by decide +kernel) (by decide +kernel)
theorem dX3_glyphHolds_5 : decode cX3_glyphHolds 5 = .ok (.if_icmp .gt 21, 3) := dl_o163 kcX3_glyphHolds 21 (by decide +kernel) (by decide +kernel)
theorem dX3_glyphHolds_8 : decode cX3_glyphHolds 8 = .ok (.aload_n 0, 1) := dl_o42 kcX3_glyphHolds (by decide +kernel)
theorem dX3_glyphHolds_9 : decode cX3_glyphHolds 9 = .ok (.getfield 27, 3) := dl_o180 kcX3_glyphHolds (by decide +kernel)
theorem dX3_glyphHolds_12 : decode cX3_glyphHolds 12 = .ok (.getfield 45, 3) := dl_o180 kcX3_glyphHolds (by decide +kernel)
theorem dX3_glyphHolds_15 : decode cX3_glyphHolds 15 = .ok (.iload_n 2, 1) := dl_o28 kcX3_glyphHolds (by decide +kernel)
theorem dX3_glyphHolds_16 : decode cX3_glyphHolds 16 = .ok (.aaload, 1) := dl_o50 kcX3_glyphHolds (by decide +kernel)
theorem dX3_glyphHolds_17 : decode cX3_glyphHolds 17 = .ok (.iload_n 1, 1) := dl_o27 kcX3_glyphHolds (by decide +kernel)
theorem dX3_glyphHolds_18 : decode cX3_glyphHolds 18 = .ok (.iconst 0, 1) := dl_o3 kcX3_glyphHolds (by decide +kernel)
theorem dX3_glyphHolds_19 : decode cX3_glyphHolds 19 = .ok (.iastore, 1) := dl_o79 kcX3_glyphHolds (by decide +kernel)
theorem dX3_glyphHolds_20 : decode cX3_glyphHolds 20 = .ok (.iinc 2 1, 3) := by decide +kernel
theorem dX3_glyphHolds_23 : decode cX3_glyphHolds 23 = .ok (.goto (-21), 3) := dl_o167 kcX3_glyphHolds 65515 (by decide +kernel) (by decide +kernel)
theorem dX3_glyphHolds_26 : decode cX3_glyphHolds 26 = .ok (.aload_n 0, 1) := dl_o42 kcX3_glyphHolds (by decide +kernel)
theorem dX3_glyphHolds_27 : decode cX3_glyphHolds 27 = .ok (.getfield 27, 3) := dl_o180 kcX3_glyphHolds (by decide +kernel)
theorem dX3_glyphHolds_30 : decode cX3_glyphHolds 30 = .ok (.getfield 45, 3) := dl_o180 kcX3_glyphHolds (by decide +kernel)
theorem dX3_glyphHolds_33 : decode cX3_glyphHolds 33 = .ok (.iconst 1, 1) := dl_o4 kcX3_glyphHolds (by decide +kernel)
theorem dX3_glyphHolds_34 : decode cX3_glyphHolds 34 = .ok (.aaload, 1) := dl_o50 kcX3_glyphHolds (by decide +kernel)
theorem dX3_glyphHolds_35 : decode cX3_glyphHolds 35 = .ok (.iload_n 1, 1) := dl_o27 kcX3_glyphHolds (by decide +kernel)
theorem dX3_glyphHolds_36 : decode cX3_glyphHolds 36 = .ok (.iaload, 1) := dl_o46 kcX3_glyphHolds (by decide +kernel)
theorem dX3_glyphHolds_37 : decode cX3_glyphHolds 37 = .ok (.ifCond .ne 5, 3) := dl_o154 kcX3_glyphHolds 5 (by decide +kernel) (by decide +kernel)
theorem dX3_glyphHolds_40 : decode cX3_glyphHolds 40 = .ok (.iconst 1, 1) := dl_o4 kcX3_glyphHolds (by decide +kernel)
theorem dX3_glyphHolds_41 : decode cX3_glyphHolds 41 = .ok (.ireturn, 1) := dl_o172 kcX3_glyphHolds (by decide +kernel)
theorem dX3_glyphHolds_42 : decode cX3_glyphHolds 42 = .ok (.aload_n 0, 1) := dl_o42 kcX3_glyphHolds (by decide +kernel)
theorem dX3_glyphHolds_43 : decode cX3_glyphHolds 43 = .ok (.getfield 27, 3) := dl_o180 kcX3_glyphHolds (by decide +kernel)
theorem dX3_glyphHolds_46 : decode cX3_glyphHolds 46 = .ok (.getfield 45, 3) := dl_o180 kcX3_glyphHolds (by decide +kernel)
theorem dX3_glyphHolds_49 : decode cX3_glyphHolds 49 = .ok (.iconst 1, 1) := dl_o4 kcX3_glyphHolds (by decide +kernel)
theorem dX3_glyphHolds_50 : decode cX3_glyphHolds 50 = .ok (.aaload, 1) := dl_o50 kcX3_glyphHolds (by decide +kernel)
theorem dX3_glyphHolds_51 : decode cX3_glyphHolds 51 = .ok (.iload_n 1, 1) := dl_o27 kcX3_glyphHolds (by decide +kernel)
theorem dX3_glyphHolds_52 : decode cX3_glyphHolds 52 = .ok (.iaload, 1) := dl_o46 kcX3_glyphHolds (by decide +kernel)
theorem dX3_glyphHolds_53 : decode cX3_glyphHolds 53 = .ok (.bipush 10, 2) := dl_o16 kcX3_glyphHolds 10 (by decide +kernel) (by decide +kernel)
theorem dX3_glyphHolds_55 : decode cX3_glyphHolds 55 = .ok (.if_icmp .ge 5, 3) := dl_o162 kcX3_glyphHolds 5 (by decide +kernel) (by decide +kernel)
theorem dX3_glyphHolds_58 : decode cX3_glyphHolds 58 = .ok (.iconst 0, 1) := dl_o3 kcX3_glyphHolds (by decide +kernel)
theorem dX3_glyphHolds_59 : decode cX3_glyphHolds 59 = .ok (.ireturn, 1) := dl_o172 kcX3_glyphHolds (by decide +kernel)
theorem dX3_glyphHolds_60 : decode cX3_glyphHolds 60 = .ok (.aload_n 0, 1) := dl_o42 kcX3_glyphHolds (by decide +kernel)
theorem dX3_glyphHolds_61 : decode cX3_glyphHolds 61 = .ok (.getfield 27, 3) := dl_o180 kcX3_glyphHolds (by decide +kernel)
theorem dX3_glyphHolds_64 : decode cX3_glyphHolds 64 = .ok (.aload_n 0, 1) := dl_o42 kcX3_glyphHolds (by decide +kernel)
theorem dX3_glyphHolds_65 : decode cX3_glyphHolds 65 = .ok (.getfield 27, 3) := dl_o180 kcX3_glyphHolds (by decide +kernel)
theorem dX3_glyphHolds_68 : decode cX3_glyphHolds 68 = .ok (.getfield 45, 3) := dl_o180 kcX3_glyphHolds (by decide +kernel)
theorem dX3_glyphHolds_71 : decode cX3_glyphHolds 71 = .ok (.iconst 0, 1) := dl_o3 kcX3_glyphHolds (by decide +kernel)
theorem dX3_glyphHolds_72 : decode cX3_glyphHolds 72 = .ok (.aaload, 1) := dl_o50 kcX3_glyphHolds (by decide +kernel)
theorem dX3_glyphHolds_73 : decode cX3_glyphHolds 73 = .ok (.iload_n 1, 1) := dl_o27 kcX3_glyphHolds (by decide +kernel)
theorem dX3_glyphHolds_74 : decode cX3_glyphHolds 74 = .ok (.iaload, 1) := dl_o46 kcX3_glyphHolds (by decide +kernel)
theorem dX3_glyphHolds_75 : decode cX3_glyphHolds 75 = .ok (.invokevirtual 49, 3) := dl_o182 kcX3_glyphHolds (by decide +kernel)
theorem dX3_glyphHolds_78 : decode cX3_glyphHolds 78 = .ok (.istore_n 2, 1) := dl_o61 kcX3_glyphHolds (by decide +kernel)
theorem dX3_glyphHolds_79 : decode cX3_glyphHolds 79 = .ok (.aload_n 0, 1) := dl_o42 kcX3_glyphHolds (by decide +kernel)
theorem dX3_glyphHolds_80 : decode cX3_glyphHolds 80 = .ok (.getfield 27, 3) := dl_o180 kcX3_glyphHolds (by decide +kernel)
theorem dX3_glyphHolds_83 : decode cX3_glyphHolds 83 = .ok (.getfield 45, 3) := dl_o180 kcX3_glyphHolds (by decide +kernel)
theorem dX3_glyphHolds_86 : decode cX3_glyphHolds 86 = .ok (.iconst 2, 1) := dl_o5 kcX3_glyphHolds (by decide +kernel)
theorem dX3_glyphHolds_87 : decode cX3_glyphHolds 87 = .ok (.aaload, 1) := dl_o50 kcX3_glyphHolds (by decide +kernel)
theorem dX3_glyphHolds_88 : decode cX3_glyphHolds 88 = .ok (.iload_n 1, 1) := dl_o27 kcX3_glyphHolds (by decide +kernel)
theorem dX3_glyphHolds_89 : decode cX3_glyphHolds 89 = .ok (.iload_n 2, 1) := dl_o28 kcX3_glyphHolds (by decide +kernel)
theorem dX3_glyphHolds_90 : decode cX3_glyphHolds 90 = .ok (.iastore, 1) := dl_o79 kcX3_glyphHolds (by decide +kernel)
theorem dX3_glyphHolds_91 : decode cX3_glyphHolds 91 = .ok (.aload_n 0, 1) := dl_o42 kcX3_glyphHolds (by decide +kernel)
theorem dX3_glyphHolds_92 : decode cX3_glyphHolds 92 = .ok (.getfield 27, 3) := dl_o180 kcX3_glyphHolds (by decide +kernel)
theorem dX3_glyphHolds_95 : decode cX3_glyphHolds 95 = .ok (.getfield 45, 3) := dl_o180 kcX3_glyphHolds (by decide +kernel)
theorem dX3_glyphHolds_98 : decode cX3_glyphHolds 98 = .ok (.iconst 3, 1) := dl_o6 kcX3_glyphHolds (by decide +kernel)
theorem dX3_glyphHolds_99 : decode cX3_glyphHolds 99 = .ok (.aaload, 1) := dl_o50 kcX3_glyphHolds (by decide +kernel)
theorem dX3_glyphHolds_100 : decode cX3_glyphHolds 100 = .ok (.iload_n 1, 1) := dl_o27 kcX3_glyphHolds (by decide +kernel)
theorem dX3_glyphHolds_101 : decode cX3_glyphHolds 101 = .ok (.aload_n 0, 1) := dl_o42 kcX3_glyphHolds (by decide +kernel)
theorem dX3_glyphHolds_102 : decode cX3_glyphHolds 102 = .ok (.getfield 27, 3) := dl_o180 kcX3_glyphHolds (by decide +kernel)
theorem dX3_glyphHolds_105 : decode cX3_glyphHolds 105 = .ok (.aload_n 0, 1) := dl_o42 kcX3_glyphHolds (by decide +kernel)
theorem dX3_glyphHolds_106 : decode cX3_glyphHolds 106 = .ok (.getfield 27, 3) := dl_o180 kcX3_glyphHolds (by decide +kernel)
theorem dX3_glyphHolds_109 : decode cX3_glyphHolds 109 = .ok (.getfield 45, 3) := dl_o180 kcX3_glyphHolds (by decide +kernel)
theorem dX3_glyphHolds_112 : decode cX3_glyphHolds 112 = .ok (.iconst 0, 1) := dl_o3 kcX3_glyphHolds (by decide +kernel)
theorem dX3_glyphHolds_113 : decode cX3_glyphHolds 113 = .ok (.aaload, 1) := dl_o50 kcX3_glyphHolds (by decide +kernel)
theorem dX3_glyphHolds_114 : decode cX3_glyphHolds 114 = .ok (.iload_n 1, 1) := dl_o27 kcX3_glyphHolds (by decide +kernel)
theorem dX3_glyphHolds_115 : decode cX3_glyphHolds 115 = .ok (.iaload, 1) := dl_o46 kcX3_glyphHolds (by decide +kernel)
theorem dX3_glyphHolds_116 : decode cX3_glyphHolds 116 = .ok (.iconst 2, 1) := dl_o5 kcX3_glyphHolds (by decide +kernel)
theorem dX3_glyphHolds_117 : decode cX3_glyphHolds 117 = .ok (.iadd, 1) := dl_o96 kcX3_glyphHolds (by decide +kernel)
theorem dX3_glyphHolds_118 : decode cX3_glyphHolds 118 = .ok (.invokevirtual 49, 3) := dl_o182 kcX3_glyphHolds (by decide +kernel)
theorem dX3_glyphHolds_121 : decode cX3_glyphHolds 121 = .ok (.iastore, 1) := dl_o79 kcX3_glyphHolds (by decide +kernel)
theorem dX3_glyphHolds_122 : decode cX3_glyphHolds 122 = .ok (.iload_n 2, 1) := dl_o28 kcX3_glyphHolds (by decide +kernel)
theorem dX3_glyphHolds_123 : decode cX3_glyphHolds 123 = .ok (.iconst (-1), 1) := dl_o2 kcX3_glyphHolds (by decide +kernel)
theorem dX3_glyphHolds_124 : decode cX3_glyphHolds 124 = .ok (.if_icmp .ne 9, 3) := dl_o160 kcX3_glyphHolds 9 (by decide +kernel) (by decide +kernel)
theorem dX3_glyphHolds_127 : decode cX3_glyphHolds 127 = .ok (.aload_n 0, 1) := dl_o42 kcX3_glyphHolds (by decide +kernel)
theorem dX3_glyphHolds_128 : decode cX3_glyphHolds 128 = .ok (.iload_n 1, 1) := dl_o27 kcX3_glyphHolds (by decide +kernel)
theorem dX3_glyphHolds_129 : decode cX3_glyphHolds 129 = .ok (.invokevirtual 53, 3) := dl_o182 kcX3_glyphHolds (by decide +kernel)
theorem dX3_glyphHolds_132 : decode cX3_glyphHolds 132 = .ok (.ireturn, 1) := dl_o172 kcX3_glyphHolds (by decide +kernel)
theorem dX3_glyphHolds_133 : decode cX3_glyphHolds 133 = .ok (.iload_n 2, 1) := dl_o28 kcX3_glyphHolds (by decide +kernel)
theorem dX3_glyphHolds_134 : decode cX3_glyphHolds 134 = .ok (.ifCond .lt 21, 3) := dl_o155 kcX3_glyphHolds 21 (by decide +kernel) (by decide +kernel)
theorem dX3_glyphHolds_137 : decode cX3_glyphHolds 137 = .ok (.iload_n 2, 1) := dl_o28 kcX3_glyphHolds (by decide +kernel)
theorem dX3_glyphHolds_138 : decode cX3_glyphHolds 138 = .ok (.bipush 12, 2) := dl_o16 kcX3_glyphHolds 12 (by decide +kernel) (by decide +kernel)
theorem dX3_glyphHolds_140 : decode cX3_glyphHolds 140 = .ok (.if_icmp .gt 15, 3) := dl_o163 kcX3_glyphHolds 15 (by decide +kernel) (by decide +kernel)
theorem dX3_glyphHolds_143 : decode cX3_glyphHolds 143 = .ok (.aload_n 0, 1) := dl_o42 kcX3_glyphHolds (by decide +kernel)
theorem dX3_glyphHolds_144 : decode cX3_glyphHolds 144 = .ok (.iload_n 1, 1) := dl_o27 kcX3_glyphHolds (by decide +kernel)
theorem dX3_glyphHolds_145 : decode cX3_glyphHolds 145 = .ok (.aload_n 0, 1) := dl_o42 kcX3_glyphHolds (by decide +kernel)
theorem dX3_glyphHolds_146 : decode cX3_glyphHolds 146 = .ok (.getfield 14, 3) := dl_o180 kcX3_glyphHolds (by decide +kernel)
theorem dX3_glyphHolds_149 : decode cX3_glyphHolds 149 = .ok (.invokevirtual 56, 3) := dl_o182 kcX3_glyphHolds (by decide +kernel)
theorem dX3_glyphHolds_152 : decode cX3_glyphHolds 152 = .ok (.ifCond .ne 5, 3) := dl_o154 kcX3_glyphHolds 5 (by decide +kernel) (by decide +kernel)
theorem dX3_glyphHolds_155 : decode cX3_glyphHolds 155 = .ok (.iconst 0, 1) := dl_o3 kcX3_glyphHolds (by decide +kernel)
theorem dX3_glyphHolds_156 : decode cX3_glyphHolds 156 = .ok (.ireturn, 1) := dl_o172 kcX3_glyphHolds (by decide +kernel)
theorem dX3_glyphHolds_157 : decode cX3_glyphHolds 157 = .ok (.aload_n 0, 1) := dl_o42 kcX3_glyphHolds (by decide +kernel)
theorem dX3_glyphHolds_158 : decode cX3_glyphHolds 158 = .ok (.getfield 27, 3) := dl_o180 kcX3_glyphHolds (by decide +kernel)
theorem dX3_glyphHolds_161 : decode cX3_glyphHolds 161 = .ok (.getfield 45, 3) := dl_o180 kcX3_glyphHolds (by decide +kernel)
theorem dX3_glyphHolds_164 : decode cX3_glyphHolds 164 = .ok (.iconst 4, 1) := dl_o7 kcX3_glyphHolds (by decide +kernel)
theorem dX3_glyphHolds_165 : decode cX3_glyphHolds 165 = .ok (.aaload, 1) := dl_o50 kcX3_glyphHolds (by decide +kernel)
theorem dX3_glyphHolds_166 : decode cX3_glyphHolds 166 = .ok (.iload_n 1, 1) := dl_o27 kcX3_glyphHolds (by decide +kernel)
theorem dX3_glyphHolds_167 : decode cX3_glyphHolds 167 = .ok (.aload_n 0, 1) := dl_o42 kcX3_glyphHolds (by decide +kernel)
theorem dX3_glyphHolds_168 : decode cX3_glyphHolds 168 = .ok (.getfield 14, 3) := dl_o180 kcX3_glyphHolds (by decide +kernel)
theorem dX3_glyphHolds_171 : decode cX3_glyphHolds 171 = .ok (.getfield 60, 3) := dl_o180 kcX3_glyphHolds (by decide +kernel)
theorem dX3_glyphHolds_174 : decode cX3_glyphHolds 174 = .ok (.iastore, 1) := dl_o79 kcX3_glyphHolds (by decide +kernel)
theorem dX3_glyphHolds_175 : decode cX3_glyphHolds 175 = .ok (.iconst 1, 1) := dl_o4 kcX3_glyphHolds (by decide +kernel)
theorem dX3_glyphHolds_176 : decode cX3_glyphHolds 176 = .ok (.ireturn, 1) := dl_o172 kcX3_glyphHolds (by decide +kernel)
def B_X3_glyphHolds_2 (N : Nat) (k2 : Int32 → Int32 → sv_V → Option (Int32 × sv_V)) (l1 : Int32) (l2 : Int32) (V : sv_V) : Option (Int32 × sv_V) := if (7 : Int32) < l2 then ((cr 7 (1 : Int32).toNatClampNeg).bind (fun b2 => (sv_len 0 b2).bind (fun n4 => if sx_in l1 n4 = true then if (V.1 b2 l1.toNatClampNeg) = 0 then (some ((1 : Int32), V)) else ((cr 7 (1 : Int32).toNatClampNeg).bind (fun b8 => (sv_len 0 b8).bind (fun n10 => if sx_in l1 n10 = true then if (10 : Int32) ≤ (V.1 b8 l1.toNatClampNeg) then ((cr 7 (0 : Int32).toNatClampNeg).bind (fun b14 => (sv_len 0 b14).bind (fun n16 => if sx_in l1 n16 = true then (F_X2_s2 (V.1 b14 l1.toNatClampNeg) V).bind (fun (x21, V19) => (cr 7 (2 : Int32).toNatClampNeg).bind (fun b22 => (sv_len 0 b22).bind (fun n24 => if sx_in l1 n24 = true then sx_let (sv_I V19 b22 l1.toNatClampNeg x21) (fun V27 => (cr 7 (3 : Int32).toNatClampNeg).bind (fun b28 => (cr 7 (0 : Int32).toNatClampNeg).bind (fun b30 => (sv_len 0 b30).bind (fun n32 => if sx_in l1 n32 = true then (F_X2_s2 ((V27.1 b30 l1.toNatClampNeg) + (2 : Int32)) V27).bind (fun (x37, V35) => (sv_len 0 b28).bind (fun n38 => if sx_in l1 n38 = true then sx_let (sv_I V35 b28 l1.toNatClampNeg x37) (fun V41 => if x21 = (-1 : Int32) then ((F_X3_partsHold N l1 V41).bind (fun (x57, V55) => if sv_bl x57 = true then some (x57, V55) else none)) else (if x21 < 0 then (some ((0 : Int32), V41)) else (if (12 : Int32) < x21 then (some ((0 : Int32), V41)) else ((F_X3_readOutline N l1 17 V41).bind (fun (x47, V45) => if x47 = 0 then (some ((0 : Int32), V45)) else ((cr 7 (4 : Int32).toNatClampNeg).bind (fun b49 => (sv_len 0 b49).bind (fun n51 => if sx_in l1 n51 = true then sx_let (sv_I V45 b49 l1.toNatClampNeg (V45.1 17 9)) (fun V54 => some ((1 : Int32), V54)) else none)))))))) else none)) else none)))) else none))) else none))) else (some ((0 : Int32), V)) else none))) else none))) else (if sx_in l2 8 = true then (cr 7 l2.toNatClampNeg).bind (fun b60 => (sv_len 0 b60).bind (fun n62 => if sx_in l1 n62 = true then sx_let (sv_I V b60 l1.toNatClampNeg (0 : Int32)) (fun V65 => sx_let (l2 + 1) (fun x66 => k2 l1 x66 V65)) else none)) else none)
set_option maxRecDepth 20000 in
theorem tB_X3_glyphHolds_2 {g : sx_G} (hG : sx_Go g) {P : Option Value → sv_V → Prop} {r : Int32} {Vr : sv_V} (hP : P (some (.int r)) Vr) {N : Nat} {k2 : Int32 → Int32 → sv_V → Option (Int32 × sv_V)} (hk2 : ∀ (l1 : Int32) (l2 : Int32) (V : sv_V), k2 l1 l2 V = some (r, Vr) → sv_N g qX3_glyphHolds 4 2 [(0, .ref 16), (1, .int l1), (2, .int l2)] [] V P) {l1 : Int32} {l2 : Int32} {V : sv_V} (h : B_X3_glyphHolds_2 N k2 l1 l2 V = some (r, Vr)) : sv_N g qX3_glyphHolds 4 2 [(0, .ref 16), (1, .int l1), (2, .int l2)] [] V P := by
  unfold B_X3_glyphHolds_2 at h
  refine sx_iload_n (pc := 2) dX3_glyphHolds_2 sx_m2 ?_
  refine sx_bipush (pc := 3) (v := 7) dX3_glyphHolds_3 (by decide) ?_
  refine sx_icmp_gt (pc := 5) (tgt := 26) dX3_glyphHolds_5 (by decide) (fun c1 => ?_) (fun c1 => ?_)
  · have h := sx_pos c1 h
    refine sx_aload_n (pc := 26) dX3_glyphHolds_26 sx_m0 ?_
    refine sv_getO (pc := 27) hG dX3_glyphHolds_27 f_3_27 lay_16 rfl cr_16_0 ?_
    refine sv_getA (pc := 30) hG dX3_glyphHolds_30 f_3_45 lay_2 rfl cr_2_16 ?_
    refine sx_iconst (pc := 33) (v := 1) dX3_glyphHolds_33 (by decide) ?_
    obtain ⟨b2, g3, h⟩ := sx_bnd h
    refine sv_aald (pc := 34) hG dX3_glyphHolds_34 (by decide) lay_7 (by decide) g3 ?_
    refine sx_iload_n (pc := 35) dX3_glyphHolds_35 sx_m1 ?_
    obtain ⟨n4, g5, h⟩ := sx_bnd h
    obtain ⟨g6, h⟩ := sx_grd h
    refine sv_iald (pc := 36) hG dX3_glyphHolds_36 (sv_len_e g5) g6 ?_
    refine sx_if_ne (pc := 37) (tgt := 42) dX3_glyphHolds_37 (by decide) (fun c7 => ?_) (fun c7 => ?_)
    · have h := sx_neg c7 h
      refine sx_aload_n (pc := 42) dX3_glyphHolds_42 sx_m0 ?_
      refine sv_getO (pc := 43) hG dX3_glyphHolds_43 f_3_27 lay_16 rfl cr_16_0 ?_
      refine sv_getA (pc := 46) hG dX3_glyphHolds_46 f_3_45 lay_2 rfl cr_2_16 ?_
      refine sx_iconst (pc := 49) (v := 1) dX3_glyphHolds_49 (by decide) ?_
      obtain ⟨b8, g9, h⟩ := sx_bnd h
      refine sv_aald (pc := 50) hG dX3_glyphHolds_50 (by decide) lay_7 (by decide) g9 ?_
      refine sx_iload_n (pc := 51) dX3_glyphHolds_51 sx_m1 ?_
      obtain ⟨n10, g11, h⟩ := sx_bnd h
      obtain ⟨g12, h⟩ := sx_grd h
      refine sv_iald (pc := 52) hG dX3_glyphHolds_52 (sv_len_e g11) g12 ?_
      refine sx_bipush (pc := 53) (v := 10) dX3_glyphHolds_53 (by decide) ?_
      refine sx_icmp_ge (pc := 55) (tgt := 60) dX3_glyphHolds_55 (by decide) (fun c13 => ?_) (fun c13 => ?_)
      · have h := sx_pos c13 h
        refine sx_aload_n (pc := 60) dX3_glyphHolds_60 sx_m0 ?_
        refine sv_getO (pc := 61) hG dX3_glyphHolds_61 f_3_27 lay_16 rfl cr_16_0 ?_
        refine sx_aload_n (pc := 64) dX3_glyphHolds_64 sx_m0 ?_
        refine sv_getO (pc := 65) hG dX3_glyphHolds_65 f_3_27 lay_16 rfl cr_16_0 ?_
        refine sv_getA (pc := 68) hG dX3_glyphHolds_68 f_3_45 lay_2 rfl cr_2_16 ?_
        refine sx_iconst (pc := 71) (v := 0) dX3_glyphHolds_71 (by decide) ?_
        obtain ⟨b14, g15, h⟩ := sx_bnd h
        refine sv_aald (pc := 72) hG dX3_glyphHolds_72 (by decide) lay_7 (by decide) g15 ?_
        refine sx_iload_n (pc := 73) dX3_glyphHolds_73 sx_m1 ?_
        obtain ⟨n16, g17, h⟩ := sx_bnd h
        obtain ⟨g18, h⟩ := sx_grd h
        refine sv_iald (pc := 74) hG dX3_glyphHolds_74 (sv_len_e g17) g18 ?_
        obtain ⟨⟨x21, V19⟩, g20, h⟩ := sx_bnd h
        refine sv_cV (pc := 75) (y := qX2_s2) (o := (some (.int x21))) (as := [.int (V.1 b14 l1.toNatClampNeg)]) (V1 := V19) hG dX3_glyphHolds_75 l_X3_49 y0X2_s2 yvX2_s2 rfl (Nat.le_of_ble_eq_true rfl) lay_2 kr_2 (by decide) (Nat.le_of_ble_eq_true rfl) rfl rfl rfl (t_X2_s2 hG ⟨rfl, rfl⟩ g20) ?_
        refine sx_istore_n (pc := 78) (lo' := [(2, .int x21), (0, .ref 16), (1, .int l1)]) dX3_glyphHolds_78 (by decide) rfl ?_
        refine sx_aload_n (pc := 79) dX3_glyphHolds_79 sx_m1 ?_
        refine sv_getO (pc := 80) hG dX3_glyphHolds_80 f_3_27 lay_16 rfl cr_16_0 ?_
        refine sv_getA (pc := 83) hG dX3_glyphHolds_83 f_3_45 lay_2 rfl cr_2_16 ?_
        refine sx_iconst (pc := 86) (v := 2) dX3_glyphHolds_86 (by decide) ?_
        obtain ⟨b22, g23, h⟩ := sx_bnd h
        refine sv_aald (pc := 87) hG dX3_glyphHolds_87 (by decide) lay_7 (by decide) g23 ?_
        refine sx_iload_n (pc := 88) dX3_glyphHolds_88 sx_m2 ?_
        refine sx_iload_n (pc := 89) dX3_glyphHolds_89 sx_m0 ?_
        obtain ⟨n24, g25, h⟩ := sx_bnd h
        obtain ⟨g26, h⟩ := sx_grd h
        obtain ⟨V27, hV27⟩ : ∃ z : sv_V, z = sv_I V19 b22 l1.toNatClampNeg x21 := ⟨_, rfl⟩
        have h := sx_letE hV27 h
        refine sv_iast (pc := 90) hG dX3_glyphHolds_90 (sv_len_e g25) g26 hV27 ?_
        refine sx_aload_n (pc := 91) dX3_glyphHolds_91 sx_m1 ?_
        refine sv_getO (pc := 92) hG dX3_glyphHolds_92 f_3_27 lay_16 rfl cr_16_0 ?_
        refine sv_getA (pc := 95) hG dX3_glyphHolds_95 f_3_45 lay_2 rfl cr_2_16 ?_
        refine sx_iconst (pc := 98) (v := 3) dX3_glyphHolds_98 (by decide) ?_
        obtain ⟨b28, g29, h⟩ := sx_bnd h
        refine sv_aald (pc := 99) hG dX3_glyphHolds_99 (by decide) lay_7 (by decide) g29 ?_
        refine sx_iload_n (pc := 100) dX3_glyphHolds_100 sx_m2 ?_
        refine sx_aload_n (pc := 101) dX3_glyphHolds_101 sx_m1 ?_
        refine sv_getO (pc := 102) hG dX3_glyphHolds_102 f_3_27 lay_16 rfl cr_16_0 ?_
        refine sx_aload_n (pc := 105) dX3_glyphHolds_105 sx_m1 ?_
        refine sv_getO (pc := 106) hG dX3_glyphHolds_106 f_3_27 lay_16 rfl cr_16_0 ?_
        refine sv_getA (pc := 109) hG dX3_glyphHolds_109 f_3_45 lay_2 rfl cr_2_16 ?_
        refine sx_iconst (pc := 112) (v := 0) dX3_glyphHolds_112 (by decide) ?_
        obtain ⟨b30, g31, h⟩ := sx_bnd h
        refine sv_aald (pc := 113) hG dX3_glyphHolds_113 (by decide) lay_7 (by decide) g31 ?_
        refine sx_iload_n (pc := 114) dX3_glyphHolds_114 sx_m2 ?_
        obtain ⟨n32, g33, h⟩ := sx_bnd h
        obtain ⟨g34, h⟩ := sx_grd h
        refine sv_iald (pc := 115) hG dX3_glyphHolds_115 (sv_len_e g33) g34 ?_
        refine sx_iconst (pc := 116) (v := 2) dX3_glyphHolds_116 (by decide) ?_
        refine sx_iadd (pc := 117) dX3_glyphHolds_117 ?_
        obtain ⟨⟨x37, V35⟩, g36, h⟩ := sx_bnd h
        refine sv_cV (pc := 118) (y := qX2_s2) (o := (some (.int x37))) (as := [.int ((V27.1 b30 l1.toNatClampNeg) + (2 : Int32))]) (V1 := V35) hG dX3_glyphHolds_118 l_X3_49 y0X2_s2 yvX2_s2 rfl (Nat.le_of_ble_eq_true rfl) lay_2 kr_2 (by decide) (Nat.le_of_ble_eq_true rfl) rfl rfl rfl (t_X2_s2 hG ⟨rfl, rfl⟩ g36) ?_
        obtain ⟨n38, g39, h⟩ := sx_bnd h
        obtain ⟨g40, h⟩ := sx_grd h
        obtain ⟨V41, hV41⟩ : ∃ z : sv_V, z = sv_I V35 b28 l1.toNatClampNeg x37 := ⟨_, rfl⟩
        have h := sx_letE hV41 h
        refine sv_iast (pc := 121) hG dX3_glyphHolds_121 (sv_len_e g39) g40 hV41 ?_
        refine sx_iload_n (pc := 122) dX3_glyphHolds_122 sx_m0 ?_
        refine sx_iconst (pc := 123) (v := (-1)) dX3_glyphHolds_123 (by decide) ?_
        refine sx_icmp_ne (pc := 124) (tgt := 133) dX3_glyphHolds_124 (by decide) (fun c42 => ?_) (fun c42 => ?_)
        · have h := sx_neg c42 h
          refine sx_iload_n (pc := 133) dX3_glyphHolds_133 sx_m0 ?_
          refine sx_if_lt (pc := 134) (tgt := 155) dX3_glyphHolds_134 (by decide) (fun c43 => ?_) (fun c43 => ?_)
          · have h := sx_pos c43 h
            refine sx_iconst (pc := 155) (v := 0) dX3_glyphHolds_155 (by decide) ?_
            exact sv_zret (pc := 156) dX3_glyphHolds_156 rfl rfl h hP
          · have h := sx_neg c43 h
            refine sx_iload_n (pc := 137) dX3_glyphHolds_137 sx_m0 ?_
            refine sx_bipush (pc := 138) (v := 12) dX3_glyphHolds_138 (by decide) ?_
            refine sx_icmp_gt (pc := 140) (tgt := 155) dX3_glyphHolds_140 (by decide) (fun c44 => ?_) (fun c44 => ?_)
            · have h := sx_pos c44 h
              refine sx_iconst (pc := 155) (v := 0) dX3_glyphHolds_155 (by decide) ?_
              exact sv_zret (pc := 156) dX3_glyphHolds_156 rfl rfl h hP
            · have h := sx_neg c44 h
              refine sx_aload_n (pc := 143) dX3_glyphHolds_143 sx_m1 ?_
              refine sx_iload_n (pc := 144) dX3_glyphHolds_144 sx_m2 ?_
              refine sx_aload_n (pc := 145) dX3_glyphHolds_145 sx_m1 ?_
              refine sv_getO (pc := 146) hG dX3_glyphHolds_146 f_3_14 lay_16 rfl cr_16_1 ?_
              obtain ⟨⟨x47, V45⟩, g46, h⟩ := sx_bnd h
              refine sv_cV (pc := 149) (y := qX3_readOutline) (o := (some (.int x47))) (as := [.int l1, .ref 17]) (V1 := V45) hG dX3_glyphHolds_149 l_X3_56 y0X3_readOutline yvX3_readOutline rfl (Nat.le_of_ble_eq_true rfl) lay_16 kr_3 (by decide) (Nat.le_of_ble_eq_true rfl) rfl rfl rfl (t_X3_readOutline hG ⟨rfl, rfl⟩ g46) ?_
              refine sx_if_ne (pc := 152) (tgt := 157) dX3_glyphHolds_152 (by decide) (fun c48 => ?_) (fun c48 => ?_)
              · have h := sx_neg c48 h
                refine sx_aload_n (pc := 157) dX3_glyphHolds_157 sx_m1 ?_
                refine sv_getO (pc := 158) hG dX3_glyphHolds_158 f_3_27 lay_16 rfl cr_16_0 ?_
                refine sv_getA (pc := 161) hG dX3_glyphHolds_161 f_3_45 lay_2 rfl cr_2_16 ?_
                refine sx_iconst (pc := 164) (v := 4) dX3_glyphHolds_164 (by decide) ?_
                obtain ⟨b49, g50, h⟩ := sx_bnd h
                refine sv_aald (pc := 165) hG dX3_glyphHolds_165 (by decide) lay_7 (by decide) g50 ?_
                refine sx_iload_n (pc := 166) dX3_glyphHolds_166 sx_m2 ?_
                refine sx_aload_n (pc := 167) dX3_glyphHolds_167 sx_m1 ?_
                refine sv_getO (pc := 168) hG dX3_glyphHolds_168 f_3_14 lay_16 rfl cr_16_1 ?_
                refine sv_getI (pc := 171) hG dX3_glyphHolds_171 f_3_60 lay_17 rfl ?_
                obtain ⟨n51, g52, h⟩ := sx_bnd h
                obtain ⟨g53, h⟩ := sx_grd h
                obtain ⟨V54, hV54⟩ : ∃ z : sv_V, z = sv_I V45 b49 l1.toNatClampNeg (V45.1 17 9) := ⟨_, rfl⟩
                have h := sx_letE hV54 h
                refine sv_iast (pc := 174) hG dX3_glyphHolds_174 (sv_len_e g52) g53 hV54 ?_
                refine sx_iconst (pc := 175) (v := 1) dX3_glyphHolds_175 (by decide) ?_
                exact sv_zret (pc := 176) dX3_glyphHolds_176 rfl rfl h hP
              · have h := sx_pos c48 h
                refine sx_iconst (pc := 155) (v := 0) dX3_glyphHolds_155 (by decide) ?_
                exact sv_zret (pc := 156) dX3_glyphHolds_156 rfl rfl h hP
        · have h := sx_pos c42 h
          refine sx_aload_n (pc := 127) dX3_glyphHolds_127 sx_m1 ?_
          refine sx_iload_n (pc := 128) dX3_glyphHolds_128 sx_m2 ?_
          obtain ⟨⟨x57, V55⟩, g56, h⟩ := sx_bnd h
          refine sv_cV (pc := 129) (y := qX3_partsHold) (o := (some (.int x57))) (as := [.int l1]) (V1 := V55) hG dX3_glyphHolds_129 l_X3_53 y0X3_partsHold yvX3_partsHold rfl (Nat.le_of_ble_eq_true rfl) lay_16 kr_3 (by decide) (Nat.le_of_ble_eq_true rfl) rfl rfl rfl (t_X3_partsHold hG ⟨rfl, rfl⟩ g56) ?_
          obtain ⟨g58, h⟩ := sx_grd h
          exact sv_zret (pc := 132) dX3_glyphHolds_132 rfl g58 h hP
      · have h := sx_neg c13 h
        refine sx_iconst (pc := 58) (v := 0) dX3_glyphHolds_58 (by decide) ?_
        exact sv_zret (pc := 59) dX3_glyphHolds_59 rfl rfl h hP
    · have h := sx_pos c7 h
      refine sx_iconst (pc := 40) (v := 1) dX3_glyphHolds_40 (by decide) ?_
      exact sv_zret (pc := 41) dX3_glyphHolds_41 rfl rfl h hP
  · have h := sx_neg c1 h
    refine sx_aload_n (pc := 8) dX3_glyphHolds_8 sx_m0 ?_
    refine sv_getO (pc := 9) hG dX3_glyphHolds_9 f_3_27 lay_16 rfl cr_16_0 ?_
    refine sv_getA (pc := 12) hG dX3_glyphHolds_12 f_3_45 lay_2 rfl cr_2_16 ?_
    refine sx_iload_n (pc := 15) dX3_glyphHolds_15 sx_m2 ?_
    obtain ⟨g59, h⟩ := sx_grd h
    obtain ⟨b60, g61, h⟩ := sx_bnd h
    refine sv_aald (pc := 16) hG dX3_glyphHolds_16 (by decide) lay_7 g59 g61 ?_
    refine sx_iload_n (pc := 17) dX3_glyphHolds_17 sx_m1 ?_
    refine sx_iconst (pc := 18) (v := 0) dX3_glyphHolds_18 (by decide) ?_
    obtain ⟨n62, g63, h⟩ := sx_bnd h
    obtain ⟨g64, h⟩ := sx_grd h
    obtain ⟨V65, hV65⟩ : ∃ z : sv_V, z = sv_I V b60 l1.toNatClampNeg (0 : Int32) := ⟨_, rfl⟩
    have h := sx_letE hV65 h
    refine sv_iast (pc := 19) hG dX3_glyphHolds_19 (sv_len_e g63) g64 hV65 ?_
    obtain ⟨x66, hx66⟩ : ∃ z : Int32, z = l2 + 1 := ⟨_, rfl⟩
    have h := sx_letE hx66 h
    refine sx_iinc (pc := 20) (v := x66) (lo' := [(2, .int x66), (0, .ref 16), (1, .int l1)]) dX3_glyphHolds_20 sx_m2 (by rw [hx66]; rfl) (by decide) rfl ?_
    refine sx_goto (pc := 23) (tgt := 2) dX3_glyphHolds_23 (by decide) ?_
    refine sx_wk (sx_s1 sx_m1 (sx_s1 sx_m2 (sx_s1 sx_m0 sx_s0))) ?_
    exact hk2 _ _ _ h
theorem tL_X3_glyphHolds_2 {g : sx_G} (hG : sx_Go g) {P : Option Value → sv_V → Prop} {r : Int32} {Vr : sv_V} (hP : P (some (.int r)) Vr) {N : Nat}   : ∀ (n : Nat) (l1 : Int32) (l2 : Int32) (V : sv_V), sx_lp3 (B_X3_glyphHolds_2 N ) n l1 l2 V = some (r, Vr) → sv_N g qX3_glyphHolds 4 2 [(0, .ref 16), (1, .int l1), (2, .int l2)] [] V P :=
  sx_lp3_ind (fun k0 ih _ _ V h => tB_X3_glyphHolds_2 hG hP ih h)
def F_X3_glyphHolds (N : Nat) (l1 : Int32) (V : sv_V) : Option (Int32 × sv_V) := sx_lp3 (B_X3_glyphHolds_2 N ) N l1 (2 : Int32) V
set_option maxRecDepth 20000 in
theorem t_X3_glyphHolds {g : sx_G} (hG : sx_Go g) {P : Option Value → sv_V → Prop} {r : Int32} {Vr : sv_V} (hP : P (some (.int r)) Vr) {N : Nat} {l1 : Int32} {V : sv_V} (h : F_X3_glyphHolds N l1 V = some (r, Vr)) : sv_N g qX3_glyphHolds 4 0 [(0, .ref 16), (1, .int l1)] [] V P := by
  unfold F_X3_glyphHolds at h
  refine sx_iconst (pc := 0) (v := 2) dX3_glyphHolds_0 (by decide) ?_
  refine sx_istore_n (pc := 1) (lo' := [(2, .int (2 : Int32)), (0, .ref 16), (1, .int l1)]) dX3_glyphHolds_1 (by decide) rfl ?_
  refine sx_wk (sx_s1 sx_m1 (sx_s1 sx_m2 (sx_s1 sx_m0 sx_s0))) ?_
  exact tL_X3_glyphHolds_2 hG hP  N _ _ _ h
def ncX3_depthsHold : Nat := 242891378222381577330796692413849025518912527763487698942962986617017407184575817828903451548275191935422564378011502171822093424973220548405280548275624354079014630636097517901536633225224376727239889156570391352981894186
theorem kcX3_depthsHold : CK cX3_depthsHold ncX3_depthsHold 92 := ⟨by decide +kernel, by decide +kernel⟩
theorem dX3_depthsHold_0 : decode cX3_depthsHold 0 = .ok (.aload_n 0, 1) := dl_o42 kcX3_depthsHold (by decide +kernel)
theorem dX3_depthsHold_1 : decode cX3_depthsHold 1 = .ok (.getfield 27, 3) := dl_o180 kcX3_depthsHold (by decide +kernel)
theorem dX3_depthsHold_4 : decode cX3_depthsHold 4 = .ok (.getfield 154, 3) := dl_o180 kcX3_depthsHold (by decide +kernel)
theorem dX3_depthsHold_7 : decode cX3_depthsHold 7 = .ok (.bipush 6, 2) := dl_o16 kcX3_depthsHold 6 (by decide +kernel) (by decide +kernel)
theorem dX3_depthsHold_9 : decode cX3_depthsHold 9 = .ok (.iaload, 1) := dl_o46 kcX3_depthsHold (by decide +kernel)
theorem dX3_depthsHold_10 : decode cX3_depthsHold 10 = .ok (.istore_n 1, 1) := dl_o60 kcX3_depthsHold (by decide +kernel)
theorem dX3_depthsHold_11 : decode cX3_depthsHold 11 = .ok (.aload_n 0, 1) := dl_o42 kcX3_depthsHold (by decide +kernel)
theorem dX3_depthsHold_12 : decode cX3_depthsHold 12 = .ok (.getfield 24, 3) := dl_o180 kcX3_depthsHold (by decide +kernel)
theorem dX3_depthsHold_15 : decode cX3_depthsHold 15 = .ok (.iconst 0, 1) := dl_o3 kcX3_depthsHold (by decide +kernel)
theorem dX3_depthsHold_16 : decode cX3_depthsHold 16 = .ok (.invokestatic 157, 3) := dl_o184 kcX3_depthsHold (by decide +kernel)
theorem dX3_depthsHold_19 : decode cX3_depthsHold 19 = .ok (.iconst 0, 1) := dl_o3 kcX3_depthsHold (by decide +kernel)
theorem dX3_depthsHold_20 : decode cX3_depthsHold 20 = .ok (.istore_n 2, 1) := dl_o61 kcX3_depthsHold (by decide +kernel)
theorem dX3_depthsHold_21 : decode cX3_depthsHold 21 = .ok (.iload_n 2, 1) := dl_o28 kcX3_depthsHold (by decide +kernel)
theorem dX3_depthsHold_22 : decode cX3_depthsHold 22 = .ok (.iload_n 1, 1) := dl_o27 kcX3_depthsHold (by decide +kernel)
theorem dX3_depthsHold_23 : decode cX3_depthsHold 23 = .ok (.if_icmp .gt 67, 3) := dl_o163 kcX3_depthsHold 67 (by decide +kernel) (by decide +kernel)
theorem dX3_depthsHold_26 : decode cX3_depthsHold 26 = .ok (.iconst 0, 1) := dl_o3 kcX3_depthsHold (by decide +kernel)
theorem dX3_depthsHold_27 : decode cX3_depthsHold 27 = .ok (.istore_n 3, 1) := dl_o62 kcX3_depthsHold (by decide +kernel)
theorem dX3_depthsHold_28 : decode cX3_depthsHold 28 = .ok (.iload_n 3, 1) := dl_o29 kcX3_depthsHold (by decide +kernel)
theorem dX3_depthsHold_29 : decode cX3_depthsHold 29 = .ok (.aload_n 0, 1) := dl_o42 kcX3_depthsHold (by decide +kernel)
theorem dX3_depthsHold_30 : decode cX3_depthsHold 30 = .ok (.getfield 27, 3) := dl_o180 kcX3_depthsHold (by decide +kernel)
theorem dX3_depthsHold_33 : decode cX3_depthsHold 33 = .ok (.getfield 31, 3) := dl_o180 kcX3_depthsHold (by decide +kernel)
theorem dX3_depthsHold_36 : decode cX3_depthsHold 36 = .ok (.if_icmp .ge 48, 3) := dl_o162 kcX3_depthsHold 48 (by decide +kernel) (by decide +kernel)
theorem dX3_depthsHold_39 : decode cX3_depthsHold 39 = .ok (.aload_n 0, 1) := dl_o42 kcX3_depthsHold (by decide +kernel)
theorem dX3_depthsHold_40 : decode cX3_depthsHold 40 = .ok (.getfield 27, 3) := dl_o180 kcX3_depthsHold (by decide +kernel)
theorem dX3_depthsHold_43 : decode cX3_depthsHold 43 = .ok (.getfield 45, 3) := dl_o180 kcX3_depthsHold (by decide +kernel)
theorem dX3_depthsHold_46 : decode cX3_depthsHold 46 = .ok (.iconst 5, 1) := dl_o8 kcX3_depthsHold (by decide +kernel)
theorem dX3_depthsHold_47 : decode cX3_depthsHold 47 = .ok (.aaload, 1) := dl_o50 kcX3_depthsHold (by decide +kernel)
theorem dX3_depthsHold_48 : decode cX3_depthsHold 48 = .ok (.iload_n 3, 1) := dl_o29 kcX3_depthsHold (by decide +kernel)
theorem dX3_depthsHold_49 : decode cX3_depthsHold 49 = .ok (.iaload, 1) := dl_o46 kcX3_depthsHold (by decide +kernel)
theorem dX3_depthsHold_50 : decode cX3_depthsHold 50 = .ok (.ifCond .le 16, 3) := dl_o158 kcX3_depthsHold 16 (by decide +kernel) (by decide +kernel)
theorem dX3_depthsHold_53 : decode cX3_depthsHold 53 = .ok (.aload_n 0, 1) := dl_o42 kcX3_depthsHold (by decide +kernel)
theorem dX3_depthsHold_54 : decode cX3_depthsHold 54 = .ok (.getfield 24, 3) := dl_o180 kcX3_depthsHold (by decide +kernel)
theorem dX3_depthsHold_57 : decode cX3_depthsHold 57 = .ok (.iload_n 3, 1) := dl_o29 kcX3_depthsHold (by decide +kernel)
theorem dX3_depthsHold_58 : decode cX3_depthsHold 58 = .ok (.iconst 1, 1) := dl_o4 kcX3_depthsHold (by decide +kernel)
theorem dX3_depthsHold_59 : decode cX3_depthsHold 59 = .ok (.aload_n 0, 1) := dl_o42 kcX3_depthsHold (by decide +kernel)
theorem dX3_depthsHold_60 : decode cX3_depthsHold 60 = .ok (.iload_n 3, 1) := dl_o29 kcX3_depthsHold (by decide +kernel)
theorem dX3_depthsHold_61 : decode cX3_depthsHold 61 = .ok (.invokevirtual 163, 3) := dl_o182 kcX3_depthsHold (by decide +kernel)
theorem dX3_depthsHold_64 : decode cX3_depthsHold 64 = .ok (.iadd, 1) := dl_o96 kcX3_depthsHold (by decide +kernel)
theorem dX3_depthsHold_65 : decode cX3_depthsHold 65 = .ok (.iastore, 1) := dl_o79 kcX3_depthsHold (by decide +kernel)
theorem dX3_depthsHold_66 : decode cX3_depthsHold 66 = .ok (.aload_n 0, 1) := dl_o42 kcX3_depthsHold (by decide +kernel)
theorem dX3_depthsHold_67 : decode cX3_depthsHold 67 = .ok (.getfield 24, 3) := dl_o180 kcX3_depthsHold (by decide +kernel)
theorem dX3_depthsHold_70 : decode cX3_depthsHold 70 = .ok (.iload_n 3, 1) := dl_o29 kcX3_depthsHold (by decide +kernel)
theorem dX3_depthsHold_71 : decode cX3_depthsHold 71 = .ok (.iaload, 1) := dl_o46 kcX3_depthsHold (by decide +kernel)
theorem dX3_depthsHold_72 : decode cX3_depthsHold 72 = .ok (.iload_n 1, 1) := dl_o27 kcX3_depthsHold (by decide +kernel)
theorem dX3_depthsHold_73 : decode cX3_depthsHold 73 = .ok (.if_icmp .le 5, 3) := dl_o164 kcX3_depthsHold 5 (by decide +kernel) (by decide +kernel)
theorem dX3_depthsHold_76 : decode cX3_depthsHold 76 = .ok (.iconst 0, 1) := dl_o3 kcX3_depthsHold (by decide +kernel)
theorem dX3_depthsHold_77 : decode cX3_depthsHold 77 = .ok (.ireturn, 1) := dl_o172 kcX3_depthsHold (by decide +kernel)
theorem dX3_depthsHold_78 : decode cX3_depthsHold 78 = .ok (.iinc 3 1, 3) := by decide +kernel
theorem dX3_depthsHold_81 : decode cX3_depthsHold 81 = .ok (.goto (-53), 3) := dl_o167 kcX3_depthsHold 65483 (by decide +kernel) (by decide +kernel)
theorem dX3_depthsHold_84 : decode cX3_depthsHold 84 = .ok (.iinc 2 1, 3) := by decide +kernel
theorem dX3_depthsHold_87 : decode cX3_depthsHold 87 = .ok (.goto (-66), 3) := dl_o167 kcX3_depthsHold 65470 (by decide +kernel) (by decide +kernel)
theorem dX3_depthsHold_90 : decode cX3_depthsHold 90 = .ok (.iconst 1, 1) := dl_o4 kcX3_depthsHold (by decide +kernel)
theorem dX3_depthsHold_91 : decode cX3_depthsHold 91 = .ok (.ireturn, 1) := dl_o172 kcX3_depthsHold (by decide +kernel)
def B_X3_depthsHold_66 (N : Nat) (k21 : Int32 → Int32 → sv_V → Option (Int32 × sv_V)) (k28 : Int32 → Int32 → Int32 → sv_V → Option (Int32 × sv_V)) (l1 : Int32) (l2 : Int32) (l3 : Int32) (V : sv_V) : Option (Int32 × sv_V) := if sx_in l3 200 = true then if (V.1 28 l3.toNatClampNeg) ≤ l1 then (sx_let (l3 + 1) (fun x3 => k28 l1 l2 x3 V)) else (some ((0 : Int32), V)) else none
set_option maxRecDepth 20000 in
theorem tB_X3_depthsHold_66 {g : sx_G} (hG : sx_Go g) {P : Option Value → sv_V → Prop} {r : Int32} {Vr : sv_V} (hP : P (some (.int r)) Vr) {N : Nat} {k21 : Int32 → Int32 → sv_V → Option (Int32 × sv_V)} {k28 : Int32 → Int32 → Int32 → sv_V → Option (Int32 × sv_V)} (hk21 : ∀ (l1 : Int32) (l2 : Int32) (V : sv_V), k21 l1 l2 V = some (r, Vr) → sv_N g qX3_depthsHold 4 21 [(0, .ref 16), (1, .int l1), (2, .int l2)] [] V P) (hk28 : ∀ (l1 : Int32) (l2 : Int32) (l3 : Int32) (V : sv_V), k28 l1 l2 l3 V = some (r, Vr) → sv_N g qX3_depthsHold 4 28 [(0, .ref 16), (1, .int l1), (2, .int l2), (3, .int l3)] [] V P) {l1 : Int32} {l2 : Int32} {l3 : Int32} {V : sv_V} (h : B_X3_depthsHold_66 N k21 k28 l1 l2 l3 V = some (r, Vr)) : sv_N g qX3_depthsHold 4 66 [(0, .ref 16), (1, .int l1), (2, .int l2), (3, .int l3)] [] V P := by
  unfold B_X3_depthsHold_66 at h
  refine sx_aload_n (pc := 66) dX3_depthsHold_66 sx_m0 ?_
  refine sv_getA (pc := 67) hG dX3_depthsHold_67 f_3_24 lay_16 rfl cr_16_3 ?_
  refine sx_iload_n (pc := 70) dX3_depthsHold_70 sx_m3 ?_
  obtain ⟨g1, h⟩ := sx_grd h
  refine sv_iald (pc := 71) hG dX3_depthsHold_71 lay_28 g1 ?_
  refine sx_iload_n (pc := 72) dX3_depthsHold_72 sx_m1 ?_
  refine sx_icmp_le (pc := 73) (tgt := 78) dX3_depthsHold_73 (by decide) (fun c2 => ?_) (fun c2 => ?_)
  · have h := sx_pos c2 h
    obtain ⟨x3, hx3⟩ : ∃ z : Int32, z = l3 + 1 := ⟨_, rfl⟩
    have h := sx_letE hx3 h
    refine sx_iinc (pc := 78) (v := x3) (lo' := [(3, .int x3), (0, .ref 16), (1, .int l1), (2, .int l2)]) dX3_depthsHold_78 sx_m3 (by rw [hx3]; rfl) (by decide) rfl ?_
    refine sx_goto (pc := 81) (tgt := 28) dX3_depthsHold_81 (by decide) ?_
    refine sx_wk (sx_s1 sx_m1 (sx_s1 sx_m2 (sx_s1 sx_m3 (sx_s1 sx_m0 sx_s0)))) ?_
    exact hk28 _ _ _ _ h
  · have h := sx_neg c2 h
    refine sx_iconst (pc := 76) (v := 0) dX3_depthsHold_76 (by decide) ?_
    exact sv_zret (pc := 77) dX3_depthsHold_77 rfl rfl h hP
def B_X3_depthsHold_28 (N : Nat) (k21 : Int32 → Int32 → sv_V → Option (Int32 × sv_V)) (k28 : Int32 → Int32 → Int32 → sv_V → Option (Int32 × sv_V)) (l1 : Int32) (l2 : Int32) (l3 : Int32) (V : sv_V) : Option (Int32 × sv_V) := if (V.1 2 7) ≤ l3 then (sx_let (l2 + 1) (fun x5 => k21 l1 x5 V)) else ((cr 7 (5 : Int32).toNatClampNeg).bind (fun b6 => (sv_len 0 b6).bind (fun n8 => if sx_in l3 n8 = true then if (V.1 b6 l3.toNatClampNeg) ≤ 0 then (B_X3_depthsHold_66 N k21 k28 l1 l2 l3 V) else ((F_X3_deepestPart N l3 V).bind (fun (x14, V12) => if sx_in l3 200 = true then sx_let (sv_I V12 28 l3.toNatClampNeg ((1 : Int32) + x14)) (fun V16 => B_X3_depthsHold_66 N k21 k28 l1 l2 l3 V16) else none)) else none)))
set_option maxRecDepth 20000 in
theorem tB_X3_depthsHold_28 {g : sx_G} (hG : sx_Go g) {P : Option Value → sv_V → Prop} {r : Int32} {Vr : sv_V} (hP : P (some (.int r)) Vr) {N : Nat} {k21 : Int32 → Int32 → sv_V → Option (Int32 × sv_V)} {k28 : Int32 → Int32 → Int32 → sv_V → Option (Int32 × sv_V)} (hk21 : ∀ (l1 : Int32) (l2 : Int32) (V : sv_V), k21 l1 l2 V = some (r, Vr) → sv_N g qX3_depthsHold 4 21 [(0, .ref 16), (1, .int l1), (2, .int l2)] [] V P) (hk28 : ∀ (l1 : Int32) (l2 : Int32) (l3 : Int32) (V : sv_V), k28 l1 l2 l3 V = some (r, Vr) → sv_N g qX3_depthsHold 4 28 [(0, .ref 16), (1, .int l1), (2, .int l2), (3, .int l3)] [] V P) {l1 : Int32} {l2 : Int32} {l3 : Int32} {V : sv_V} (h : B_X3_depthsHold_28 N k21 k28 l1 l2 l3 V = some (r, Vr)) : sv_N g qX3_depthsHold 4 28 [(0, .ref 16), (1, .int l1), (2, .int l2), (3, .int l3)] [] V P := by
  unfold B_X3_depthsHold_28 at h
  refine sx_iload_n (pc := 28) dX3_depthsHold_28 sx_m3 ?_
  refine sx_aload_n (pc := 29) dX3_depthsHold_29 sx_m0 ?_
  refine sv_getO (pc := 30) hG dX3_depthsHold_30 f_3_27 lay_16 rfl cr_16_0 ?_
  refine sv_getI (pc := 33) hG dX3_depthsHold_33 f_3_31 lay_2 rfl ?_
  refine sx_icmp_ge (pc := 36) (tgt := 84) dX3_depthsHold_36 (by decide) (fun c4 => ?_) (fun c4 => ?_)
  · have h := sx_pos c4 h
    obtain ⟨x5, hx5⟩ : ∃ z : Int32, z = l2 + 1 := ⟨_, rfl⟩
    have h := sx_letE hx5 h
    refine sx_iinc (pc := 84) (v := x5) (lo' := [(2, .int x5), (0, .ref 16), (1, .int l1), (3, .int l3)]) dX3_depthsHold_84 sx_m2 (by rw [hx5]; rfl) (by decide) rfl ?_
    refine sx_goto (pc := 87) (tgt := 21) dX3_depthsHold_87 (by decide) ?_
    refine sx_wk (sx_s1 sx_m1 (sx_s1 sx_m2 (sx_s1 sx_m0 sx_s0))) ?_
    exact hk21 _ _ _ h
  · have h := sx_neg c4 h
    refine sx_aload_n (pc := 39) dX3_depthsHold_39 sx_m0 ?_
    refine sv_getO (pc := 40) hG dX3_depthsHold_40 f_3_27 lay_16 rfl cr_16_0 ?_
    refine sv_getA (pc := 43) hG dX3_depthsHold_43 f_3_45 lay_2 rfl cr_2_16 ?_
    refine sx_iconst (pc := 46) (v := 5) dX3_depthsHold_46 (by decide) ?_
    obtain ⟨b6, g7, h⟩ := sx_bnd h
    refine sv_aald (pc := 47) hG dX3_depthsHold_47 (by decide) lay_7 (by decide) g7 ?_
    refine sx_iload_n (pc := 48) dX3_depthsHold_48 sx_m3 ?_
    obtain ⟨n8, g9, h⟩ := sx_bnd h
    obtain ⟨g10, h⟩ := sx_grd h
    refine sv_iald (pc := 49) hG dX3_depthsHold_49 (sv_len_e g9) g10 ?_
    refine sx_if_le (pc := 50) (tgt := 66) dX3_depthsHold_50 (by decide) (fun c11 => ?_) (fun c11 => ?_)
    · have h := sx_pos c11 h
      refine sx_wk (sx_s1 sx_m0 (sx_s1 sx_m1 (sx_s1 sx_m2 (sx_s1 sx_m3 sx_s0)))) ?_
      exact tB_X3_depthsHold_66 hG hP hk21 hk28 h
    · have h := sx_neg c11 h
      refine sx_aload_n (pc := 53) dX3_depthsHold_53 sx_m0 ?_
      refine sv_getA (pc := 54) hG dX3_depthsHold_54 f_3_24 lay_16 rfl cr_16_3 ?_
      refine sx_iload_n (pc := 57) dX3_depthsHold_57 sx_m3 ?_
      refine sx_iconst (pc := 58) (v := 1) dX3_depthsHold_58 (by decide) ?_
      refine sx_aload_n (pc := 59) dX3_depthsHold_59 sx_m0 ?_
      refine sx_iload_n (pc := 60) dX3_depthsHold_60 sx_m3 ?_
      obtain ⟨⟨x14, V12⟩, g13, h⟩ := sx_bnd h
      refine sv_cV (pc := 61) (y := qX3_deepestPart) (o := (some (.int x14))) (as := [.int l3]) (V1 := V12) hG dX3_depthsHold_61 l_X3_163 y0X3_deepestPart yvX3_deepestPart rfl (Nat.le_of_ble_eq_true rfl) lay_16 kr_3 (by decide) (Nat.le_of_ble_eq_true rfl) rfl rfl rfl (t_X3_deepestPart hG ⟨rfl, rfl⟩ g13) ?_
      refine sx_iadd (pc := 64) dX3_depthsHold_64 ?_
      obtain ⟨g15, h⟩ := sx_grd h
      obtain ⟨V16, hV16⟩ : ∃ z : sv_V, z = sv_I V12 28 l3.toNatClampNeg ((1 : Int32) + x14) := ⟨_, rfl⟩
      have h := sx_letE hV16 h
      refine sv_iast (pc := 65) hG dX3_depthsHold_65 lay_28 g15 hV16 ?_
      refine sx_wk (sx_s1 sx_m0 (sx_s1 sx_m1 (sx_s1 sx_m2 (sx_s1 sx_m3 sx_s0)))) ?_
      exact tB_X3_depthsHold_66 hG hP hk21 hk28 h
theorem tL_X3_depthsHold_28 {g : sx_G} (hG : sx_Go g) {P : Option Value → sv_V → Prop} {r : Int32} {Vr : sv_V} (hP : P (some (.int r)) Vr) {N : Nat} {k21 : Int32 → Int32 → sv_V → Option (Int32 × sv_V)} (hk21 : ∀ (l1 : Int32) (l2 : Int32) (V : sv_V), k21 l1 l2 V = some (r, Vr) → sv_N g qX3_depthsHold 4 21 [(0, .ref 16), (1, .int l1), (2, .int l2)] [] V P) : ∀ (n : Nat) (l1 : Int32) (l2 : Int32) (l3 : Int32) (V : sv_V), sx_lp4 (B_X3_depthsHold_28 N k21) n l1 l2 l3 V = some (r, Vr) → sv_N g qX3_depthsHold 4 28 [(0, .ref 16), (1, .int l1), (2, .int l2), (3, .int l3)] [] V P :=
  sx_lp4_ind (fun k0 ih _ _ _ V h => tB_X3_depthsHold_28 hG hP hk21 ih h)
def B_X3_depthsHold_21 (N : Nat) (k21 : Int32 → Int32 → sv_V → Option (Int32 × sv_V)) (l1 : Int32) (l2 : Int32) (V : sv_V) : Option (Int32 × sv_V) := if l1 < l2 then (some ((1 : Int32), V)) else (sx_lp4 (B_X3_depthsHold_28 N k21) N l1 l2 (0 : Int32) V)
set_option maxRecDepth 20000 in
theorem tB_X3_depthsHold_21 {g : sx_G} (hG : sx_Go g) {P : Option Value → sv_V → Prop} {r : Int32} {Vr : sv_V} (hP : P (some (.int r)) Vr) {N : Nat} {k21 : Int32 → Int32 → sv_V → Option (Int32 × sv_V)} (hk21 : ∀ (l1 : Int32) (l2 : Int32) (V : sv_V), k21 l1 l2 V = some (r, Vr) → sv_N g qX3_depthsHold 4 21 [(0, .ref 16), (1, .int l1), (2, .int l2)] [] V P) {l1 : Int32} {l2 : Int32} {V : sv_V} (h : B_X3_depthsHold_21 N k21 l1 l2 V = some (r, Vr)) : sv_N g qX3_depthsHold 4 21 [(0, .ref 16), (1, .int l1), (2, .int l2)] [] V P := by
  unfold B_X3_depthsHold_21 at h
  refine sx_iload_n (pc := 21) dX3_depthsHold_21 sx_m2 ?_
  refine sx_iload_n (pc := 22) dX3_depthsHold_22 sx_m1 ?_
  refine sx_icmp_gt (pc := 23) (tgt := 90) dX3_depthsHold_23 (by decide) (fun c17 => ?_) (fun c17 => ?_)
  · have h := sx_pos c17 h
    refine sx_iconst (pc := 90) (v := 1) dX3_depthsHold_90 (by decide) ?_
    exact sv_zret (pc := 91) dX3_depthsHold_91 rfl rfl h hP
  · have h := sx_neg c17 h
    refine sx_iconst (pc := 26) (v := 0) dX3_depthsHold_26 (by decide) ?_
    refine sx_istore_n (pc := 27) (lo' := [(3, .int (0 : Int32)), (0, .ref 16), (1, .int l1), (2, .int l2)]) dX3_depthsHold_27 (by decide) rfl ?_
    refine sx_wk (sx_s1 sx_m1 (sx_s1 sx_m2 (sx_s1 sx_m3 (sx_s1 sx_m0 sx_s0)))) ?_
    exact tL_X3_depthsHold_28 hG hP hk21 N _ _ _ _ h
theorem tL_X3_depthsHold_21 {g : sx_G} (hG : sx_Go g) {P : Option Value → sv_V → Prop} {r : Int32} {Vr : sv_V} (hP : P (some (.int r)) Vr) {N : Nat}   : ∀ (n : Nat) (l1 : Int32) (l2 : Int32) (V : sv_V), sx_lp3 (B_X3_depthsHold_21 N ) n l1 l2 V = some (r, Vr) → sv_N g qX3_depthsHold 4 21 [(0, .ref 16), (1, .int l1), (2, .int l2)] [] V P :=
  sx_lp3_ind (fun k0 ih _ _ V h => tB_X3_depthsHold_21 hG hP ih h)
def F_X3_depthsHold (N : Nat)  (V : sv_V) : Option (Int32 × sv_V) := sx_let (V.1 6 (6 : Int32).toNatClampNeg) (fun x18 => (F_J7_fill_53178 N 28 (0 : Int32) V).bind (fun V19 => sx_lp3 (B_X3_depthsHold_21 N ) N x18 (0 : Int32) V19))
set_option maxRecDepth 20000 in
theorem t_X3_depthsHold {g : sx_G} (hG : sx_Go g) {P : Option Value → sv_V → Prop} {r : Int32} {Vr : sv_V} (hP : P (some (.int r)) Vr) {N : Nat}  {V : sv_V} (h : F_X3_depthsHold N  V = some (r, Vr)) : sv_N g qX3_depthsHold 4 0 [(0, .ref 16)] [] V P := by
  unfold F_X3_depthsHold at h
  refine sx_aload_n (pc := 0) dX3_depthsHold_0 sx_m0 ?_
  refine sv_getO (pc := 1) hG dX3_depthsHold_1 f_3_27 lay_16 rfl cr_16_0 ?_
  refine sv_getA (pc := 4) hG dX3_depthsHold_4 f_3_154 lay_2 rfl cr_2_10 ?_
  refine sx_bipush (pc := 7) (v := 6) dX3_depthsHold_7 (by decide) ?_
  refine sv_iald (pc := 9) hG dX3_depthsHold_9 lay_6 (by decide) ?_
  refine sv_tI (fun x18 hx18 => ?_)
  have h := sx_letE hx18 h
  refine sx_istore_n (pc := 10) (lo' := [(1, .int x18), (0, .ref 16)]) dX3_depthsHold_10 (by decide) rfl ?_
  refine sx_aload_n (pc := 11) dX3_depthsHold_11 sx_m1 ?_
  refine sv_getA (pc := 12) hG dX3_depthsHold_12 f_3_24 lay_16 rfl cr_16_3 ?_
  refine sx_iconst (pc := 15) (v := 0) dX3_depthsHold_15 (by decide) ?_
  obtain ⟨V19, g20, h⟩ := sx_bnd h
  refine sv_cS (pc := 16) (y := qJ7_fill_53178) (o := none) (as := [.ref 28, .int (0 : Int32)]) (V1 := V19) dX3_depthsHold_16 l_X3_157 y0J7_fill_53178 ysJ7_fill_53178 rfl (Nat.le_of_ble_eq_true rfl) (by decide) (Nat.le_of_ble_eq_true rfl) rfl rfl rfl (t_J7_fill_53178 hG ⟨rfl, rfl⟩ g20) ?_
  refine sx_iconst (pc := 19) (v := 0) dX3_depthsHold_19 (by decide) ?_
  refine sx_istore_n (pc := 20) (lo' := [(2, .int (0 : Int32)), (1, .int x18), (0, .ref 16)]) dX3_depthsHold_20 (by decide) rfl ?_
  refine sx_wk (sx_s1 sx_m2 (sx_s1 sx_m1 (sx_s1 sx_m0 sx_s0))) ?_
  exact tL_X3_depthsHold_21 hG hP  N _ _ _ h
def ncX4_tablesLieRight : Nat := 1261160448375558242109778965384555426924175500966045911691046803368950801011947341671958526483486178226999957936918351261335878017904572128684945071122950897431327125833783510451174798537437767319747441157444646951075176194627884470469483956101059272457219
theorem kcX4_tablesLieRight : CK cX4_tablesLieRight ncX4_tablesLieRight 106 := ⟨by decide +kernel, by decide +kernel⟩
theorem dX4_tablesLieRight_0 : decode cX4_tablesLieRight 0 = .ok (.iconst 0, 1) := dl_o3 kcX4_tablesLieRight (by decide +kernel)
theorem dX4_tablesLieRight_1 : decode cX4_tablesLieRight 1 = .ok (.istore_n 1, 1) := dl_o60 kcX4_tablesLieRight (by decide +kernel)
theorem dX4_tablesLieRight_2 : decode cX4_tablesLieRight 2 = .ok (.iload_n 1, 1) := dl_o27 kcX4_tablesLieRight (by decide +kernel)
theorem dX4_tablesLieRight_3 : decode cX4_tablesLieRight 3 = .ok (.aload_n 0, 1) := dl_o42 kcX4_tablesLieRight (by decide +kernel)
theorem dX4_tablesLieRight_4 : decode cX4_tablesLieRight 4 = .ok (.getfield 9, 3) := dl_o180 kcX4_tablesLieRight (by decide +kernel)
theorem dX4_tablesLieRight_7 : decode cX4_tablesLieRight 7 = .ok (.getfield 80, 3) := dl_o180 kcX4_tablesLieRight (by decide +kernel)
theorem dX4_tablesLieRight_10 : decode cX4_tablesLieRight 10 = .ok (.if_icmp .ge 94, 3) := dl_o162 kcX4_tablesLieRight 94 (by decide +kernel) (by decide +kernel)
theorem dX4_tablesLieRight_13 : decode cX4_tablesLieRight 13 = .ok (.aload_n 0, 1) := dl_o42 kcX4_tablesLieRight (by decide +kernel)
theorem dX4_tablesLieRight_14 : decode cX4_tablesLieRight 14 = .ok (.iload_n 1, 1) := dl_o27 kcX4_tablesLieRight (by decide +kernel)
theorem dX4_tablesLieRight_15 : decode cX4_tablesLieRight 15 = .ok (.iconst 2, 1) := dl_o5 kcX4_tablesLieRight (by decide +kernel)
theorem dX4_tablesLieRight_16 : decode cX4_tablesLieRight 16 = .ok (.invokevirtual 83, 3) := dl_o182 kcX4_tablesLieRight (by decide +kernel)
theorem dX4_tablesLieRight_19 : decode cX4_tablesLieRight 19 = .ok (.lstore_n 2, 1) := dl_o65 kcX4_tablesLieRight (by decide +kernel)
theorem dX4_tablesLieRight_20 : decode cX4_tablesLieRight 20 = .ok (.lload_n 2, 1) := dl_o32 kcX4_tablesLieRight (by decide +kernel)
theorem dX4_tablesLieRight_21 : decode cX4_tablesLieRight 21 = .ok (.ldc2_w 87, 3) := dl_o20 kcX4_tablesLieRight (by decide +kernel)
theorem dX4_tablesLieRight_24 : decode cX4_tablesLieRight 24 = .ok (.lrem, 1) := dl_o113 kcX4_tablesLieRight (by decide +kernel)
theorem dX4_tablesLieRight_25 : decode cX4_tablesLieRight 25 = .ok (.lconst 0, 1) := dl_o9 kcX4_tablesLieRight (by decide +kernel)
theorem dX4_tablesLieRight_26 : decode cX4_tablesLieRight 26 = .ok (.lcmp, 1) := dl_o148 kcX4_tablesLieRight (by decide +kernel)
theorem dX4_tablesLieRight_27 : decode cX4_tablesLieRight 27 = .ok (.ifCond .ne 42, 3) := dl_o154 kcX4_tablesLieRight 42 (by decide +kernel) (by decide +kernel)
theorem dX4_tablesLieRight_30 : decode cX4_tablesLieRight 30 = .ok (.lload_n 2, 1) := dl_o32 kcX4_tablesLieRight (by decide +kernel)
theorem dX4_tablesLieRight_31 : decode cX4_tablesLieRight 31 = .ok (.bipush 12, 2) := dl_o16 kcX4_tablesLieRight 12 (by decide +kernel) (by decide +kernel)
theorem dX4_tablesLieRight_33 : decode cX4_tablesLieRight 33 = .ok (.bipush 16, 2) := dl_o16 kcX4_tablesLieRight 16 (by decide +kernel) (by decide +kernel)
theorem dX4_tablesLieRight_35 : decode cX4_tablesLieRight 35 = .ok (.aload_n 0, 1) := dl_o42 kcX4_tablesLieRight (by decide +kernel)
theorem dX4_tablesLieRight_36 : decode cX4_tablesLieRight 36 = .ok (.getfield 9, 3) := dl_o180 kcX4_tablesLieRight (by decide +kernel)
theorem dX4_tablesLieRight_39 : decode cX4_tablesLieRight 39 = .ok (.getfield 80, 3) := dl_o180 kcX4_tablesLieRight (by decide +kernel)
theorem dX4_tablesLieRight_42 : decode cX4_tablesLieRight 42 = .ok (.imul, 1) := dl_o104 kcX4_tablesLieRight (by decide +kernel)
theorem dX4_tablesLieRight_43 : decode cX4_tablesLieRight 43 = .ok (.iadd, 1) := dl_o96 kcX4_tablesLieRight (by decide +kernel)
theorem dX4_tablesLieRight_44 : decode cX4_tablesLieRight 44 = .ok (.i2l, 1) := dl_o133 kcX4_tablesLieRight (by decide +kernel)
theorem dX4_tablesLieRight_45 : decode cX4_tablesLieRight 45 = .ok (.lcmp, 1) := dl_o148 kcX4_tablesLieRight (by decide +kernel)
theorem dX4_tablesLieRight_46 : decode cX4_tablesLieRight 46 = .ok (.ifCond .lt 23, 3) := dl_o155 kcX4_tablesLieRight 23 (by decide +kernel) (by decide +kernel)
theorem dX4_tablesLieRight_49 : decode cX4_tablesLieRight 49 = .ok (.lload_n 2, 1) := dl_o32 kcX4_tablesLieRight (by decide +kernel)
theorem dX4_tablesLieRight_50 : decode cX4_tablesLieRight 50 = .ok (.aload_n 0, 1) := dl_o42 kcX4_tablesLieRight (by decide +kernel)
theorem dX4_tablesLieRight_51 : decode cX4_tablesLieRight 51 = .ok (.iload_n 1, 1) := dl_o27 kcX4_tablesLieRight (by decide +kernel)
theorem dX4_tablesLieRight_52 : decode cX4_tablesLieRight 52 = .ok (.iconst 3, 1) := dl_o6 kcX4_tablesLieRight (by decide +kernel)
theorem dX4_tablesLieRight_53 : decode cX4_tablesLieRight 53 = .ok (.invokevirtual 83, 3) := dl_o182 kcX4_tablesLieRight (by decide +kernel)
theorem dX4_tablesLieRight_56 : decode cX4_tablesLieRight 56 = .ok (.ladd, 1) := dl_o97 kcX4_tablesLieRight (by decide +kernel)
theorem dX4_tablesLieRight_57 : decode cX4_tablesLieRight 57 = .ok (.aload_n 0, 1) := dl_o42 kcX4_tablesLieRight (by decide +kernel)
theorem dX4_tablesLieRight_58 : decode cX4_tablesLieRight 58 = .ok (.getfield 9, 3) := dl_o180 kcX4_tablesLieRight (by decide +kernel)
theorem dX4_tablesLieRight_61 : decode cX4_tablesLieRight 61 = .ok (.getfield 70, 3) := dl_o180 kcX4_tablesLieRight (by decide +kernel)
theorem dX4_tablesLieRight_64 : decode cX4_tablesLieRight 64 = .ok (.i2l, 1) := dl_o133 kcX4_tablesLieRight (by decide +kernel)
theorem dX4_tablesLieRight_65 : decode cX4_tablesLieRight 65 = .ok (.lcmp, 1) := dl_o148 kcX4_tablesLieRight (by decide +kernel)
theorem dX4_tablesLieRight_66 : decode cX4_tablesLieRight 66 = .ok (.ifCond .le 5, 3) := dl_o158 kcX4_tablesLieRight 5 (by decide +kernel) (by decide +kernel)
theorem dX4_tablesLieRight_69 : decode cX4_tablesLieRight 69 = .ok (.iconst 0, 1) := dl_o3 kcX4_tablesLieRight (by decide +kernel)
theorem dX4_tablesLieRight_70 : decode cX4_tablesLieRight 70 = .ok (.ireturn, 1) := dl_o172 kcX4_tablesLieRight (by decide +kernel)
theorem dX4_tablesLieRight_71 : decode cX4_tablesLieRight 71 = .ok (.iconst 0, 1) := dl_o3 kcX4_tablesLieRight (by decide +kernel)
theorem dX4_tablesLieRight_72 : decode cX4_tablesLieRight 72 = .ok (.istore 4, 2) := dl_o54 kcX4_tablesLieRight (by decide +kernel)
theorem dX4_tablesLieRight_74 : decode cX4_tablesLieRight 74 = .ok (.iload 4, 2) := dl_o21 kcX4_tablesLieRight (by decide +kernel)
theorem dX4_tablesLieRight_76 : decode cX4_tablesLieRight 76 = .ok (.iload_n 1, 1) := dl_o27 kcX4_tablesLieRight (by decide +kernel)
theorem dX4_tablesLieRight_77 : decode cX4_tablesLieRight 77 = .ok (.if_icmp .ge 21, 3) := dl_o162 kcX4_tablesLieRight 21 (by decide +kernel) (by decide +kernel)
theorem dX4_tablesLieRight_80 : decode cX4_tablesLieRight 80 = .ok (.aload_n 0, 1) := dl_o42 kcX4_tablesLieRight (by decide +kernel)
theorem dX4_tablesLieRight_81 : decode cX4_tablesLieRight 81 = .ok (.iload 4, 2) := dl_o21 kcX4_tablesLieRight (by decide +kernel)
theorem dX4_tablesLieRight_83 : decode cX4_tablesLieRight 83 = .ok (.iload_n 1, 1) := dl_o27 kcX4_tablesLieRight (by decide +kernel)
theorem dX4_tablesLieRight_84 : decode cX4_tablesLieRight 84 = .ok (.invokevirtual 89, 3) := dl_o182 kcX4_tablesLieRight (by decide +kernel)
theorem dX4_tablesLieRight_87 : decode cX4_tablesLieRight 87 = .ok (.ifCond .eq 5, 3) := dl_o153 kcX4_tablesLieRight 5 (by decide +kernel) (by decide +kernel)
theorem dX4_tablesLieRight_90 : decode cX4_tablesLieRight 90 = .ok (.iconst 0, 1) := dl_o3 kcX4_tablesLieRight (by decide +kernel)
theorem dX4_tablesLieRight_91 : decode cX4_tablesLieRight 91 = .ok (.ireturn, 1) := dl_o172 kcX4_tablesLieRight (by decide +kernel)
theorem dX4_tablesLieRight_92 : decode cX4_tablesLieRight 92 = .ok (.iinc 4 1, 3) := by decide +kernel
theorem dX4_tablesLieRight_95 : decode cX4_tablesLieRight 95 = .ok (.goto (-21), 3) := dl_o167 kcX4_tablesLieRight 65515 (by decide +kernel) (by decide +kernel)
theorem dX4_tablesLieRight_98 : decode cX4_tablesLieRight 98 = .ok (.iinc 1 1, 3) := by decide +kernel
theorem dX4_tablesLieRight_101 : decode cX4_tablesLieRight 101 = .ok (.goto (-99), 3) := dl_o167 kcX4_tablesLieRight 65437 (by decide +kernel) (by decide +kernel)
theorem dX4_tablesLieRight_104 : decode cX4_tablesLieRight 104 = .ok (.iconst 1, 1) := dl_o4 kcX4_tablesLieRight (by decide +kernel)
theorem dX4_tablesLieRight_105 : decode cX4_tablesLieRight 105 = .ok (.ireturn, 1) := dl_o172 kcX4_tablesLieRight (by decide +kernel)
def B_X4_tablesLieRight_74 (N : Nat) (k2 : Int32 → sv_V → Option (Int32 × sv_V)) (k74 : Int32 → Int32 → sv_V → Option (Int32 × sv_V)) (l1 : Int32) (l4 : Int32) (V : sv_V) : Option (Int32 × sv_V) := if l1 ≤ l4 then (sx_let (l1 + 1) (fun x2 => k2 x2 V)) else ((F_X4_shareBytes l4 l1 V).bind (fun (x5, V3) => if x5 = 0 then (sx_let (l4 + 1) (fun x7 => k74 l1 x7 V3)) else (some ((0 : Int32), V3))))
set_option maxRecDepth 20000 in
theorem tB_X4_tablesLieRight_74 {g : sx_G} (hG : sx_Go g) {P : Option Value → sv_V → Prop} {r : Int32} {Vr : sv_V} (hP : P (some (.int r)) Vr) {N : Nat} {k2 : Int32 → sv_V → Option (Int32 × sv_V)} {k74 : Int32 → Int32 → sv_V → Option (Int32 × sv_V)} (hk2 : ∀ (l1 : Int32) (V : sv_V), k2 l1 V = some (r, Vr) → sv_N g qX4_tablesLieRight 4 2 [(0, .ref 29), (1, .int l1)] [] V P) (hk74 : ∀ (l1 : Int32) (l4 : Int32) (V : sv_V), k74 l1 l4 V = some (r, Vr) → sv_N g qX4_tablesLieRight 4 74 [(0, .ref 29), (1, .int l1), (4, .int l4)] [] V P) {l1 : Int32} {l4 : Int32} {V : sv_V} (h : B_X4_tablesLieRight_74 N k2 k74 l1 l4 V = some (r, Vr)) : sv_N g qX4_tablesLieRight 4 74 [(0, .ref 29), (1, .int l1), (4, .int l4)] [] V P := by
  unfold B_X4_tablesLieRight_74 at h
  refine sx_iload (pc := 74) dX4_tablesLieRight_74 sx_m2 ?_
  refine sx_iload_n (pc := 76) dX4_tablesLieRight_76 sx_m1 ?_
  refine sx_icmp_ge (pc := 77) (tgt := 98) dX4_tablesLieRight_77 (by decide) (fun c1 => ?_) (fun c1 => ?_)
  · have h := sx_pos c1 h
    obtain ⟨x2, hx2⟩ : ∃ z : Int32, z = l1 + 1 := ⟨_, rfl⟩
    have h := sx_letE hx2 h
    refine sx_iinc (pc := 98) (v := x2) (lo' := [(1, .int x2), (0, .ref 29), (4, .int l4)]) dX4_tablesLieRight_98 sx_m1 (by rw [hx2]; rfl) (by decide) rfl ?_
    refine sx_goto (pc := 101) (tgt := 2) dX4_tablesLieRight_101 (by decide) ?_
    refine sx_wk (sx_s1 sx_m1 (sx_s1 sx_m0 sx_s0)) ?_
    exact hk2 _ _ h
  · have h := sx_neg c1 h
    refine sx_aload_n (pc := 80) dX4_tablesLieRight_80 sx_m0 ?_
    refine sx_iload (pc := 81) dX4_tablesLieRight_81 sx_m2 ?_
    refine sx_iload_n (pc := 83) dX4_tablesLieRight_83 sx_m1 ?_
    obtain ⟨⟨x5, V3⟩, g4, h⟩ := sx_bnd h
    refine sv_cV (pc := 84) (y := qX4_shareBytes) (o := (some (.int x5))) (as := [.int l4, .int l1]) (V1 := V3) hG dX4_tablesLieRight_84 l_X4_89 y0X4_shareBytes yvX4_shareBytes rfl (Nat.le_of_ble_eq_true rfl) lay_29 kr_4 (by decide) (Nat.le_of_ble_eq_true rfl) rfl rfl rfl (t_X4_shareBytes hG ⟨rfl, rfl⟩ g4) ?_
    refine sx_if_eq (pc := 87) (tgt := 92) dX4_tablesLieRight_87 (by decide) (fun c6 => ?_) (fun c6 => ?_)
    · have h := sx_pos c6 h
      obtain ⟨x7, hx7⟩ : ∃ z : Int32, z = l4 + 1 := ⟨_, rfl⟩
      have h := sx_letE hx7 h
      refine sx_iinc (pc := 92) (v := x7) (lo' := [(4, .int x7), (0, .ref 29), (1, .int l1)]) dX4_tablesLieRight_92 sx_m2 (by rw [hx7]; rfl) (by decide) rfl ?_
      refine sx_goto (pc := 95) (tgt := 74) dX4_tablesLieRight_95 (by decide) ?_
      refine sx_wk (sx_s1 sx_m1 (sx_s1 sx_m2 (sx_s1 sx_m0 sx_s0))) ?_
      exact hk74 _ _ _ h
    · have h := sx_neg c6 h
      refine sx_iconst (pc := 90) (v := 0) dX4_tablesLieRight_90 (by decide) ?_
      exact sv_zret (pc := 91) dX4_tablesLieRight_91 rfl rfl h hP
theorem tL_X4_tablesLieRight_74 {g : sx_G} (hG : sx_Go g) {P : Option Value → sv_V → Prop} {r : Int32} {Vr : sv_V} (hP : P (some (.int r)) Vr) {N : Nat} {k2 : Int32 → sv_V → Option (Int32 × sv_V)} (hk2 : ∀ (l1 : Int32) (V : sv_V), k2 l1 V = some (r, Vr) → sv_N g qX4_tablesLieRight 4 2 [(0, .ref 29), (1, .int l1)] [] V P) : ∀ (n : Nat) (l1 : Int32) (l4 : Int32) (V : sv_V), sx_lp3 (B_X4_tablesLieRight_74 N k2) n l1 l4 V = some (r, Vr) → sv_N g qX4_tablesLieRight 4 74 [(0, .ref 29), (1, .int l1), (4, .int l4)] [] V P :=
  sx_lp3_ind (fun k0 ih _ _ V h => tB_X4_tablesLieRight_74 hG hP hk2 ih h)
def B_X4_tablesLieRight_2 (N : Nat) (k2 : Int32 → sv_V → Option (Int32 × sv_V)) (l1 : Int32) (V : sv_V) : Option (Int32 × sv_V) := if (V.1 2 5) ≤ l1 then (some ((1 : Int32), V)) else ((F_X4_entry l1 (2 : Int32) V).bind (fun (x11, V9) => if (lg_cmp (x11 - x11 / (4 : Int64) * (4 : Int64)) (0 : Int64)) = 0 then (if (lg_cmp x11 (((12 : Int32) + ((16 : Int32) * (V9.1 2 5))).toInt64)) < 0 then (some ((0 : Int32), V9)) else ((F_X4_entry l1 (3 : Int32) V9).bind (fun (x16, V14) => if (lg_cmp (x11 + x16) ((V14.1 2 1).toInt64)) ≤ 0 then (sx_lp3 (B_X4_tablesLieRight_74 N k2) N l1 (0 : Int32) V14) else (some ((0 : Int32), V14))))) else (some ((0 : Int32), V9))))
set_option maxRecDepth 20000 in
theorem tB_X4_tablesLieRight_2 {g : sx_G} (hG : sx_Go g) {P : Option Value → sv_V → Prop} {r : Int32} {Vr : sv_V} (hP : P (some (.int r)) Vr) {N : Nat} {k2 : Int32 → sv_V → Option (Int32 × sv_V)} (hk2 : ∀ (l1 : Int32) (V : sv_V), k2 l1 V = some (r, Vr) → sv_N g qX4_tablesLieRight 4 2 [(0, .ref 29), (1, .int l1)] [] V P) {l1 : Int32} {V : sv_V} (h : B_X4_tablesLieRight_2 N k2 l1 V = some (r, Vr)) : sv_N g qX4_tablesLieRight 4 2 [(0, .ref 29), (1, .int l1)] [] V P := by
  unfold B_X4_tablesLieRight_2 at h
  refine sx_iload_n (pc := 2) dX4_tablesLieRight_2 sx_m1 ?_
  refine sx_aload_n (pc := 3) dX4_tablesLieRight_3 sx_m0 ?_
  refine sv_getO (pc := 4) hG dX4_tablesLieRight_4 f_4_9 lay_29 rfl cr_29_0 ?_
  refine sv_getI (pc := 7) hG dX4_tablesLieRight_7 f_4_80 lay_2 rfl ?_
  refine sx_icmp_ge (pc := 10) (tgt := 104) dX4_tablesLieRight_10 (by decide) (fun c8 => ?_) (fun c8 => ?_)
  · have h := sx_pos c8 h
    refine sx_iconst (pc := 104) (v := 1) dX4_tablesLieRight_104 (by decide) ?_
    exact sv_zret (pc := 105) dX4_tablesLieRight_105 rfl rfl h hP
  · have h := sx_neg c8 h
    refine sx_aload_n (pc := 13) dX4_tablesLieRight_13 sx_m0 ?_
    refine sx_iload_n (pc := 14) dX4_tablesLieRight_14 sx_m1 ?_
    refine sx_iconst (pc := 15) (v := 2) dX4_tablesLieRight_15 (by decide) ?_
    obtain ⟨⟨x11, V9⟩, g10, h⟩ := sx_bnd h
    refine sv_cV (pc := 16) (y := qX4_entry) (o := (some (.long x11))) (as := [.int l1, .int (2 : Int32)]) (V1 := V9) hG dX4_tablesLieRight_16 l_X4_83 y0X4_entry yvX4_entry rfl (Nat.le_of_ble_eq_true rfl) lay_29 kr_4 (by decide) (Nat.le_of_ble_eq_true rfl) rfl rfl rfl (t_X4_entry hG ⟨rfl, rfl⟩ g10) ?_
    refine sx_lstore_n (pc := 19) (lo' := [(2, .long x11), (0, .ref 29), (1, .int l1)]) dX4_tablesLieRight_19 (by decide) rfl ?_
    refine sx_lload_n (pc := 20) dX4_tablesLieRight_20 sx_m0 ?_
    refine sx_ldc2 (pc := 21) dX4_tablesLieRight_21 k_X4_87 ?_
    refine sx_lrem (pc := 24) dX4_tablesLieRight_24 (by decide) ?_
    refine sx_lconst (pc := 25) (v := 0) dX4_tablesLieRight_25 rfl ?_
    refine sx_lcmp (pc := 26) dX4_tablesLieRight_26 ?_
    refine sx_if_ne (pc := 27) (tgt := 69) dX4_tablesLieRight_27 (by decide) (fun c12 => ?_) (fun c12 => ?_)
    · have h := sx_neg c12 h
      refine sx_iconst (pc := 69) (v := 0) dX4_tablesLieRight_69 (by decide) ?_
      exact sv_zret (pc := 70) dX4_tablesLieRight_70 rfl rfl h hP
    · have h := sx_pos c12 h
      refine sx_lload_n (pc := 30) dX4_tablesLieRight_30 sx_m0 ?_
      refine sx_bipush (pc := 31) (v := 12) dX4_tablesLieRight_31 (by decide) ?_
      refine sx_bipush (pc := 33) (v := 16) dX4_tablesLieRight_33 (by decide) ?_
      refine sx_aload_n (pc := 35) dX4_tablesLieRight_35 sx_m1 ?_
      refine sv_getO (pc := 36) hG dX4_tablesLieRight_36 f_4_9 lay_29 rfl cr_29_0 ?_
      refine sv_getI (pc := 39) hG dX4_tablesLieRight_39 f_4_80 lay_2 rfl ?_
      refine sx_imul (pc := 42) dX4_tablesLieRight_42 ?_
      refine sx_iadd (pc := 43) dX4_tablesLieRight_43 ?_
      refine sx_i2l (pc := 44) dX4_tablesLieRight_44 ?_
      refine sx_lcmp (pc := 45) dX4_tablesLieRight_45 ?_
      refine sx_if_lt (pc := 46) (tgt := 69) dX4_tablesLieRight_46 (by decide) (fun c13 => ?_) (fun c13 => ?_)
      · have h := sx_pos c13 h
        refine sx_iconst (pc := 69) (v := 0) dX4_tablesLieRight_69 (by decide) ?_
        exact sv_zret (pc := 70) dX4_tablesLieRight_70 rfl rfl h hP
      · have h := sx_neg c13 h
        refine sx_lload_n (pc := 49) dX4_tablesLieRight_49 sx_m0 ?_
        refine sx_aload_n (pc := 50) dX4_tablesLieRight_50 sx_m1 ?_
        refine sx_iload_n (pc := 51) dX4_tablesLieRight_51 sx_m2 ?_
        refine sx_iconst (pc := 52) (v := 3) dX4_tablesLieRight_52 (by decide) ?_
        obtain ⟨⟨x16, V14⟩, g15, h⟩ := sx_bnd h
        refine sv_cV (pc := 53) (y := qX4_entry) (o := (some (.long x16))) (as := [.int l1, .int (3 : Int32)]) (V1 := V14) hG dX4_tablesLieRight_53 l_X4_83 y0X4_entry yvX4_entry rfl (Nat.le_of_ble_eq_true rfl) lay_29 kr_4 (by decide) (Nat.le_of_ble_eq_true rfl) rfl rfl rfl (t_X4_entry hG ⟨rfl, rfl⟩ g15) ?_
        refine sx_ladd (pc := 56) dX4_tablesLieRight_56 ?_
        refine sx_aload_n (pc := 57) dX4_tablesLieRight_57 sx_m1 ?_
        refine sv_getO (pc := 58) hG dX4_tablesLieRight_58 f_4_9 lay_29 rfl cr_29_0 ?_
        refine sv_getI (pc := 61) hG dX4_tablesLieRight_61 f_4_70 lay_2 rfl ?_
        refine sx_i2l (pc := 64) dX4_tablesLieRight_64 ?_
        refine sx_lcmp (pc := 65) dX4_tablesLieRight_65 ?_
        refine sx_if_le (pc := 66) (tgt := 71) dX4_tablesLieRight_66 (by decide) (fun c17 => ?_) (fun c17 => ?_)
        · have h := sx_pos c17 h
          refine sx_iconst (pc := 71) (v := 0) dX4_tablesLieRight_71 (by decide) ?_
          refine sx_istore (pc := 72) (lo' := [(4, .int (0 : Int32)), (2, .long x11), (0, .ref 29), (1, .int l1)]) dX4_tablesLieRight_72 (by decide) rfl ?_
          refine sx_wk (sx_s1 sx_m2 (sx_s1 sx_m3 (sx_s1 sx_m0 sx_s0))) ?_
          exact tL_X4_tablesLieRight_74 hG hP hk2 N _ _ _ h
        · have h := sx_neg c17 h
          refine sx_iconst (pc := 69) (v := 0) dX4_tablesLieRight_69 (by decide) ?_
          exact sv_zret (pc := 70) dX4_tablesLieRight_70 rfl rfl h hP
theorem tL_X4_tablesLieRight_2 {g : sx_G} (hG : sx_Go g) {P : Option Value → sv_V → Prop} {r : Int32} {Vr : sv_V} (hP : P (some (.int r)) Vr) {N : Nat}   : ∀ (n : Nat) (l1 : Int32) (V : sv_V), sx_lp2 (B_X4_tablesLieRight_2 N ) n l1 V = some (r, Vr) → sv_N g qX4_tablesLieRight 4 2 [(0, .ref 29), (1, .int l1)] [] V P :=
  sx_lp2_ind (fun k0 ih _ V h => tB_X4_tablesLieRight_2 hG hP ih h)
def F_X4_tablesLieRight (N : Nat)  (V : sv_V) : Option (Int32 × sv_V) := sx_lp2 (B_X4_tablesLieRight_2 N ) N (0 : Int32) V
set_option maxRecDepth 20000 in
theorem t_X4_tablesLieRight {g : sx_G} (hG : sx_Go g) {P : Option Value → sv_V → Prop} {r : Int32} {Vr : sv_V} (hP : P (some (.int r)) Vr) {N : Nat}  {V : sv_V} (h : F_X4_tablesLieRight N  V = some (r, Vr)) : sv_N g qX4_tablesLieRight 4 0 [(0, .ref 29)] [] V P := by
  unfold F_X4_tablesLieRight at h
  refine sx_iconst (pc := 0) (v := 0) dX4_tablesLieRight_0 (by decide) ?_
  refine sx_istore_n (pc := 1) (lo' := [(1, .int (0 : Int32)), (0, .ref 29)]) dX4_tablesLieRight_1 (by decide) rfl ?_
  refine sx_wk (sx_s1 sx_m1 (sx_s1 sx_m0 sx_s0)) ?_
  exact tL_X4_tablesLieRight_2 hG hP  N _ _ h
def ncX5_goAlongNumbers : Nat := 107009000765323819802383356350812445285145898442554674282797564284560821943360016124434585169121356896348921706026
theorem kcX5_goAlongNumbers : CK cX5_goAlongNumbers ncX5_goAlongNumbers 47 := ⟨by decide +kernel, by decide +kernel⟩
theorem dX5_goAlongNumbers_0 : decode cX5_goAlongNumbers 0 = .ok (.aload_n 0, 1) := dl_o42 kcX5_goAlongNumbers (by decide +kernel)
theorem dX5_goAlongNumbers_1 : decode cX5_goAlongNumbers 1 = .ok (.invokevirtual 242, 3) := dl_o182 kcX5_goAlongNumbers (by decide +kernel)
theorem dX5_goAlongNumbers_4 : decode cX5_goAlongNumbers 4 = .ok (.istore_n 2, 1) := dl_o61 kcX5_goAlongNumbers (by decide +kernel)
theorem dX5_goAlongNumbers_5 : decode cX5_goAlongNumbers 5 = .ok (.aload_n 0, 1) := dl_o42 kcX5_goAlongNumbers (by decide +kernel)
theorem dX5_goAlongNumbers_6 : decode cX5_goAlongNumbers 6 = .ok (.invokevirtual 242, 3) := dl_o182 kcX5_goAlongNumbers (by decide +kernel)
theorem dX5_goAlongNumbers_9 : decode cX5_goAlongNumbers 9 = .ok (.istore_n 3, 1) := dl_o62 kcX5_goAlongNumbers (by decide +kernel)
theorem dX5_goAlongNumbers_10 : decode cX5_goAlongNumbers 10 = .ok (.aload_n 0, 1) := dl_o42 kcX5_goAlongNumbers (by decide +kernel)
theorem dX5_goAlongNumbers_11 : decode cX5_goAlongNumbers 11 = .ok (.getfield 12, 3) := dl_o180 kcX5_goAlongNumbers (by decide +kernel)
theorem dX5_goAlongNumbers_14 : decode cX5_goAlongNumbers 14 = .ok (.iload_n 3, 1) := dl_o29 kcX5_goAlongNumbers (by decide +kernel)
theorem dX5_goAlongNumbers_15 : decode cX5_goAlongNumbers 15 = .ok (.i2s, 1) := dl_o147 kcX5_goAlongNumbers (by decide +kernel)
theorem dX5_goAlongNumbers_16 : decode cX5_goAlongNumbers 16 = .ok (.i2l, 1) := dl_o133 kcX5_goAlongNumbers (by decide +kernel)
theorem dX5_goAlongNumbers_17 : decode cX5_goAlongNumbers 17 = .ok (.iload_n 2, 1) := dl_o28 kcX5_goAlongNumbers (by decide +kernel)
theorem dX5_goAlongNumbers_18 : decode cX5_goAlongNumbers 18 = .ok (.i2s, 1) := dl_o147 kcX5_goAlongNumbers (by decide +kernel)
theorem dX5_goAlongNumbers_19 : decode cX5_goAlongNumbers 19 = .ok (.i2l, 1) := dl_o133 kcX5_goAlongNumbers (by decide +kernel)
theorem dX5_goAlongNumbers_20 : decode cX5_goAlongNumbers 20 = .ok (.invokevirtual 245, 3) := dl_o182 kcX5_goAlongNumbers (by decide +kernel)
theorem dX5_goAlongNumbers_23 : decode cX5_goAlongNumbers 23 = .ok (.iload_n 1, 1) := dl_o27 kcX5_goAlongNumbers (by decide +kernel)
theorem dX5_goAlongNumbers_24 : decode cX5_goAlongNumbers 24 = .ok (.bipush 10, 2) := dl_o16 kcX5_goAlongNumbers 10 (by decide +kernel) (by decide +kernel)
theorem dX5_goAlongNumbers_26 : decode cX5_goAlongNumbers 26 = .ok (.if_icmp .ne 13, 3) := dl_o160 kcX5_goAlongNumbers 13 (by decide +kernel) (by decide +kernel)
theorem dX5_goAlongNumbers_29 : decode cX5_goAlongNumbers 29 = .ok (.aload_n 0, 1) := dl_o42 kcX5_goAlongNumbers (by decide +kernel)
theorem dX5_goAlongNumbers_30 : decode cX5_goAlongNumbers 30 = .ok (.getfield 12, 3) := dl_o180 kcX5_goAlongNumbers (by decide +kernel)
theorem dX5_goAlongNumbers_33 : decode cX5_goAlongNumbers 33 = .ok (.invokevirtual 249, 3) := dl_o182 kcX5_goAlongNumbers (by decide +kernel)
theorem dX5_goAlongNumbers_36 : decode cX5_goAlongNumbers 36 = .ok (.goto 10, 3) := dl_o167 kcX5_goAlongNumbers 10 (by decide +kernel) (by decide +kernel)
theorem dX5_goAlongNumbers_39 : decode cX5_goAlongNumbers 39 = .ok (.aload_n 0, 1) := dl_o42 kcX5_goAlongNumbers (by decide +kernel)
theorem dX5_goAlongNumbers_40 : decode cX5_goAlongNumbers 40 = .ok (.getfield 12, 3) := dl_o180 kcX5_goAlongNumbers (by decide +kernel)
theorem dX5_goAlongNumbers_43 : decode cX5_goAlongNumbers 43 = .ok (.invokevirtual 252, 3) := dl_o182 kcX5_goAlongNumbers (by decide +kernel)
theorem dX5_goAlongNumbers_46 : decode cX5_goAlongNumbers 46 = .ok (.return_, 1) := dl_o177 kcX5_goAlongNumbers (by decide +kernel)
def F_X5_goAlongNumbers (N : Nat) (l1 : Int32) (V : sv_V) : Option sv_V := (F_X5_pop  V).bind (fun (x3, V1) => (F_X5_pop  V1).bind (fun (x6, V4) => (F_X9_findWay N x6.toInt16.toInt32.toInt64 x3.toInt16.toInt32.toInt64 V4).bind (fun V7 => if l1 = (10 : Int32) then ((F_X9_useWayForP  V7).bind (fun V12 => some V12)) else ((F_X9_useWayForF  V7).bind (fun V10 => some V10)))))
set_option maxRecDepth 20000 in
theorem t_X5_goAlongNumbers {g : sx_G} (hG : sx_Go g) {P : Option Value → sv_V → Prop} {Vr : sv_V} (hP : P none Vr) {N : Nat} {l1 : Int32} {V : sv_V} (h : F_X5_goAlongNumbers N l1 V = some Vr) : sv_N g qX5_goAlongNumbers 2 0 [(0, .ref 69), (1, .int l1)] [] V P := by
  unfold F_X5_goAlongNumbers at h
  refine sx_aload_n (pc := 0) dX5_goAlongNumbers_0 sx_m0 ?_
  obtain ⟨⟨x3, V1⟩, g2, h⟩ := sx_bnd h
  refine sv_cV (pc := 1) (y := qX5_pop) (o := (some (.int x3))) (as := []) (V1 := V1) hG dX5_goAlongNumbers_1 l_X5_242 y0X5_pop yvX5_pop rfl (Nat.le_of_ble_eq_true rfl) lay_69 kr_5 (by decide) (Nat.le_of_ble_eq_true rfl) rfl rfl rfl (t_X5_pop hG ⟨rfl, rfl⟩ g2) ?_
  refine sx_istore_n (pc := 4) (lo' := [(2, .int x3), (0, .ref 69), (1, .int l1)]) dX5_goAlongNumbers_4 (by decide) rfl ?_
  refine sx_aload_n (pc := 5) dX5_goAlongNumbers_5 sx_m1 ?_
  obtain ⟨⟨x6, V4⟩, g5, h⟩ := sx_bnd h
  refine sv_cV (pc := 6) (y := qX5_pop) (o := (some (.int x6))) (as := []) (V1 := V4) hG dX5_goAlongNumbers_6 l_X5_242 y0X5_pop yvX5_pop rfl (Nat.le_of_ble_eq_true rfl) lay_69 kr_5 (by decide) (Nat.le_of_ble_eq_true rfl) rfl rfl rfl (t_X5_pop hG ⟨rfl, rfl⟩ g5) ?_
  refine sx_istore_n (pc := 9) (lo' := [(3, .int x6), (2, .int x3), (0, .ref 69), (1, .int l1)]) dX5_goAlongNumbers_9 (by decide) rfl ?_
  refine sx_aload_n (pc := 10) dX5_goAlongNumbers_10 sx_m2 ?_
  refine sv_getO (pc := 11) hG dX5_goAlongNumbers_11 f_5_12 lay_69 rfl cr_69_1 ?_
  refine sx_iload_n (pc := 14) dX5_goAlongNumbers_14 sx_m0 ?_
  refine sx_i2s (pc := 15) dX5_goAlongNumbers_15 ?_
  refine sx_i2l (pc := 16) dX5_goAlongNumbers_16 ?_
  refine sx_iload_n (pc := 17) dX5_goAlongNumbers_17 sx_m1 ?_
  refine sx_i2s (pc := 18) dX5_goAlongNumbers_18 ?_
  refine sx_i2l (pc := 19) dX5_goAlongNumbers_19 ?_
  obtain ⟨V7, g8, h⟩ := sx_bnd h
  refine sv_cV (pc := 20) (y := qX9_findWay) (o := none) (as := [.long x6.toInt16.toInt32.toInt64, .long x3.toInt16.toInt32.toInt64]) (V1 := V7) hG dX5_goAlongNumbers_20 l_X5_245 y0X9_findWay yvX9_findWay rfl (Nat.le_of_ble_eq_true rfl) lay_70 kr_9 (by decide) (Nat.le_of_ble_eq_true rfl) rfl rfl rfl (t_X9_findWay hG ⟨rfl, rfl⟩ g8) ?_
  refine sx_iload_n (pc := 23) dX5_goAlongNumbers_23 sx_m3 ?_
  refine sx_bipush (pc := 24) (v := 10) dX5_goAlongNumbers_24 (by decide) ?_
  refine sx_icmp_ne (pc := 26) (tgt := 39) dX5_goAlongNumbers_26 (by decide) (fun c9 => ?_) (fun c9 => ?_)
  · have h := sx_neg c9 h
    refine sx_aload_n (pc := 39) dX5_goAlongNumbers_39 sx_m2 ?_
    refine sv_getO (pc := 40) hG dX5_goAlongNumbers_40 f_5_12 lay_69 rfl cr_69_1 ?_
    obtain ⟨V10, g11, h⟩ := sx_bnd h
    refine sv_cV (pc := 43) (y := qX9_useWayForF) (o := none) (as := []) (V1 := V10) hG dX5_goAlongNumbers_43 l_X5_252 y0X9_useWayForF yvX9_useWayForF rfl (Nat.le_of_ble_eq_true rfl) lay_70 kr_9 (by decide) (Nat.le_of_ble_eq_true rfl) rfl rfl rfl (t_X9_useWayForF hG ⟨rfl, rfl⟩ g11) ?_
    exact sv_vret (pc := 46) dX5_goAlongNumbers_46 rfl h hP
  · have h := sx_pos c9 h
    refine sx_aload_n (pc := 29) dX5_goAlongNumbers_29 sx_m2 ?_
    refine sv_getO (pc := 30) hG dX5_goAlongNumbers_30 f_5_12 lay_69 rfl cr_69_1 ?_
    obtain ⟨V12, g13, h⟩ := sx_bnd h
    refine sv_cV (pc := 33) (y := qX9_useWayForP) (o := none) (as := []) (V1 := V12) hG dX5_goAlongNumbers_33 l_X5_249 y0X9_useWayForP yvX9_useWayForP rfl (Nat.le_of_ble_eq_true rfl) lay_70 kr_9 (by decide) (Nat.le_of_ble_eq_true rfl) rfl rfl rfl (t_X9_useWayForP hG ⟨rfl, rfl⟩ g13) ?_
    refine sx_goto (pc := 36) (tgt := 46) dX5_goAlongNumbers_36 (by decide) ?_
    exact sv_vret (pc := 46) dX5_goAlongNumbers_46 rfl h hP
def ncX5_goAlongLine : Nat := 444035514686109281002915569995234006865920735606080298599979153514627727114402347236817145764993426296564996441410460452995664867704137984243853884672767056262713166100703748431128607346726971486282212643185960948388084314588239530365122423795358491123003036752019633458743053404869338637317674
theorem kcX5_goAlongLine : CK cX5_goAlongLine ncX5_goAlongLine 122 := ⟨by decide +kernel, by decide +kernel⟩
theorem dX5_goAlongLine_0 : decode cX5_goAlongLine 0 = .ok (.aload_n 0, 1) := dl_o42 kcX5_goAlongLine (by decide +kernel)
theorem dX5_goAlongLine_1 : decode cX5_goAlongLine 1 = .ok (.invokevirtual 242, 3) := dl_o182 kcX5_goAlongLine (by decide +kernel)
theorem dX5_goAlongLine_4 : decode cX5_goAlongLine 4 = .ok (.istore_n 2, 1) := dl_o61 kcX5_goAlongLine (by decide +kernel)
theorem dX5_goAlongLine_5 : decode cX5_goAlongLine 5 = .ok (.aload_n 0, 1) := dl_o42 kcX5_goAlongLine (by decide +kernel)
theorem dX5_goAlongLine_6 : decode cX5_goAlongLine 6 = .ok (.invokevirtual 242, 3) := dl_o182 kcX5_goAlongLine (by decide +kernel)
theorem dX5_goAlongLine_9 : decode cX5_goAlongLine 9 = .ok (.istore_n 3, 1) := dl_o62 kcX5_goAlongLine (by decide +kernel)
theorem dX5_goAlongLine_10 : decode cX5_goAlongLine 10 = .ok (.aload_n 0, 1) := dl_o42 kcX5_goAlongLine (by decide +kernel)
theorem dX5_goAlongLine_11 : decode cX5_goAlongLine 11 = .ok (.iconst 1, 1) := dl_o4 kcX5_goAlongLine (by decide +kernel)
theorem dX5_goAlongLine_12 : decode cX5_goAlongLine 12 = .ok (.invokevirtual 255, 3) := dl_o182 kcX5_goAlongLine (by decide +kernel)
theorem dX5_goAlongLine_15 : decode cX5_goAlongLine 15 = .ok (.astore 4, 2) := dl_o58 kcX5_goAlongLine (by decide +kernel)
theorem dX5_goAlongLine_17 : decode cX5_goAlongLine 17 = .ok (.aload_n 0, 1) := dl_o42 kcX5_goAlongLine (by decide +kernel)
theorem dX5_goAlongLine_18 : decode cX5_goAlongLine 18 = .ok (.iconst 2, 1) := dl_o5 kcX5_goAlongLine (by decide +kernel)
theorem dX5_goAlongLine_19 : decode cX5_goAlongLine 19 = .ok (.invokevirtual 255, 3) := dl_o182 kcX5_goAlongLine (by decide +kernel)
theorem dX5_goAlongLine_22 : decode cX5_goAlongLine 22 = .ok (.astore 5, 2) := dl_o58 kcX5_goAlongLine (by decide +kernel)
theorem dX5_goAlongLine_24 : decode cX5_goAlongLine 24 = .ok (.aload_n 0, 1) := dl_o42 kcX5_goAlongLine (by decide +kernel)
theorem dX5_goAlongLine_25 : decode cX5_goAlongLine 25 = .ok (.aload 4, 2) := dl_o25 kcX5_goAlongLine (by decide +kernel)
theorem dX5_goAlongLine_27 : decode cX5_goAlongLine 27 = .ok (.iload_n 3, 1) := dl_o29 kcX5_goAlongLine (by decide +kernel)
theorem dX5_goAlongLine_28 : decode cX5_goAlongLine 28 = .ok (.invokevirtual 259, 3) := dl_o182 kcX5_goAlongLine (by decide +kernel)
theorem dX5_goAlongLine_31 : decode cX5_goAlongLine 31 = .ok (.ifCond .eq 13, 3) := dl_o153 kcX5_goAlongLine 13 (by decide +kernel) (by decide +kernel)
theorem dX5_goAlongLine_34 : decode cX5_goAlongLine 34 = .ok (.aload_n 0, 1) := dl_o42 kcX5_goAlongLine (by decide +kernel)
theorem dX5_goAlongLine_35 : decode cX5_goAlongLine 35 = .ok (.aload 5, 2) := dl_o25 kcX5_goAlongLine (by decide +kernel)
theorem dX5_goAlongLine_37 : decode cX5_goAlongLine 37 = .ok (.iload_n 2, 1) := dl_o28 kcX5_goAlongLine (by decide +kernel)
theorem dX5_goAlongLine_38 : decode cX5_goAlongLine 38 = .ok (.invokevirtual 259, 3) := dl_o182 kcX5_goAlongLine (by decide +kernel)
theorem dX5_goAlongLine_41 : decode cX5_goAlongLine 41 = .ok (.ifCond .ne 4, 3) := dl_o154 kcX5_goAlongLine 4 (by decide +kernel) (by decide +kernel)
theorem dX5_goAlongLine_44 : decode cX5_goAlongLine 44 = .ok (.return_, 1) := dl_o177 kcX5_goAlongLine (by decide +kernel)
theorem dX5_goAlongLine_45 : decode cX5_goAlongLine 45 = .ok (.aload_n 0, 1) := dl_o42 kcX5_goAlongLine (by decide +kernel)
theorem dX5_goAlongLine_46 : decode cX5_goAlongLine 46 = .ok (.getfield 12, 3) := dl_o180 kcX5_goAlongLine (by decide +kernel)
theorem dX5_goAlongLine_49 : decode cX5_goAlongLine 49 = .ok (.aload 4, 2) := dl_o25 kcX5_goAlongLine (by decide +kernel)
theorem dX5_goAlongLine_51 : decode cX5_goAlongLine 51 = .ok (.getfield 198, 3) := dl_o180 kcX5_goAlongLine (by decide +kernel)
theorem dX5_goAlongLine_54 : decode cX5_goAlongLine 54 = .ok (.iload_n 3, 1) := dl_o29 kcX5_goAlongLine (by decide +kernel)
theorem dX5_goAlongLine_55 : decode cX5_goAlongLine 55 = .ok (.iaload, 1) := dl_o46 kcX5_goAlongLine (by decide +kernel)
theorem dX5_goAlongLine_56 : decode cX5_goAlongLine 56 = .ok (.aload 5, 2) := dl_o25 kcX5_goAlongLine (by decide +kernel)
theorem dX5_goAlongLine_58 : decode cX5_goAlongLine 58 = .ok (.getfield 198, 3) := dl_o180 kcX5_goAlongLine (by decide +kernel)
theorem dX5_goAlongLine_61 : decode cX5_goAlongLine 61 = .ok (.iload_n 2, 1) := dl_o28 kcX5_goAlongLine (by decide +kernel)
theorem dX5_goAlongLine_62 : decode cX5_goAlongLine 62 = .ok (.iaload, 1) := dl_o46 kcX5_goAlongLine (by decide +kernel)
theorem dX5_goAlongLine_63 : decode cX5_goAlongLine 63 = .ok (.isub, 1) := dl_o100 kcX5_goAlongLine (by decide +kernel)
theorem dX5_goAlongLine_64 : decode cX5_goAlongLine 64 = .ok (.i2l, 1) := dl_o133 kcX5_goAlongLine (by decide +kernel)
theorem dX5_goAlongLine_65 : decode cX5_goAlongLine 65 = .ok (.aload 4, 2) := dl_o25 kcX5_goAlongLine (by decide +kernel)
theorem dX5_goAlongLine_67 : decode cX5_goAlongLine 67 = .ok (.getfield 201, 3) := dl_o180 kcX5_goAlongLine (by decide +kernel)
theorem dX5_goAlongLine_70 : decode cX5_goAlongLine 70 = .ok (.iload_n 3, 1) := dl_o29 kcX5_goAlongLine (by decide +kernel)
theorem dX5_goAlongLine_71 : decode cX5_goAlongLine 71 = .ok (.iaload, 1) := dl_o46 kcX5_goAlongLine (by decide +kernel)
theorem dX5_goAlongLine_72 : decode cX5_goAlongLine 72 = .ok (.aload 5, 2) := dl_o25 kcX5_goAlongLine (by decide +kernel)
theorem dX5_goAlongLine_74 : decode cX5_goAlongLine 74 = .ok (.getfield 201, 3) := dl_o180 kcX5_goAlongLine (by decide +kernel)
theorem dX5_goAlongLine_77 : decode cX5_goAlongLine 77 = .ok (.iload_n 2, 1) := dl_o28 kcX5_goAlongLine (by decide +kernel)
theorem dX5_goAlongLine_78 : decode cX5_goAlongLine 78 = .ok (.iaload, 1) := dl_o46 kcX5_goAlongLine (by decide +kernel)
theorem dX5_goAlongLine_79 : decode cX5_goAlongLine 79 = .ok (.isub, 1) := dl_o100 kcX5_goAlongLine (by decide +kernel)
theorem dX5_goAlongLine_80 : decode cX5_goAlongLine 80 = .ok (.i2l, 1) := dl_o133 kcX5_goAlongLine (by decide +kernel)
theorem dX5_goAlongLine_81 : decode cX5_goAlongLine 81 = .ok (.invokevirtual 245, 3) := dl_o182 kcX5_goAlongLine (by decide +kernel)
theorem dX5_goAlongLine_84 : decode cX5_goAlongLine 84 = .ok (.iload_n 1, 1) := dl_o27 kcX5_goAlongLine (by decide +kernel)
theorem dX5_goAlongLine_85 : decode cX5_goAlongLine 85 = .ok (.iconst 1, 1) := dl_o4 kcX5_goAlongLine (by decide +kernel)
theorem dX5_goAlongLine_86 : decode cX5_goAlongLine 86 = .ok (.iand, 1) := dl_o126 kcX5_goAlongLine (by decide +kernel)
theorem dX5_goAlongLine_87 : decode cX5_goAlongLine 87 = .ok (.iconst 1, 1) := dl_o4 kcX5_goAlongLine (by decide +kernel)
theorem dX5_goAlongLine_88 : decode cX5_goAlongLine 88 = .ok (.if_icmp .ne 10, 3) := dl_o160 kcX5_goAlongLine 10 (by decide +kernel) (by decide +kernel)
theorem dX5_goAlongLine_91 : decode cX5_goAlongLine 91 = .ok (.aload_n 0, 1) := dl_o42 kcX5_goAlongLine (by decide +kernel)
theorem dX5_goAlongLine_92 : decode cX5_goAlongLine 92 = .ok (.getfield 12, 3) := dl_o180 kcX5_goAlongLine (by decide +kernel)
theorem dX5_goAlongLine_95 : decode cX5_goAlongLine 95 = .ok (.invokevirtual 263, 3) := dl_o182 kcX5_goAlongLine (by decide +kernel)
theorem dX5_goAlongLine_98 : decode cX5_goAlongLine 98 = .ok (.iload_n 1, 1) := dl_o27 kcX5_goAlongLine (by decide +kernel)
theorem dX5_goAlongLine_99 : decode cX5_goAlongLine 99 = .ok (.bipush 8, 2) := dl_o16 kcX5_goAlongLine 8 (by decide +kernel) (by decide +kernel)
theorem dX5_goAlongLine_101 : decode cX5_goAlongLine 101 = .ok (.if_icmp .ge 13, 3) := dl_o162 kcX5_goAlongLine 13 (by decide +kernel) (by decide +kernel)
theorem dX5_goAlongLine_104 : decode cX5_goAlongLine 104 = .ok (.aload_n 0, 1) := dl_o42 kcX5_goAlongLine (by decide +kernel)
theorem dX5_goAlongLine_105 : decode cX5_goAlongLine 105 = .ok (.getfield 12, 3) := dl_o180 kcX5_goAlongLine (by decide +kernel)
theorem dX5_goAlongLine_108 : decode cX5_goAlongLine 108 = .ok (.invokevirtual 249, 3) := dl_o182 kcX5_goAlongLine (by decide +kernel)
theorem dX5_goAlongLine_111 : decode cX5_goAlongLine 111 = .ok (.goto 10, 3) := dl_o167 kcX5_goAlongLine 10 (by decide +kernel) (by decide +kernel)
theorem dX5_goAlongLine_114 : decode cX5_goAlongLine 114 = .ok (.aload_n 0, 1) := dl_o42 kcX5_goAlongLine (by decide +kernel)
theorem dX5_goAlongLine_115 : decode cX5_goAlongLine 115 = .ok (.getfield 12, 3) := dl_o180 kcX5_goAlongLine (by decide +kernel)
theorem dX5_goAlongLine_118 : decode cX5_goAlongLine 118 = .ok (.invokevirtual 252, 3) := dl_o182 kcX5_goAlongLine (by decide +kernel)
theorem dX5_goAlongLine_121 : decode cX5_goAlongLine 121 = .ok (.return_, 1) := dl_o177 kcX5_goAlongLine (by decide +kernel)
def B_X5_goAlongLine_98 (N : Nat)  (l1 : Int32) (V : sv_V) : Option sv_V := if (8 : Int32) ≤ l1 then ((F_X9_useWayForF  V).bind (fun V2 => some V2)) else ((F_X9_useWayForP  V).bind (fun V4 => some V4))
set_option maxRecDepth 20000 in
theorem tB_X5_goAlongLine_98 {g : sx_G} (hG : sx_Go g) {P : Option Value → sv_V → Prop} {Vr : sv_V} (hP : P none Vr) {N : Nat}   {l1 : Int32} {V : sv_V} (h : B_X5_goAlongLine_98 N  l1 V = some Vr) : sv_N g qX5_goAlongLine 2 98 [(0, .ref 69), (1, .int l1)] [] V P := by
  unfold B_X5_goAlongLine_98 at h
  refine sx_iload_n (pc := 98) dX5_goAlongLine_98 sx_m1 ?_
  refine sx_bipush (pc := 99) (v := 8) dX5_goAlongLine_99 (by decide) ?_
  refine sx_icmp_ge (pc := 101) (tgt := 114) dX5_goAlongLine_101 (by decide) (fun c1 => ?_) (fun c1 => ?_)
  · have h := sx_pos c1 h
    refine sx_aload_n (pc := 114) dX5_goAlongLine_114 sx_m0 ?_
    refine sv_getO (pc := 115) hG dX5_goAlongLine_115 f_5_12 lay_69 rfl cr_69_1 ?_
    obtain ⟨V2, g3, h⟩ := sx_bnd h
    refine sv_cV (pc := 118) (y := qX9_useWayForF) (o := none) (as := []) (V1 := V2) hG dX5_goAlongLine_118 l_X5_252 y0X9_useWayForF yvX9_useWayForF rfl (Nat.le_of_ble_eq_true rfl) lay_70 kr_9 (by decide) (Nat.le_of_ble_eq_true rfl) rfl rfl rfl (t_X9_useWayForF hG ⟨rfl, rfl⟩ g3) ?_
    exact sv_vret (pc := 121) dX5_goAlongLine_121 rfl h hP
  · have h := sx_neg c1 h
    refine sx_aload_n (pc := 104) dX5_goAlongLine_104 sx_m0 ?_
    refine sv_getO (pc := 105) hG dX5_goAlongLine_105 f_5_12 lay_69 rfl cr_69_1 ?_
    obtain ⟨V4, g5, h⟩ := sx_bnd h
    refine sv_cV (pc := 108) (y := qX9_useWayForP) (o := none) (as := []) (V1 := V4) hG dX5_goAlongLine_108 l_X5_249 y0X9_useWayForP yvX9_useWayForP rfl (Nat.le_of_ble_eq_true rfl) lay_70 kr_9 (by decide) (Nat.le_of_ble_eq_true rfl) rfl rfl rfl (t_X9_useWayForP hG ⟨rfl, rfl⟩ g5) ?_
    refine sx_goto (pc := 111) (tgt := 121) dX5_goAlongLine_111 (by decide) ?_
    exact sv_vret (pc := 121) dX5_goAlongLine_121 rfl h hP
def F_X5_goAlongLine (N : Nat) (l1 : Int32) (V : sv_V) : Option sv_V := (F_X5_pop  V).bind (fun (x8, V6) => (F_X5_pop  V6).bind (fun (x11, V9) => (F_X5_zone (1 : Int32) V9).bind (fun (x14, V12) => (F_X5_zone (2 : Int32) V12).bind (fun (x17, V15) => (F_X5_isThere x14 x11 V15).bind (fun (x20, V18) => if x20 = 0 then (some V18) else ((F_X5_isThere x17 x8 V18).bind (fun (x24, V22) => if x24 = 0 then (some V22) else (if lay x14 = .inl 8 then (cr x14 0).bind (fun b27 => (sv_len 0 b27).bind (fun n29 => if sx_in x11 n29 = true then if lay x17 = .inl 8 then (cr x17 0).bind (fun b33 => (sv_len 0 b33).bind (fun n35 => if sx_in x8 n35 = true then (cr x14 1).bind (fun b38 => (sv_len 0 b38).bind (fun n40 => if sx_in x11 n40 = true then (cr x17 1).bind (fun b43 => (sv_len 0 b43).bind (fun n45 => if sx_in x8 n45 = true then (F_X9_findWay N (((V22.1 b27 x11.toNatClampNeg) - (V22.1 b33 x8.toNatClampNeg)).toInt64) (((V22.1 b38 x11.toNatClampNeg) - (V22.1 b43 x8.toNatClampNeg)).toInt64) V22).bind (fun V48 => if (l1 &&& (1 : Int32)) = (1 : Int32) then ((F_X9_turnWayLeft  V48).bind (fun V51 => B_X5_goAlongLine_98 N  l1 V51)) else (B_X5_goAlongLine_98 N  l1 V48)) else none)) else none)) else none)) else none else none)) else none))))))))
set_option maxRecDepth 20000 in
theorem t_X5_goAlongLine {g : sx_G} (hG : sx_Go g) {P : Option Value → sv_V → Prop} {Vr : sv_V} (hP : P none Vr) {N : Nat} {l1 : Int32} {V : sv_V} (h : F_X5_goAlongLine N l1 V = some Vr) : sv_N g qX5_goAlongLine 2 0 [(0, .ref 69), (1, .int l1)] [] V P := by
  unfold F_X5_goAlongLine at h
  refine sx_aload_n (pc := 0) dX5_goAlongLine_0 sx_m0 ?_
  obtain ⟨⟨x8, V6⟩, g7, h⟩ := sx_bnd h
  refine sv_cV (pc := 1) (y := qX5_pop) (o := (some (.int x8))) (as := []) (V1 := V6) hG dX5_goAlongLine_1 l_X5_242 y0X5_pop yvX5_pop rfl (Nat.le_of_ble_eq_true rfl) lay_69 kr_5 (by decide) (Nat.le_of_ble_eq_true rfl) rfl rfl rfl (t_X5_pop hG ⟨rfl, rfl⟩ g7) ?_
  refine sx_istore_n (pc := 4) (lo' := [(2, .int x8), (0, .ref 69), (1, .int l1)]) dX5_goAlongLine_4 (by decide) rfl ?_
  refine sx_aload_n (pc := 5) dX5_goAlongLine_5 sx_m1 ?_
  obtain ⟨⟨x11, V9⟩, g10, h⟩ := sx_bnd h
  refine sv_cV (pc := 6) (y := qX5_pop) (o := (some (.int x11))) (as := []) (V1 := V9) hG dX5_goAlongLine_6 l_X5_242 y0X5_pop yvX5_pop rfl (Nat.le_of_ble_eq_true rfl) lay_69 kr_5 (by decide) (Nat.le_of_ble_eq_true rfl) rfl rfl rfl (t_X5_pop hG ⟨rfl, rfl⟩ g10) ?_
  refine sx_istore_n (pc := 9) (lo' := [(3, .int x11), (2, .int x8), (0, .ref 69), (1, .int l1)]) dX5_goAlongLine_9 (by decide) rfl ?_
  refine sx_aload_n (pc := 10) dX5_goAlongLine_10 sx_m2 ?_
  refine sx_iconst (pc := 11) (v := 1) dX5_goAlongLine_11 (by decide) ?_
  obtain ⟨⟨x14, V12⟩, g13, h⟩ := sx_bnd h
  refine sv_cV (pc := 12) (y := qX5_zone) (o := (some (.ref x14))) (as := [.int (1 : Int32)]) (V1 := V12) hG dX5_goAlongLine_12 l_X5_255 y0X5_zone yvX5_zone rfl (Nat.le_of_ble_eq_true rfl) lay_69 kr_5 (by decide) (Nat.le_of_ble_eq_true rfl) rfl rfl rfl (t_X5_zone hG ⟨rfl, rfl⟩ g13) ?_
  refine sx_astore (pc := 15) (lo' := [(4, .ref x14), (3, .int x11), (2, .int x8), (0, .ref 69), (1, .int l1)]) dX5_goAlongLine_15 (by decide) rfl ?_
  refine sx_aload_n (pc := 17) dX5_goAlongLine_17 sx_m3 ?_
  refine sx_iconst (pc := 18) (v := 2) dX5_goAlongLine_18 (by decide) ?_
  obtain ⟨⟨x17, V15⟩, g16, h⟩ := sx_bnd h
  refine sv_cV (pc := 19) (y := qX5_zone) (o := (some (.ref x17))) (as := [.int (2 : Int32)]) (V1 := V15) hG dX5_goAlongLine_19 l_X5_255 y0X5_zone yvX5_zone rfl (Nat.le_of_ble_eq_true rfl) lay_69 kr_5 (by decide) (Nat.le_of_ble_eq_true rfl) rfl rfl rfl (t_X5_zone hG ⟨rfl, rfl⟩ g16) ?_
  refine sx_astore (pc := 22) (lo' := [(5, .ref x17), (4, .ref x14), (3, .int x11), (2, .int x8), (0, .ref 69), (1, .int l1)]) dX5_goAlongLine_22 (by decide) rfl ?_
  refine sx_aload_n (pc := 24) dX5_goAlongLine_24 sx_m4 ?_
  refine sx_aload (pc := 25) dX5_goAlongLine_25 sx_m1 ?_
  refine sx_iload_n (pc := 27) dX5_goAlongLine_27 sx_m2 ?_
  obtain ⟨⟨x20, V18⟩, g19, h⟩ := sx_bnd h
  refine sv_cV (pc := 28) (y := qX5_isThere) (o := (some (.int x20))) (as := [.ref x14, .int x11]) (V1 := V18) hG dX5_goAlongLine_28 l_X5_259 y0X5_isThere yvX5_isThere rfl (Nat.le_of_ble_eq_true rfl) lay_69 kr_5 (by decide) (Nat.le_of_ble_eq_true rfl) rfl rfl rfl (t_X5_isThere hG ⟨rfl, rfl⟩ g19) ?_
  refine sx_if_eq (pc := 31) (tgt := 44) dX5_goAlongLine_31 (by decide) (fun c21 => ?_) (fun c21 => ?_)
  · have h := sx_pos c21 h
    exact sv_vret (pc := 44) dX5_goAlongLine_44 rfl h hP
  · have h := sx_neg c21 h
    refine sx_aload_n (pc := 34) dX5_goAlongLine_34 sx_m4 ?_
    refine sx_aload (pc := 35) dX5_goAlongLine_35 sx_m0 ?_
    refine sx_iload_n (pc := 37) dX5_goAlongLine_37 sx_m3 ?_
    obtain ⟨⟨x24, V22⟩, g23, h⟩ := sx_bnd h
    refine sv_cV (pc := 38) (y := qX5_isThere) (o := (some (.int x24))) (as := [.ref x17, .int x8]) (V1 := V22) hG dX5_goAlongLine_38 l_X5_259 y0X5_isThere yvX5_isThere rfl (Nat.le_of_ble_eq_true rfl) lay_69 kr_5 (by decide) (Nat.le_of_ble_eq_true rfl) rfl rfl rfl (t_X5_isThere hG ⟨rfl, rfl⟩ g23) ?_
    refine sx_if_ne (pc := 41) (tgt := 45) dX5_goAlongLine_41 (by decide) (fun c25 => ?_) (fun c25 => ?_)
    · have h := sx_neg c25 h
      refine sx_aload_n (pc := 45) dX5_goAlongLine_45 sx_m4 ?_
      refine sv_getO (pc := 46) hG dX5_goAlongLine_46 f_5_12 lay_69 rfl cr_69_1 ?_
      refine sx_aload (pc := 49) dX5_goAlongLine_49 sx_m1 ?_
      obtain ⟨g26, h⟩ := sx_grd h
      obtain ⟨b27, g28, h⟩ := sx_bnd h
      refine sv_getA (pc := 51) hG dX5_goAlongLine_51 f_5_198 g26 rfl g28 ?_
      refine sx_iload_n (pc := 54) dX5_goAlongLine_54 sx_m2 ?_
      obtain ⟨n29, g30, h⟩ := sx_bnd h
      obtain ⟨g31, h⟩ := sx_grd h
      refine sv_iald (pc := 55) hG dX5_goAlongLine_55 (sv_len_e g30) g31 ?_
      refine sx_aload (pc := 56) dX5_goAlongLine_56 sx_m0 ?_
      obtain ⟨g32, h⟩ := sx_grd h
      obtain ⟨b33, g34, h⟩ := sx_bnd h
      refine sv_getA (pc := 58) hG dX5_goAlongLine_58 f_5_198 g32 rfl g34 ?_
      refine sx_iload_n (pc := 61) dX5_goAlongLine_61 sx_m3 ?_
      obtain ⟨n35, g36, h⟩ := sx_bnd h
      obtain ⟨g37, h⟩ := sx_grd h
      refine sv_iald (pc := 62) hG dX5_goAlongLine_62 (sv_len_e g36) g37 ?_
      refine sx_isub (pc := 63) dX5_goAlongLine_63 ?_
      refine sx_i2l (pc := 64) dX5_goAlongLine_64 ?_
      refine sx_aload (pc := 65) dX5_goAlongLine_65 sx_m1 ?_
      obtain ⟨b38, g39, h⟩ := sx_bnd h
      refine sv_getA (pc := 67) hG dX5_goAlongLine_67 f_5_201 g26 rfl g39 ?_
      refine sx_iload_n (pc := 70) dX5_goAlongLine_70 sx_m2 ?_
      obtain ⟨n40, g41, h⟩ := sx_bnd h
      obtain ⟨g42, h⟩ := sx_grd h
      refine sv_iald (pc := 71) hG dX5_goAlongLine_71 (sv_len_e g41) g42 ?_
      refine sx_aload (pc := 72) dX5_goAlongLine_72 sx_m0 ?_
      obtain ⟨b43, g44, h⟩ := sx_bnd h
      refine sv_getA (pc := 74) hG dX5_goAlongLine_74 f_5_201 g32 rfl g44 ?_
      refine sx_iload_n (pc := 77) dX5_goAlongLine_77 sx_m3 ?_
      obtain ⟨n45, g46, h⟩ := sx_bnd h
      obtain ⟨g47, h⟩ := sx_grd h
      refine sv_iald (pc := 78) hG dX5_goAlongLine_78 (sv_len_e g46) g47 ?_
      refine sx_isub (pc := 79) dX5_goAlongLine_79 ?_
      refine sx_i2l (pc := 80) dX5_goAlongLine_80 ?_
      obtain ⟨V48, g49, h⟩ := sx_bnd h
      refine sv_cV (pc := 81) (y := qX9_findWay) (o := none) (as := [.long (((V22.1 b27 x11.toNatClampNeg) - (V22.1 b33 x8.toNatClampNeg)).toInt64), .long (((V22.1 b38 x11.toNatClampNeg) - (V22.1 b43 x8.toNatClampNeg)).toInt64)]) (V1 := V48) hG dX5_goAlongLine_81 l_X5_245 y0X9_findWay yvX9_findWay rfl (Nat.le_of_ble_eq_true rfl) lay_70 kr_9 (by decide) (Nat.le_of_ble_eq_true rfl) rfl rfl rfl (t_X9_findWay hG ⟨rfl, rfl⟩ g49) ?_
      refine sx_iload_n (pc := 84) dX5_goAlongLine_84 sx_m5 ?_
      refine sx_iconst (pc := 85) (v := 1) dX5_goAlongLine_85 (by decide) ?_
      refine sx_iand (pc := 86) dX5_goAlongLine_86 ?_
      refine sx_iconst (pc := 87) (v := 1) dX5_goAlongLine_87 (by decide) ?_
      refine sx_icmp_ne (pc := 88) (tgt := 98) dX5_goAlongLine_88 (by decide) (fun c50 => ?_) (fun c50 => ?_)
      · have h := sx_neg c50 h
        refine sx_wk (sx_s1 sx_m4 (sx_s1 sx_m5 sx_s0)) ?_
        exact tB_X5_goAlongLine_98 hG hP  h
      · have h := sx_pos c50 h
        refine sx_aload_n (pc := 91) dX5_goAlongLine_91 sx_m4 ?_
        refine sv_getO (pc := 92) hG dX5_goAlongLine_92 f_5_12 lay_69 rfl cr_69_1 ?_
        obtain ⟨V51, g52, h⟩ := sx_bnd h
        refine sv_cV (pc := 95) (y := qX9_turnWayLeft) (o := none) (as := []) (V1 := V51) hG dX5_goAlongLine_95 l_X5_263 y0X9_turnWayLeft yvX9_turnWayLeft rfl (Nat.le_of_ble_eq_true rfl) lay_70 kr_9 (by decide) (Nat.le_of_ble_eq_true rfl) rfl rfl rfl (t_X9_turnWayLeft hG ⟨rfl, rfl⟩ g52) ?_
        refine sx_wk (sx_s1 sx_m4 (sx_s1 sx_m5 sx_s0)) ?_
        exact tB_X5_goAlongLine_98 hG hP  h
    · have h := sx_pos c25 h
      exact sv_vret (pc := 44) dX5_goAlongLine_44 rfl h hP
def ncX5_goAlongBothLines : Nat := 1522200341756198170307847757399288946596598868510065938510503103758194930227544339504281188409513227926185227918346003667023978152008801086158941924782667752084674988383290540292602377954928176182891944183734384393339423052497243617996934601458191376111969469996287888436593407289162541954850367109312198572071190858419303354264244981010385542828549081808636168447117507362655419130414981000561894972012108860259092346404267480308165104632680583050794
theorem kcX5_goAlongBothLines : CK cX5_goAlongBothLines ncX5_goAlongBothLines 187 := ⟨by decide +kernel, by decide +kernel⟩
theorem dX5_goAlongBothLines_0 : decode cX5_goAlongBothLines 0 = .ok (.aload_n 0, 1) := dl_o42 kcX5_goAlongBothLines (by decide +kernel)
theorem dX5_goAlongBothLines_1 : decode cX5_goAlongBothLines 1 = .ok (.invokevirtual 242, 3) := dl_o182 kcX5_goAlongBothLines (by decide +kernel)
theorem dX5_goAlongBothLines_4 : decode cX5_goAlongBothLines 4 = .ok (.istore_n 2, 1) := dl_o61 kcX5_goAlongBothLines (by decide +kernel)
theorem dX5_goAlongBothLines_5 : decode cX5_goAlongBothLines 5 = .ok (.aload_n 0, 1) := dl_o42 kcX5_goAlongBothLines (by decide +kernel)
theorem dX5_goAlongBothLines_6 : decode cX5_goAlongBothLines 6 = .ok (.invokevirtual 242, 3) := dl_o182 kcX5_goAlongBothLines (by decide +kernel)
theorem dX5_goAlongBothLines_9 : decode cX5_goAlongBothLines 9 = .ok (.istore_n 3, 1) := dl_o62 kcX5_goAlongBothLines (by decide +kernel)
theorem dX5_goAlongBothLines_10 : decode cX5_goAlongBothLines 10 = .ok (.aload_n 0, 1) := dl_o42 kcX5_goAlongBothLines (by decide +kernel)
theorem dX5_goAlongBothLines_11 : decode cX5_goAlongBothLines 11 = .ok (.iconst 1, 1) := dl_o4 kcX5_goAlongBothLines (by decide +kernel)
theorem dX5_goAlongBothLines_12 : decode cX5_goAlongBothLines 12 = .ok (.invokevirtual 255, 3) := dl_o182 kcX5_goAlongBothLines (by decide +kernel)
theorem dX5_goAlongBothLines_15 : decode cX5_goAlongBothLines 15 = .ok (.astore 4, 2) := dl_o58 kcX5_goAlongBothLines (by decide +kernel)
theorem dX5_goAlongBothLines_17 : decode cX5_goAlongBothLines 17 = .ok (.aload_n 0, 1) := dl_o42 kcX5_goAlongBothLines (by decide +kernel)
theorem dX5_goAlongBothLines_18 : decode cX5_goAlongBothLines 18 = .ok (.iconst 2, 1) := dl_o5 kcX5_goAlongBothLines (by decide +kernel)
theorem dX5_goAlongBothLines_19 : decode cX5_goAlongBothLines 19 = .ok (.invokevirtual 255, 3) := dl_o182 kcX5_goAlongBothLines (by decide +kernel)
theorem dX5_goAlongBothLines_22 : decode cX5_goAlongBothLines 22 = .ok (.astore 5, 2) := dl_o58 kcX5_goAlongBothLines (by decide +kernel)
theorem dX5_goAlongBothLines_24 : decode cX5_goAlongBothLines 24 = .ok (.aload_n 0, 1) := dl_o42 kcX5_goAlongBothLines (by decide +kernel)
theorem dX5_goAlongBothLines_25 : decode cX5_goAlongBothLines 25 = .ok (.aload 4, 2) := dl_o25 kcX5_goAlongBothLines (by decide +kernel)
theorem dX5_goAlongBothLines_27 : decode cX5_goAlongBothLines 27 = .ok (.iload_n 3, 1) := dl_o29 kcX5_goAlongBothLines (by decide +kernel)
theorem dX5_goAlongBothLines_28 : decode cX5_goAlongBothLines 28 = .ok (.invokevirtual 259, 3) := dl_o182 kcX5_goAlongBothLines (by decide +kernel)
theorem dX5_goAlongBothLines_31 : decode cX5_goAlongBothLines 31 = .ok (.ifCond .eq 13, 3) := dl_o153 kcX5_goAlongBothLines 13 (by decide +kernel) (by decide +kernel)
theorem dX5_goAlongBothLines_34 : decode cX5_goAlongBothLines 34 = .ok (.aload_n 0, 1) := dl_o42 kcX5_goAlongBothLines (by decide +kernel)
theorem dX5_goAlongBothLines_35 : decode cX5_goAlongBothLines 35 = .ok (.aload 5, 2) := dl_o25 kcX5_goAlongBothLines (by decide +kernel)
theorem dX5_goAlongBothLines_37 : decode cX5_goAlongBothLines 37 = .ok (.iload_n 2, 1) := dl_o28 kcX5_goAlongBothLines (by decide +kernel)
theorem dX5_goAlongBothLines_38 : decode cX5_goAlongBothLines 38 = .ok (.invokevirtual 259, 3) := dl_o182 kcX5_goAlongBothLines (by decide +kernel)
theorem dX5_goAlongBothLines_41 : decode cX5_goAlongBothLines 41 = .ok (.ifCond .ne 4, 3) := dl_o154 kcX5_goAlongBothLines 4 (by decide +kernel) (by decide +kernel)
theorem dX5_goAlongBothLines_44 : decode cX5_goAlongBothLines 44 = .ok (.return_, 1) := dl_o177 kcX5_goAlongBothLines (by decide +kernel)
theorem dX5_goAlongBothLines_45 : decode cX5_goAlongBothLines 45 = .ok (.aload_n 0, 1) := dl_o42 kcX5_goAlongBothLines (by decide +kernel)
theorem dX5_goAlongBothLines_46 : decode cX5_goAlongBothLines 46 = .ok (.getfield 12, 3) := dl_o180 kcX5_goAlongBothLines (by decide +kernel)
theorem dX5_goAlongBothLines_49 : decode cX5_goAlongBothLines 49 = .ok (.aload 4, 2) := dl_o25 kcX5_goAlongBothLines (by decide +kernel)
theorem dX5_goAlongBothLines_51 : decode cX5_goAlongBothLines 51 = .ok (.getfield 198, 3) := dl_o180 kcX5_goAlongBothLines (by decide +kernel)
theorem dX5_goAlongBothLines_54 : decode cX5_goAlongBothLines 54 = .ok (.iload_n 3, 1) := dl_o29 kcX5_goAlongBothLines (by decide +kernel)
theorem dX5_goAlongBothLines_55 : decode cX5_goAlongBothLines 55 = .ok (.iaload, 1) := dl_o46 kcX5_goAlongBothLines (by decide +kernel)
theorem dX5_goAlongBothLines_56 : decode cX5_goAlongBothLines 56 = .ok (.aload 5, 2) := dl_o25 kcX5_goAlongBothLines (by decide +kernel)
theorem dX5_goAlongBothLines_58 : decode cX5_goAlongBothLines 58 = .ok (.getfield 198, 3) := dl_o180 kcX5_goAlongBothLines (by decide +kernel)
theorem dX5_goAlongBothLines_61 : decode cX5_goAlongBothLines 61 = .ok (.iload_n 2, 1) := dl_o28 kcX5_goAlongBothLines (by decide +kernel)
theorem dX5_goAlongBothLines_62 : decode cX5_goAlongBothLines 62 = .ok (.iaload, 1) := dl_o46 kcX5_goAlongBothLines (by decide +kernel)
theorem dX5_goAlongBothLines_63 : decode cX5_goAlongBothLines 63 = .ok (.isub, 1) := dl_o100 kcX5_goAlongBothLines (by decide +kernel)
theorem dX5_goAlongBothLines_64 : decode cX5_goAlongBothLines 64 = .ok (.i2l, 1) := dl_o133 kcX5_goAlongBothLines (by decide +kernel)
theorem dX5_goAlongBothLines_65 : decode cX5_goAlongBothLines 65 = .ok (.aload 4, 2) := dl_o25 kcX5_goAlongBothLines (by decide +kernel)
theorem dX5_goAlongBothLines_67 : decode cX5_goAlongBothLines 67 = .ok (.getfield 201, 3) := dl_o180 kcX5_goAlongBothLines (by decide +kernel)
theorem dX5_goAlongBothLines_70 : decode cX5_goAlongBothLines 70 = .ok (.iload_n 3, 1) := dl_o29 kcX5_goAlongBothLines (by decide +kernel)
theorem dX5_goAlongBothLines_71 : decode cX5_goAlongBothLines 71 = .ok (.iaload, 1) := dl_o46 kcX5_goAlongBothLines (by decide +kernel)
theorem dX5_goAlongBothLines_72 : decode cX5_goAlongBothLines 72 = .ok (.aload 5, 2) := dl_o25 kcX5_goAlongBothLines (by decide +kernel)
theorem dX5_goAlongBothLines_74 : decode cX5_goAlongBothLines 74 = .ok (.getfield 201, 3) := dl_o180 kcX5_goAlongBothLines (by decide +kernel)
theorem dX5_goAlongBothLines_77 : decode cX5_goAlongBothLines 77 = .ok (.iload_n 2, 1) := dl_o28 kcX5_goAlongBothLines (by decide +kernel)
theorem dX5_goAlongBothLines_78 : decode cX5_goAlongBothLines 78 = .ok (.iaload, 1) := dl_o46 kcX5_goAlongBothLines (by decide +kernel)
theorem dX5_goAlongBothLines_79 : decode cX5_goAlongBothLines 79 = .ok (.isub, 1) := dl_o100 kcX5_goAlongBothLines (by decide +kernel)
theorem dX5_goAlongBothLines_80 : decode cX5_goAlongBothLines 80 = .ok (.i2l, 1) := dl_o133 kcX5_goAlongBothLines (by decide +kernel)
theorem dX5_goAlongBothLines_81 : decode cX5_goAlongBothLines 81 = .ok (.invokevirtual 245, 3) := dl_o182 kcX5_goAlongBothLines (by decide +kernel)
theorem dX5_goAlongBothLines_84 : decode cX5_goAlongBothLines 84 = .ok (.iload_n 1, 1) := dl_o27 kcX5_goAlongBothLines (by decide +kernel)
theorem dX5_goAlongBothLines_85 : decode cX5_goAlongBothLines 85 = .ok (.sipush 135, 3) := dl_o17 kcX5_goAlongBothLines 135 (by decide +kernel) (by decide +kernel)
theorem dX5_goAlongBothLines_88 : decode cX5_goAlongBothLines 88 = .ok (.if_icmp .ne 10, 3) := dl_o160 kcX5_goAlongBothLines 10 (by decide +kernel) (by decide +kernel)
theorem dX5_goAlongBothLines_91 : decode cX5_goAlongBothLines 91 = .ok (.aload_n 0, 1) := dl_o42 kcX5_goAlongBothLines (by decide +kernel)
theorem dX5_goAlongBothLines_92 : decode cX5_goAlongBothLines 92 = .ok (.getfield 12, 3) := dl_o180 kcX5_goAlongBothLines (by decide +kernel)
theorem dX5_goAlongBothLines_95 : decode cX5_goAlongBothLines 95 = .ok (.invokevirtual 263, 3) := dl_o182 kcX5_goAlongBothLines (by decide +kernel)
theorem dX5_goAlongBothLines_98 : decode cX5_goAlongBothLines 98 = .ok (.aload_n 0, 1) := dl_o42 kcX5_goAlongBothLines (by decide +kernel)
theorem dX5_goAlongBothLines_99 : decode cX5_goAlongBothLines 99 = .ok (.getfield 12, 3) := dl_o180 kcX5_goAlongBothLines (by decide +kernel)
theorem dX5_goAlongBothLines_102 : decode cX5_goAlongBothLines 102 = .ok (.invokevirtual 249, 3) := dl_o182 kcX5_goAlongBothLines (by decide +kernel)
theorem dX5_goAlongBothLines_105 : decode cX5_goAlongBothLines 105 = .ok (.aload_n 0, 1) := dl_o42 kcX5_goAlongBothLines (by decide +kernel)
theorem dX5_goAlongBothLines_106 : decode cX5_goAlongBothLines 106 = .ok (.getfield 12, 3) := dl_o180 kcX5_goAlongBothLines (by decide +kernel)
theorem dX5_goAlongBothLines_109 : decode cX5_goAlongBothLines 109 = .ok (.aload 4, 2) := dl_o25 kcX5_goAlongBothLines (by decide +kernel)
theorem dX5_goAlongBothLines_111 : decode cX5_goAlongBothLines 111 = .ok (.getfield 204, 3) := dl_o180 kcX5_goAlongBothLines (by decide +kernel)
theorem dX5_goAlongBothLines_114 : decode cX5_goAlongBothLines 114 = .ok (.iload_n 3, 1) := dl_o29 kcX5_goAlongBothLines (by decide +kernel)
theorem dX5_goAlongBothLines_115 : decode cX5_goAlongBothLines 115 = .ok (.iaload, 1) := dl_o46 kcX5_goAlongBothLines (by decide +kernel)
theorem dX5_goAlongBothLines_116 : decode cX5_goAlongBothLines 116 = .ok (.aload 5, 2) := dl_o25 kcX5_goAlongBothLines (by decide +kernel)
theorem dX5_goAlongBothLines_118 : decode cX5_goAlongBothLines 118 = .ok (.getfield 204, 3) := dl_o180 kcX5_goAlongBothLines (by decide +kernel)
theorem dX5_goAlongBothLines_121 : decode cX5_goAlongBothLines 121 = .ok (.iload_n 2, 1) := dl_o28 kcX5_goAlongBothLines (by decide +kernel)
theorem dX5_goAlongBothLines_122 : decode cX5_goAlongBothLines 122 = .ok (.iaload, 1) := dl_o46 kcX5_goAlongBothLines (by decide +kernel)
theorem dX5_goAlongBothLines_123 : decode cX5_goAlongBothLines 123 = .ok (.isub, 1) := dl_o100 kcX5_goAlongBothLines (by decide +kernel)
theorem dX5_goAlongBothLines_124 : decode cX5_goAlongBothLines 124 = .ok (.i2l, 1) := dl_o133 kcX5_goAlongBothLines (by decide +kernel)
theorem dX5_goAlongBothLines_125 : decode cX5_goAlongBothLines 125 = .ok (.aload 4, 2) := dl_o25 kcX5_goAlongBothLines (by decide +kernel)
theorem dX5_goAlongBothLines_127 : decode cX5_goAlongBothLines 127 = .ok (.getfield 207, 3) := dl_o180 kcX5_goAlongBothLines (by decide +kernel)
theorem dX5_goAlongBothLines_130 : decode cX5_goAlongBothLines 130 = .ok (.iload_n 3, 1) := dl_o29 kcX5_goAlongBothLines (by decide +kernel)
theorem dX5_goAlongBothLines_131 : decode cX5_goAlongBothLines 131 = .ok (.iaload, 1) := dl_o46 kcX5_goAlongBothLines (by decide +kernel)
theorem dX5_goAlongBothLines_132 : decode cX5_goAlongBothLines 132 = .ok (.aload 5, 2) := dl_o25 kcX5_goAlongBothLines (by decide +kernel)
theorem dX5_goAlongBothLines_134 : decode cX5_goAlongBothLines 134 = .ok (.getfield 207, 3) := dl_o180 kcX5_goAlongBothLines (by decide +kernel)
theorem dX5_goAlongBothLines_137 : decode cX5_goAlongBothLines 137 = .ok (.iload_n 2, 1) := dl_o28 kcX5_goAlongBothLines (by decide +kernel)
theorem dX5_goAlongBothLines_138 : decode cX5_goAlongBothLines 138 = .ok (.iaload, 1) := dl_o46 kcX5_goAlongBothLines (by decide +kernel)
theorem dX5_goAlongBothLines_139 : decode cX5_goAlongBothLines 139 = .ok (.isub, 1) := dl_o100 kcX5_goAlongBothLines (by decide +kernel)
theorem dX5_goAlongBothLines_140 : decode cX5_goAlongBothLines 140 = .ok (.i2l, 1) := dl_o133 kcX5_goAlongBothLines (by decide +kernel)
theorem dX5_goAlongBothLines_141 : decode cX5_goAlongBothLines 141 = .ok (.invokevirtual 245, 3) := dl_o182 kcX5_goAlongBothLines (by decide +kernel)
theorem dX5_goAlongBothLines_144 : decode cX5_goAlongBothLines 144 = .ok (.iload_n 1, 1) := dl_o27 kcX5_goAlongBothLines (by decide +kernel)
theorem dX5_goAlongBothLines_145 : decode cX5_goAlongBothLines 145 = .ok (.sipush 135, 3) := dl_o17 kcX5_goAlongBothLines 135 (by decide +kernel) (by decide +kernel)
theorem dX5_goAlongBothLines_148 : decode cX5_goAlongBothLines 148 = .ok (.if_icmp .ne 10, 3) := dl_o160 kcX5_goAlongBothLines 10 (by decide +kernel) (by decide +kernel)
theorem dX5_goAlongBothLines_151 : decode cX5_goAlongBothLines 151 = .ok (.aload_n 0, 1) := dl_o42 kcX5_goAlongBothLines (by decide +kernel)
theorem dX5_goAlongBothLines_152 : decode cX5_goAlongBothLines 152 = .ok (.getfield 12, 3) := dl_o180 kcX5_goAlongBothLines (by decide +kernel)
theorem dX5_goAlongBothLines_155 : decode cX5_goAlongBothLines 155 = .ok (.invokevirtual 263, 3) := dl_o182 kcX5_goAlongBothLines (by decide +kernel)
theorem dX5_goAlongBothLines_158 : decode cX5_goAlongBothLines 158 = .ok (.aload_n 0, 1) := dl_o42 kcX5_goAlongBothLines (by decide +kernel)
theorem dX5_goAlongBothLines_159 : decode cX5_goAlongBothLines 159 = .ok (.getfield 12, 3) := dl_o180 kcX5_goAlongBothLines (by decide +kernel)
theorem dX5_goAlongBothLines_162 : decode cX5_goAlongBothLines 162 = .ok (.aload_n 0, 1) := dl_o42 kcX5_goAlongBothLines (by decide +kernel)
theorem dX5_goAlongBothLines_163 : decode cX5_goAlongBothLines 163 = .ok (.getfield 12, 3) := dl_o180 kcX5_goAlongBothLines (by decide +kernel)
theorem dX5_goAlongBothLines_166 : decode cX5_goAlongBothLines 166 = .ok (.getfield 266, 3) := dl_o180 kcX5_goAlongBothLines (by decide +kernel)
theorem dX5_goAlongBothLines_169 : decode cX5_goAlongBothLines 169 = .ok (.putfield 192, 3) := dl_o181 kcX5_goAlongBothLines (by decide +kernel)
theorem dX5_goAlongBothLines_172 : decode cX5_goAlongBothLines 172 = .ok (.aload_n 0, 1) := dl_o42 kcX5_goAlongBothLines (by decide +kernel)
theorem dX5_goAlongBothLines_173 : decode cX5_goAlongBothLines 173 = .ok (.getfield 12, 3) := dl_o180 kcX5_goAlongBothLines (by decide +kernel)
theorem dX5_goAlongBothLines_176 : decode cX5_goAlongBothLines 176 = .ok (.aload_n 0, 1) := dl_o42 kcX5_goAlongBothLines (by decide +kernel)
theorem dX5_goAlongBothLines_177 : decode cX5_goAlongBothLines 177 = .ok (.getfield 12, 3) := dl_o180 kcX5_goAlongBothLines (by decide +kernel)
theorem dX5_goAlongBothLines_180 : decode cX5_goAlongBothLines 180 = .ok (.getfield 269, 3) := dl_o180 kcX5_goAlongBothLines (by decide +kernel)
theorem dX5_goAlongBothLines_183 : decode cX5_goAlongBothLines 183 = .ok (.putfield 195, 3) := dl_o181 kcX5_goAlongBothLines (by decide +kernel)
theorem dX5_goAlongBothLines_186 : decode cX5_goAlongBothLines 186 = .ok (.return_, 1) := dl_o177 kcX5_goAlongBothLines (by decide +kernel)
def B_X5_goAlongBothLines_158 (N : Nat)   (V : sv_V) : Option sv_V := sx_let (sv_I V 70 4 (V.1 70 12)) (fun V1 => sx_let (sv_I V1 70 5 (V1.1 70 13)) (fun V2 => some V2))
set_option maxRecDepth 20000 in
theorem tB_X5_goAlongBothLines_158 {g : sx_G} (hG : sx_Go g) {P : Option Value → sv_V → Prop} {Vr : sv_V} (hP : P none Vr) {N : Nat}    {V : sv_V} (h : B_X5_goAlongBothLines_158 N   V = some Vr) : sv_N g qX5_goAlongBothLines 2 158 [(0, .ref 69)] [] V P := by
  unfold B_X5_goAlongBothLines_158 at h
  refine sx_aload_n (pc := 158) dX5_goAlongBothLines_158 sx_m0 ?_
  refine sv_getO (pc := 159) hG dX5_goAlongBothLines_159 f_5_12 lay_69 rfl cr_69_1 ?_
  refine sx_aload_n (pc := 162) dX5_goAlongBothLines_162 sx_m0 ?_
  refine sv_getO (pc := 163) hG dX5_goAlongBothLines_163 f_5_12 lay_69 rfl cr_69_1 ?_
  refine sv_getI (pc := 166) hG dX5_goAlongBothLines_166 f_5_266 lay_70 rfl ?_
  obtain ⟨V1, hV1⟩ : ∃ z : sv_V, z = sv_I V 70 4 (V.1 70 12) := ⟨_, rfl⟩
  have h := sx_letE hV1 h
  refine sv_putI (pc := 169) hG dX5_goAlongBothLines_169 f_5_192 lay_70 rfl hV1 ?_
  refine sx_aload_n (pc := 172) dX5_goAlongBothLines_172 sx_m0 ?_
  refine sv_getO (pc := 173) hG dX5_goAlongBothLines_173 f_5_12 lay_69 rfl cr_69_1 ?_
  refine sx_aload_n (pc := 176) dX5_goAlongBothLines_176 sx_m0 ?_
  refine sv_getO (pc := 177) hG dX5_goAlongBothLines_177 f_5_12 lay_69 rfl cr_69_1 ?_
  refine sv_getI (pc := 180) hG dX5_goAlongBothLines_180 f_5_269 lay_70 rfl ?_
  obtain ⟨V2, hV2⟩ : ∃ z : sv_V, z = sv_I V1 70 5 (V1.1 70 13) := ⟨_, rfl⟩
  have h := sx_letE hV2 h
  refine sv_putI (pc := 183) hG dX5_goAlongBothLines_183 f_5_195 lay_70 rfl hV2 ?_
  exact sv_vret (pc := 186) dX5_goAlongBothLines_186 rfl h hP
def B_X5_goAlongBothLines_98 (N : Nat)  (l1 : Int32) (l2 : Int32) (l3 : Int32) (l4 : Nat) (l5 : Nat) (V : sv_V) : Option sv_V := (F_X9_useWayForP  V).bind (fun V3 => if lay l4 = .inl 8 then (cr l4 2).bind (fun b6 => (sv_len 0 b6).bind (fun n8 => if sx_in l3 n8 = true then if lay l5 = .inl 8 then (cr l5 2).bind (fun b12 => (sv_len 0 b12).bind (fun n14 => if sx_in l2 n14 = true then (cr l4 3).bind (fun b17 => (sv_len 0 b17).bind (fun n19 => if sx_in l3 n19 = true then (cr l5 3).bind (fun b22 => (sv_len 0 b22).bind (fun n24 => if sx_in l2 n24 = true then (F_X9_findWay N (((V3.1 b6 l3.toNatClampNeg) - (V3.1 b12 l2.toNatClampNeg)).toInt64) (((V3.1 b17 l3.toNatClampNeg) - (V3.1 b22 l2.toNatClampNeg)).toInt64) V3).bind (fun V27 => if l1 = (135 : Int32) then ((F_X9_turnWayLeft  V27).bind (fun V30 => B_X5_goAlongBothLines_158 N   V30)) else (B_X5_goAlongBothLines_158 N   V27)) else none)) else none)) else none)) else none else none)) else none)
set_option maxRecDepth 20000 in
theorem tB_X5_goAlongBothLines_98 {g : sx_G} (hG : sx_Go g) {P : Option Value → sv_V → Prop} {Vr : sv_V} (hP : P none Vr) {N : Nat}   {l1 : Int32} {l2 : Int32} {l3 : Int32} {l4 : Nat} {l5 : Nat} {V : sv_V} (h : B_X5_goAlongBothLines_98 N  l1 l2 l3 l4 l5 V = some Vr) : sv_N g qX5_goAlongBothLines 2 98 [(0, .ref 69), (1, .int l1), (2, .int l2), (3, .int l3), (4, .ref l4), (5, .ref l5)] [] V P := by
  unfold B_X5_goAlongBothLines_98 at h
  refine sx_aload_n (pc := 98) dX5_goAlongBothLines_98 sx_m0 ?_
  refine sv_getO (pc := 99) hG dX5_goAlongBothLines_99 f_5_12 lay_69 rfl cr_69_1 ?_
  obtain ⟨V3, g4, h⟩ := sx_bnd h
  refine sv_cV (pc := 102) (y := qX9_useWayForP) (o := none) (as := []) (V1 := V3) hG dX5_goAlongBothLines_102 l_X5_249 y0X9_useWayForP yvX9_useWayForP rfl (Nat.le_of_ble_eq_true rfl) lay_70 kr_9 (by decide) (Nat.le_of_ble_eq_true rfl) rfl rfl rfl (t_X9_useWayForP hG ⟨rfl, rfl⟩ g4) ?_
  refine sx_aload_n (pc := 105) dX5_goAlongBothLines_105 sx_m0 ?_
  refine sv_getO (pc := 106) hG dX5_goAlongBothLines_106 f_5_12 lay_69 rfl cr_69_1 ?_
  refine sx_aload (pc := 109) dX5_goAlongBothLines_109 sx_m4 ?_
  obtain ⟨g5, h⟩ := sx_grd h
  obtain ⟨b6, g7, h⟩ := sx_bnd h
  refine sv_getA (pc := 111) hG dX5_goAlongBothLines_111 f_5_204 g5 rfl g7 ?_
  refine sx_iload_n (pc := 114) dX5_goAlongBothLines_114 sx_m3 ?_
  obtain ⟨n8, g9, h⟩ := sx_bnd h
  obtain ⟨g10, h⟩ := sx_grd h
  refine sv_iald (pc := 115) hG dX5_goAlongBothLines_115 (sv_len_e g9) g10 ?_
  refine sx_aload (pc := 116) dX5_goAlongBothLines_116 sx_m5 ?_
  obtain ⟨g11, h⟩ := sx_grd h
  obtain ⟨b12, g13, h⟩ := sx_bnd h
  refine sv_getA (pc := 118) hG dX5_goAlongBothLines_118 f_5_204 g11 rfl g13 ?_
  refine sx_iload_n (pc := 121) dX5_goAlongBothLines_121 sx_m2 ?_
  obtain ⟨n14, g15, h⟩ := sx_bnd h
  obtain ⟨g16, h⟩ := sx_grd h
  refine sv_iald (pc := 122) hG dX5_goAlongBothLines_122 (sv_len_e g15) g16 ?_
  refine sx_isub (pc := 123) dX5_goAlongBothLines_123 ?_
  refine sx_i2l (pc := 124) dX5_goAlongBothLines_124 ?_
  refine sx_aload (pc := 125) dX5_goAlongBothLines_125 sx_m4 ?_
  obtain ⟨b17, g18, h⟩ := sx_bnd h
  refine sv_getA (pc := 127) hG dX5_goAlongBothLines_127 f_5_207 g5 rfl g18 ?_
  refine sx_iload_n (pc := 130) dX5_goAlongBothLines_130 sx_m3 ?_
  obtain ⟨n19, g20, h⟩ := sx_bnd h
  obtain ⟨g21, h⟩ := sx_grd h
  refine sv_iald (pc := 131) hG dX5_goAlongBothLines_131 (sv_len_e g20) g21 ?_
  refine sx_aload (pc := 132) dX5_goAlongBothLines_132 sx_m5 ?_
  obtain ⟨b22, g23, h⟩ := sx_bnd h
  refine sv_getA (pc := 134) hG dX5_goAlongBothLines_134 f_5_207 g11 rfl g23 ?_
  refine sx_iload_n (pc := 137) dX5_goAlongBothLines_137 sx_m2 ?_
  obtain ⟨n24, g25, h⟩ := sx_bnd h
  obtain ⟨g26, h⟩ := sx_grd h
  refine sv_iald (pc := 138) hG dX5_goAlongBothLines_138 (sv_len_e g25) g26 ?_
  refine sx_isub (pc := 139) dX5_goAlongBothLines_139 ?_
  refine sx_i2l (pc := 140) dX5_goAlongBothLines_140 ?_
  obtain ⟨V27, g28, h⟩ := sx_bnd h
  refine sv_cV (pc := 141) (y := qX9_findWay) (o := none) (as := [.long (((V3.1 b6 l3.toNatClampNeg) - (V3.1 b12 l2.toNatClampNeg)).toInt64), .long (((V3.1 b17 l3.toNatClampNeg) - (V3.1 b22 l2.toNatClampNeg)).toInt64)]) (V1 := V27) hG dX5_goAlongBothLines_141 l_X5_245 y0X9_findWay yvX9_findWay rfl (Nat.le_of_ble_eq_true rfl) lay_70 kr_9 (by decide) (Nat.le_of_ble_eq_true rfl) rfl rfl rfl (t_X9_findWay hG ⟨rfl, rfl⟩ g28) ?_
  refine sx_iload_n (pc := 144) dX5_goAlongBothLines_144 sx_m1 ?_
  refine sx_sipush (pc := 145) (v := 135) dX5_goAlongBothLines_145 (by decide) ?_
  refine sx_icmp_ne (pc := 148) (tgt := 158) dX5_goAlongBothLines_148 (by decide) (fun c29 => ?_) (fun c29 => ?_)
  · have h := sx_neg c29 h
    refine sx_wk (sx_s1 sx_m0 sx_s0) ?_
    exact tB_X5_goAlongBothLines_158 hG hP  h
  · have h := sx_pos c29 h
    refine sx_aload_n (pc := 151) dX5_goAlongBothLines_151 sx_m0 ?_
    refine sv_getO (pc := 152) hG dX5_goAlongBothLines_152 f_5_12 lay_69 rfl cr_69_1 ?_
    obtain ⟨V30, g31, h⟩ := sx_bnd h
    refine sv_cV (pc := 155) (y := qX9_turnWayLeft) (o := none) (as := []) (V1 := V30) hG dX5_goAlongBothLines_155 l_X5_263 y0X9_turnWayLeft yvX9_turnWayLeft rfl (Nat.le_of_ble_eq_true rfl) lay_70 kr_9 (by decide) (Nat.le_of_ble_eq_true rfl) rfl rfl rfl (t_X9_turnWayLeft hG ⟨rfl, rfl⟩ g31) ?_
    refine sx_wk (sx_s1 sx_m0 sx_s0) ?_
    exact tB_X5_goAlongBothLines_158 hG hP  h
def F_X5_goAlongBothLines (N : Nat) (l1 : Int32) (V : sv_V) : Option sv_V := (F_X5_pop  V).bind (fun (x34, V32) => (F_X5_pop  V32).bind (fun (x37, V35) => (F_X5_zone (1 : Int32) V35).bind (fun (x40, V38) => (F_X5_zone (2 : Int32) V38).bind (fun (x43, V41) => (F_X5_isThere x40 x37 V41).bind (fun (x46, V44) => if x46 = 0 then (some V44) else ((F_X5_isThere x43 x34 V44).bind (fun (x50, V48) => if x50 = 0 then (some V48) else (if lay x40 = .inl 8 then (cr x40 0).bind (fun b53 => (sv_len 0 b53).bind (fun n55 => if sx_in x37 n55 = true then if lay x43 = .inl 8 then (cr x43 0).bind (fun b59 => (sv_len 0 b59).bind (fun n61 => if sx_in x34 n61 = true then (cr x40 1).bind (fun b64 => (sv_len 0 b64).bind (fun n66 => if sx_in x37 n66 = true then (cr x43 1).bind (fun b69 => (sv_len 0 b69).bind (fun n71 => if sx_in x34 n71 = true then (F_X9_findWay N (((V48.1 b53 x37.toNatClampNeg) - (V48.1 b59 x34.toNatClampNeg)).toInt64) (((V48.1 b64 x37.toNatClampNeg) - (V48.1 b69 x34.toNatClampNeg)).toInt64) V48).bind (fun V74 => if l1 = (135 : Int32) then ((F_X9_turnWayLeft  V74).bind (fun V77 => B_X5_goAlongBothLines_98 N  l1 x34 x37 x40 x43 V77)) else (B_X5_goAlongBothLines_98 N  l1 x34 x37 x40 x43 V74)) else none)) else none)) else none)) else none else none)) else none))))))))
set_option maxRecDepth 20000 in
theorem t_X5_goAlongBothLines {g : sx_G} (hG : sx_Go g) {P : Option Value → sv_V → Prop} {Vr : sv_V} (hP : P none Vr) {N : Nat} {l1 : Int32} {V : sv_V} (h : F_X5_goAlongBothLines N l1 V = some Vr) : sv_N g qX5_goAlongBothLines 2 0 [(0, .ref 69), (1, .int l1)] [] V P := by
  unfold F_X5_goAlongBothLines at h
  refine sx_aload_n (pc := 0) dX5_goAlongBothLines_0 sx_m0 ?_
  obtain ⟨⟨x34, V32⟩, g33, h⟩ := sx_bnd h
  refine sv_cV (pc := 1) (y := qX5_pop) (o := (some (.int x34))) (as := []) (V1 := V32) hG dX5_goAlongBothLines_1 l_X5_242 y0X5_pop yvX5_pop rfl (Nat.le_of_ble_eq_true rfl) lay_69 kr_5 (by decide) (Nat.le_of_ble_eq_true rfl) rfl rfl rfl (t_X5_pop hG ⟨rfl, rfl⟩ g33) ?_
  refine sx_istore_n (pc := 4) (lo' := [(2, .int x34), (0, .ref 69), (1, .int l1)]) dX5_goAlongBothLines_4 (by decide) rfl ?_
  refine sx_aload_n (pc := 5) dX5_goAlongBothLines_5 sx_m1 ?_
  obtain ⟨⟨x37, V35⟩, g36, h⟩ := sx_bnd h
  refine sv_cV (pc := 6) (y := qX5_pop) (o := (some (.int x37))) (as := []) (V1 := V35) hG dX5_goAlongBothLines_6 l_X5_242 y0X5_pop yvX5_pop rfl (Nat.le_of_ble_eq_true rfl) lay_69 kr_5 (by decide) (Nat.le_of_ble_eq_true rfl) rfl rfl rfl (t_X5_pop hG ⟨rfl, rfl⟩ g36) ?_
  refine sx_istore_n (pc := 9) (lo' := [(3, .int x37), (2, .int x34), (0, .ref 69), (1, .int l1)]) dX5_goAlongBothLines_9 (by decide) rfl ?_
  refine sx_aload_n (pc := 10) dX5_goAlongBothLines_10 sx_m2 ?_
  refine sx_iconst (pc := 11) (v := 1) dX5_goAlongBothLines_11 (by decide) ?_
  obtain ⟨⟨x40, V38⟩, g39, h⟩ := sx_bnd h
  refine sv_cV (pc := 12) (y := qX5_zone) (o := (some (.ref x40))) (as := [.int (1 : Int32)]) (V1 := V38) hG dX5_goAlongBothLines_12 l_X5_255 y0X5_zone yvX5_zone rfl (Nat.le_of_ble_eq_true rfl) lay_69 kr_5 (by decide) (Nat.le_of_ble_eq_true rfl) rfl rfl rfl (t_X5_zone hG ⟨rfl, rfl⟩ g39) ?_
  refine sx_astore (pc := 15) (lo' := [(4, .ref x40), (3, .int x37), (2, .int x34), (0, .ref 69), (1, .int l1)]) dX5_goAlongBothLines_15 (by decide) rfl ?_
  refine sx_aload_n (pc := 17) dX5_goAlongBothLines_17 sx_m3 ?_
  refine sx_iconst (pc := 18) (v := 2) dX5_goAlongBothLines_18 (by decide) ?_
  obtain ⟨⟨x43, V41⟩, g42, h⟩ := sx_bnd h
  refine sv_cV (pc := 19) (y := qX5_zone) (o := (some (.ref x43))) (as := [.int (2 : Int32)]) (V1 := V41) hG dX5_goAlongBothLines_19 l_X5_255 y0X5_zone yvX5_zone rfl (Nat.le_of_ble_eq_true rfl) lay_69 kr_5 (by decide) (Nat.le_of_ble_eq_true rfl) rfl rfl rfl (t_X5_zone hG ⟨rfl, rfl⟩ g42) ?_
  refine sx_astore (pc := 22) (lo' := [(5, .ref x43), (4, .ref x40), (3, .int x37), (2, .int x34), (0, .ref 69), (1, .int l1)]) dX5_goAlongBothLines_22 (by decide) rfl ?_
  refine sx_aload_n (pc := 24) dX5_goAlongBothLines_24 sx_m4 ?_
  refine sx_aload (pc := 25) dX5_goAlongBothLines_25 sx_m1 ?_
  refine sx_iload_n (pc := 27) dX5_goAlongBothLines_27 sx_m2 ?_
  obtain ⟨⟨x46, V44⟩, g45, h⟩ := sx_bnd h
  refine sv_cV (pc := 28) (y := qX5_isThere) (o := (some (.int x46))) (as := [.ref x40, .int x37]) (V1 := V44) hG dX5_goAlongBothLines_28 l_X5_259 y0X5_isThere yvX5_isThere rfl (Nat.le_of_ble_eq_true rfl) lay_69 kr_5 (by decide) (Nat.le_of_ble_eq_true rfl) rfl rfl rfl (t_X5_isThere hG ⟨rfl, rfl⟩ g45) ?_
  refine sx_if_eq (pc := 31) (tgt := 44) dX5_goAlongBothLines_31 (by decide) (fun c47 => ?_) (fun c47 => ?_)
  · have h := sx_pos c47 h
    exact sv_vret (pc := 44) dX5_goAlongBothLines_44 rfl h hP
  · have h := sx_neg c47 h
    refine sx_aload_n (pc := 34) dX5_goAlongBothLines_34 sx_m4 ?_
    refine sx_aload (pc := 35) dX5_goAlongBothLines_35 sx_m0 ?_
    refine sx_iload_n (pc := 37) dX5_goAlongBothLines_37 sx_m3 ?_
    obtain ⟨⟨x50, V48⟩, g49, h⟩ := sx_bnd h
    refine sv_cV (pc := 38) (y := qX5_isThere) (o := (some (.int x50))) (as := [.ref x43, .int x34]) (V1 := V48) hG dX5_goAlongBothLines_38 l_X5_259 y0X5_isThere yvX5_isThere rfl (Nat.le_of_ble_eq_true rfl) lay_69 kr_5 (by decide) (Nat.le_of_ble_eq_true rfl) rfl rfl rfl (t_X5_isThere hG ⟨rfl, rfl⟩ g49) ?_
    refine sx_if_ne (pc := 41) (tgt := 45) dX5_goAlongBothLines_41 (by decide) (fun c51 => ?_) (fun c51 => ?_)
    · have h := sx_neg c51 h
      refine sx_aload_n (pc := 45) dX5_goAlongBothLines_45 sx_m4 ?_
      refine sv_getO (pc := 46) hG dX5_goAlongBothLines_46 f_5_12 lay_69 rfl cr_69_1 ?_
      refine sx_aload (pc := 49) dX5_goAlongBothLines_49 sx_m1 ?_
      obtain ⟨g52, h⟩ := sx_grd h
      obtain ⟨b53, g54, h⟩ := sx_bnd h
      refine sv_getA (pc := 51) hG dX5_goAlongBothLines_51 f_5_198 g52 rfl g54 ?_
      refine sx_iload_n (pc := 54) dX5_goAlongBothLines_54 sx_m2 ?_
      obtain ⟨n55, g56, h⟩ := sx_bnd h
      obtain ⟨g57, h⟩ := sx_grd h
      refine sv_iald (pc := 55) hG dX5_goAlongBothLines_55 (sv_len_e g56) g57 ?_
      refine sx_aload (pc := 56) dX5_goAlongBothLines_56 sx_m0 ?_
      obtain ⟨g58, h⟩ := sx_grd h
      obtain ⟨b59, g60, h⟩ := sx_bnd h
      refine sv_getA (pc := 58) hG dX5_goAlongBothLines_58 f_5_198 g58 rfl g60 ?_
      refine sx_iload_n (pc := 61) dX5_goAlongBothLines_61 sx_m3 ?_
      obtain ⟨n61, g62, h⟩ := sx_bnd h
      obtain ⟨g63, h⟩ := sx_grd h
      refine sv_iald (pc := 62) hG dX5_goAlongBothLines_62 (sv_len_e g62) g63 ?_
      refine sx_isub (pc := 63) dX5_goAlongBothLines_63 ?_
      refine sx_i2l (pc := 64) dX5_goAlongBothLines_64 ?_
      refine sx_aload (pc := 65) dX5_goAlongBothLines_65 sx_m1 ?_
      obtain ⟨b64, g65, h⟩ := sx_bnd h
      refine sv_getA (pc := 67) hG dX5_goAlongBothLines_67 f_5_201 g52 rfl g65 ?_
      refine sx_iload_n (pc := 70) dX5_goAlongBothLines_70 sx_m2 ?_
      obtain ⟨n66, g67, h⟩ := sx_bnd h
      obtain ⟨g68, h⟩ := sx_grd h
      refine sv_iald (pc := 71) hG dX5_goAlongBothLines_71 (sv_len_e g67) g68 ?_
      refine sx_aload (pc := 72) dX5_goAlongBothLines_72 sx_m0 ?_
      obtain ⟨b69, g70, h⟩ := sx_bnd h
      refine sv_getA (pc := 74) hG dX5_goAlongBothLines_74 f_5_201 g58 rfl g70 ?_
      refine sx_iload_n (pc := 77) dX5_goAlongBothLines_77 sx_m3 ?_
      obtain ⟨n71, g72, h⟩ := sx_bnd h
      obtain ⟨g73, h⟩ := sx_grd h
      refine sv_iald (pc := 78) hG dX5_goAlongBothLines_78 (sv_len_e g72) g73 ?_
      refine sx_isub (pc := 79) dX5_goAlongBothLines_79 ?_
      refine sx_i2l (pc := 80) dX5_goAlongBothLines_80 ?_
      obtain ⟨V74, g75, h⟩ := sx_bnd h
      refine sv_cV (pc := 81) (y := qX9_findWay) (o := none) (as := [.long (((V48.1 b53 x37.toNatClampNeg) - (V48.1 b59 x34.toNatClampNeg)).toInt64), .long (((V48.1 b64 x37.toNatClampNeg) - (V48.1 b69 x34.toNatClampNeg)).toInt64)]) (V1 := V74) hG dX5_goAlongBothLines_81 l_X5_245 y0X9_findWay yvX9_findWay rfl (Nat.le_of_ble_eq_true rfl) lay_70 kr_9 (by decide) (Nat.le_of_ble_eq_true rfl) rfl rfl rfl (t_X9_findWay hG ⟨rfl, rfl⟩ g75) ?_
      refine sx_iload_n (pc := 84) dX5_goAlongBothLines_84 sx_m5 ?_
      refine sx_sipush (pc := 85) (v := 135) dX5_goAlongBothLines_85 (by decide) ?_
      refine sx_icmp_ne (pc := 88) (tgt := 98) dX5_goAlongBothLines_88 (by decide) (fun c76 => ?_) (fun c76 => ?_)
      · have h := sx_neg c76 h
        refine sx_wk (sx_s1 sx_m4 (sx_s1 sx_m5 (sx_s1 sx_m3 (sx_s1 sx_m2 (sx_s1 sx_m1 (sx_s1 sx_m0 sx_s0)))))) ?_
        exact tB_X5_goAlongBothLines_98 hG hP  h
      · have h := sx_pos c76 h
        refine sx_aload_n (pc := 91) dX5_goAlongBothLines_91 sx_m4 ?_
        refine sv_getO (pc := 92) hG dX5_goAlongBothLines_92 f_5_12 lay_69 rfl cr_69_1 ?_
        obtain ⟨V77, g78, h⟩ := sx_bnd h
        refine sv_cV (pc := 95) (y := qX9_turnWayLeft) (o := none) (as := []) (V1 := V77) hG dX5_goAlongBothLines_95 l_X5_263 y0X9_turnWayLeft yvX9_turnWayLeft rfl (Nat.le_of_ble_eq_true rfl) lay_70 kr_9 (by decide) (Nat.le_of_ble_eq_true rfl) rfl rfl rfl (t_X9_turnWayLeft hG ⟨rfl, rfl⟩ g78) ?_
        refine sx_wk (sx_s1 sx_m4 (sx_s1 sx_m5 (sx_s1 sx_m3 (sx_s1 sx_m2 (sx_s1 sx_m1 (sx_s1 sx_m0 sx_s0)))))) ?_
        exact tB_X5_goAlongBothLines_98 hG hP  h
    · have h := sx_pos c51 h
      exact sv_vret (pc := 44) dX5_goAlongBothLines_44 rfl h hP
end
