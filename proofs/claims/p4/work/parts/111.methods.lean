/-! methods: X5_tellDistance, X5_fillBetween, X5_shiftPoints, X5_shiftContour, X5_shiftZone, X5_shiftByPixels, X5_interpolate, X5_alignToReference, X5_plant, X5_moveFromReference, X5_orSingle, X5_atLeast, X5_applyDelta -/
theorem dX5_tellDistance_0 : decode cX5_tellDistance 0 = .ok (.aload_n 0, 1) := by decide +kernel
theorem dX5_tellDistance_1 : decode cX5_tellDistance 1 = .ok (.invokevirtual 242, 3) := by decide +kernel
theorem dX5_tellDistance_4 : decode cX5_tellDistance 4 = .ok (.istore_n 2, 1) := by decide +kernel
theorem dX5_tellDistance_5 : decode cX5_tellDistance 5 = .ok (.aload_n 0, 1) := by decide +kernel
theorem dX5_tellDistance_6 : decode cX5_tellDistance 6 = .ok (.invokevirtual 242, 3) := by decide +kernel
theorem dX5_tellDistance_9 : decode cX5_tellDistance 9 = .ok (.istore_n 3, 1) := by decide +kernel
theorem dX5_tellDistance_10 : decode cX5_tellDistance 10 = .ok (.aload_n 0, 1) := by decide +kernel
theorem dX5_tellDistance_11 : decode cX5_tellDistance 11 = .ok (.iconst 0, 1) := by decide +kernel
theorem dX5_tellDistance_12 : decode cX5_tellDistance 12 = .ok (.invokevirtual 255, 3) := by decide +kernel
theorem dX5_tellDistance_15 : decode cX5_tellDistance 15 = .ok (.astore 4, 2) := by decide +kernel
theorem dX5_tellDistance_17 : decode cX5_tellDistance 17 = .ok (.aload_n 0, 1) := by decide +kernel
theorem dX5_tellDistance_18 : decode cX5_tellDistance 18 = .ok (.iconst 1, 1) := by decide +kernel
theorem dX5_tellDistance_19 : decode cX5_tellDistance 19 = .ok (.invokevirtual 255, 3) := by decide +kernel
theorem dX5_tellDistance_22 : decode cX5_tellDistance 22 = .ok (.astore 5, 2) := by decide +kernel
theorem dX5_tellDistance_24 : decode cX5_tellDistance 24 = .ok (.aload_n 0, 1) := by decide +kernel
theorem dX5_tellDistance_25 : decode cX5_tellDistance 25 = .ok (.aload 4, 2) := by decide +kernel
theorem dX5_tellDistance_27 : decode cX5_tellDistance 27 = .ok (.iload_n 3, 1) := by decide +kernel
theorem dX5_tellDistance_28 : decode cX5_tellDistance 28 = .ok (.invokevirtual 259, 3) := by decide +kernel
theorem dX5_tellDistance_31 : decode cX5_tellDistance 31 = .ok (.ifCond .eq 13, 3) := by decide +kernel
theorem dX5_tellDistance_34 : decode cX5_tellDistance 34 = .ok (.aload_n 0, 1) := by decide +kernel
theorem dX5_tellDistance_35 : decode cX5_tellDistance 35 = .ok (.aload 5, 2) := by decide +kernel
theorem dX5_tellDistance_37 : decode cX5_tellDistance 37 = .ok (.iload_n 2, 1) := by decide +kernel
theorem dX5_tellDistance_38 : decode cX5_tellDistance 38 = .ok (.invokevirtual 259, 3) := by decide +kernel
theorem dX5_tellDistance_41 : decode cX5_tellDistance 41 = .ok (.ifCond .ne 4, 3) := by decide +kernel
theorem dX5_tellDistance_44 : decode cX5_tellDistance 44 = .ok (.return_, 1) := by decide +kernel
theorem dX5_tellDistance_45 : decode cX5_tellDistance 45 = .ok (.aload_n 0, 1) := by decide +kernel
theorem dX5_tellDistance_46 : decode cX5_tellDistance 46 = .ok (.iload_n 1, 1) := by decide +kernel
theorem dX5_tellDistance_47 : decode cX5_tellDistance 47 = .ok (.bipush 73, 2) := by decide +kernel
theorem dX5_tellDistance_49 : decode cX5_tellDistance 49 = .ok (.if_icmp .ne 16, 3) := by decide +kernel
theorem dX5_tellDistance_52 : decode cX5_tellDistance 52 = .ok (.aload_n 0, 1) := by decide +kernel
theorem dX5_tellDistance_53 : decode cX5_tellDistance 53 = .ok (.aload 4, 2) := by decide +kernel
theorem dX5_tellDistance_55 : decode cX5_tellDistance 55 = .ok (.iload_n 3, 1) := by decide +kernel
theorem dX5_tellDistance_56 : decode cX5_tellDistance 56 = .ok (.aload 5, 2) := by decide +kernel
theorem dX5_tellDistance_58 : decode cX5_tellDistance 58 = .ok (.iload_n 2, 1) := by decide +kernel
theorem dX5_tellDistance_59 : decode cX5_tellDistance 59 = .ok (.invokevirtual 455, 3) := by decide +kernel
theorem dX5_tellDistance_62 : decode cX5_tellDistance 62 = .ok (.goto 13, 3) := by decide +kernel
theorem dX5_tellDistance_65 : decode cX5_tellDistance 65 = .ok (.aload_n 0, 1) := by decide +kernel
theorem dX5_tellDistance_66 : decode cX5_tellDistance 66 = .ok (.aload 4, 2) := by decide +kernel
theorem dX5_tellDistance_68 : decode cX5_tellDistance 68 = .ok (.iload_n 3, 1) := by decide +kernel
theorem dX5_tellDistance_69 : decode cX5_tellDistance 69 = .ok (.aload 5, 2) := by decide +kernel
theorem dX5_tellDistance_71 : decode cX5_tellDistance 71 = .ok (.iload_n 2, 1) := by decide +kernel
theorem dX5_tellDistance_72 : decode cX5_tellDistance 72 = .ok (.invokevirtual 471, 3) := by decide +kernel
theorem dX5_tellDistance_75 : decode cX5_tellDistance 75 = .ok (.invokevirtual 232, 3) := by decide +kernel
theorem dX5_tellDistance_78 : decode cX5_tellDistance 78 = .ok (.return_, 1) := by decide +kernel
def B_X5_tellDistance_75  (s1 : Int64) (V : sv_V) : Option sv_V := (F_X5_push s1 V).bind (fun V1 => some V1)
set_option maxRecDepth 20000 in
theorem tB_X5_tellDistance_75 {g : sx_G} (hG : sx_Go g) {P : Option Value → sv_V → Prop} {Vr : sv_V} (hP : P none Vr)   {s1 : Int64} {V : sv_V} (h : B_X5_tellDistance_75  s1 V = some Vr) : sv_N g qX5_tellDistance 2 75 [] [.long s1, .ref 69] V P := by
  unfold B_X5_tellDistance_75 at h
  obtain ⟨V1, g2, h⟩ := sx_bnd h
  refine sv_cV (pc := 75) (y := qX5_push) (o := none) (as := [.long s1]) (V1 := V1) hG dX5_tellDistance_75 l_X5_232 y0X5_push yvX5_push rfl (Nat.le_of_ble_eq_true rfl) lay_69 kr_5 (by decide) (Nat.le_of_ble_eq_true rfl) rfl rfl rfl (t_X5_push hG ⟨rfl, rfl⟩ g2) ?_
  exact sv_vret (pc := 78) dX5_tellDistance_78 rfl h hP
def F_X5_tellDistance (l1 : Int32) (V : sv_V) : Option sv_V := (F_X5_pop  V).bind (fun (x5, V3) => (F_X5_pop  V3).bind (fun (x8, V6) => (F_X5_zone (0 : Int32) V6).bind (fun (x11, V9) => (F_X5_zone (1 : Int32) V9).bind (fun (x14, V12) => (F_X5_isThere x11 x8 V12).bind (fun (x17, V15) => if x17 = 0 then (some V15) else ((F_X5_isThere x14 x5 V15).bind (fun (x21, V19) => if x21 = 0 then (some V19) else (if l1 = (73 : Int32) then ((F_X5_longBetween x11 x8 x14 x5 V19).bind (fun (x29, V27) => B_X5_tellDistance_75  x29 V27)) else ((F_X5_originalBetween x11 x8 x14 x5 V19).bind (fun (x26, V24) => B_X5_tellDistance_75  x26 V24))))))))))
set_option maxRecDepth 20000 in
theorem t_X5_tellDistance {g : sx_G} (hG : sx_Go g) {P : Option Value → sv_V → Prop} {Vr : sv_V} (hP : P none Vr) {l1 : Int32} {V : sv_V} (h : F_X5_tellDistance l1 V = some Vr) : sv_N g qX5_tellDistance 2 0 [(0, .ref 69), (1, .int l1)] [] V P := by
  unfold F_X5_tellDistance at h
  refine sx_aload_n (pc := 0) dX5_tellDistance_0 sx_m0 ?_
  obtain ⟨⟨x5, V3⟩, g4, h⟩ := sx_bnd h
  refine sv_cV (pc := 1) (y := qX5_pop) (o := (some (.int x5))) (as := []) (V1 := V3) hG dX5_tellDistance_1 l_X5_242 y0X5_pop yvX5_pop rfl (Nat.le_of_ble_eq_true rfl) lay_69 kr_5 (by decide) (Nat.le_of_ble_eq_true rfl) rfl rfl rfl (t_X5_pop hG ⟨rfl, rfl⟩ g4) ?_
  refine sx_istore_n (pc := 4) (lo' := [(2, .int x5), (0, .ref 69), (1, .int l1)]) dX5_tellDistance_4 (by decide) rfl ?_
  refine sx_aload_n (pc := 5) dX5_tellDistance_5 sx_m1 ?_
  obtain ⟨⟨x8, V6⟩, g7, h⟩ := sx_bnd h
  refine sv_cV (pc := 6) (y := qX5_pop) (o := (some (.int x8))) (as := []) (V1 := V6) hG dX5_tellDistance_6 l_X5_242 y0X5_pop yvX5_pop rfl (Nat.le_of_ble_eq_true rfl) lay_69 kr_5 (by decide) (Nat.le_of_ble_eq_true rfl) rfl rfl rfl (t_X5_pop hG ⟨rfl, rfl⟩ g7) ?_
  refine sx_istore_n (pc := 9) (lo' := [(3, .int x8), (2, .int x5), (0, .ref 69), (1, .int l1)]) dX5_tellDistance_9 (by decide) rfl ?_
  refine sx_aload_n (pc := 10) dX5_tellDistance_10 sx_m2 ?_
  refine sx_iconst (pc := 11) (v := 0) dX5_tellDistance_11 (by decide) ?_
  obtain ⟨⟨x11, V9⟩, g10, h⟩ := sx_bnd h
  refine sv_cV (pc := 12) (y := qX5_zone) (o := (some (.ref x11))) (as := [.int (0 : Int32)]) (V1 := V9) hG dX5_tellDistance_12 l_X5_255 y0X5_zone yvX5_zone rfl (Nat.le_of_ble_eq_true rfl) lay_69 kr_5 (by decide) (Nat.le_of_ble_eq_true rfl) rfl rfl rfl (t_X5_zone hG ⟨rfl, rfl⟩ g10) ?_
  refine sx_astore (pc := 15) (lo' := [(4, .ref x11), (3, .int x8), (2, .int x5), (0, .ref 69), (1, .int l1)]) dX5_tellDistance_15 (by decide) rfl ?_
  refine sx_aload_n (pc := 17) dX5_tellDistance_17 sx_m3 ?_
  refine sx_iconst (pc := 18) (v := 1) dX5_tellDistance_18 (by decide) ?_
  obtain ⟨⟨x14, V12⟩, g13, h⟩ := sx_bnd h
  refine sv_cV (pc := 19) (y := qX5_zone) (o := (some (.ref x14))) (as := [.int (1 : Int32)]) (V1 := V12) hG dX5_tellDistance_19 l_X5_255 y0X5_zone yvX5_zone rfl (Nat.le_of_ble_eq_true rfl) lay_69 kr_5 (by decide) (Nat.le_of_ble_eq_true rfl) rfl rfl rfl (t_X5_zone hG ⟨rfl, rfl⟩ g13) ?_
  refine sx_astore (pc := 22) (lo' := [(5, .ref x14), (4, .ref x11), (3, .int x8), (2, .int x5), (0, .ref 69), (1, .int l1)]) dX5_tellDistance_22 (by decide) rfl ?_
  refine sx_aload_n (pc := 24) dX5_tellDistance_24 sx_m4 ?_
  refine sx_aload (pc := 25) dX5_tellDistance_25 sx_m1 ?_
  refine sx_iload_n (pc := 27) dX5_tellDistance_27 sx_m2 ?_
  obtain ⟨⟨x17, V15⟩, g16, h⟩ := sx_bnd h
  refine sv_cV (pc := 28) (y := qX5_isThere) (o := (some (.int x17))) (as := [.ref x11, .int x8]) (V1 := V15) hG dX5_tellDistance_28 l_X5_259 y0X5_isThere yvX5_isThere rfl (Nat.le_of_ble_eq_true rfl) lay_69 kr_5 (by decide) (Nat.le_of_ble_eq_true rfl) rfl rfl rfl (t_X5_isThere hG ⟨rfl, rfl⟩ g16) ?_
  refine sx_if_eq (pc := 31) (tgt := 44) dX5_tellDistance_31 (by decide) (fun c18 => ?_) (fun c18 => ?_)
  · have h := sx_pos c18 h
    exact sv_vret (pc := 44) dX5_tellDistance_44 rfl h hP
  · have h := sx_neg c18 h
    refine sx_aload_n (pc := 34) dX5_tellDistance_34 sx_m4 ?_
    refine sx_aload (pc := 35) dX5_tellDistance_35 sx_m0 ?_
    refine sx_iload_n (pc := 37) dX5_tellDistance_37 sx_m3 ?_
    obtain ⟨⟨x21, V19⟩, g20, h⟩ := sx_bnd h
    refine sv_cV (pc := 38) (y := qX5_isThere) (o := (some (.int x21))) (as := [.ref x14, .int x5]) (V1 := V19) hG dX5_tellDistance_38 l_X5_259 y0X5_isThere yvX5_isThere rfl (Nat.le_of_ble_eq_true rfl) lay_69 kr_5 (by decide) (Nat.le_of_ble_eq_true rfl) rfl rfl rfl (t_X5_isThere hG ⟨rfl, rfl⟩ g20) ?_
    refine sx_if_ne (pc := 41) (tgt := 45) dX5_tellDistance_41 (by decide) (fun c22 => ?_) (fun c22 => ?_)
    · have h := sx_neg c22 h
      refine sx_aload_n (pc := 45) dX5_tellDistance_45 sx_m4 ?_
      refine sx_iload_n (pc := 46) dX5_tellDistance_46 sx_m5 ?_
      refine sx_bipush (pc := 47) (v := 73) dX5_tellDistance_47 (by decide) ?_
      refine sx_icmp_ne (pc := 49) (tgt := 65) dX5_tellDistance_49 (by decide) (fun c23 => ?_) (fun c23 => ?_)
      · have h := sx_neg c23 h
        refine sx_aload_n (pc := 65) dX5_tellDistance_65 sx_m4 ?_
        refine sx_aload (pc := 66) dX5_tellDistance_66 sx_m1 ?_
        refine sx_iload_n (pc := 68) dX5_tellDistance_68 sx_m2 ?_
        refine sx_aload (pc := 69) dX5_tellDistance_69 sx_m0 ?_
        refine sx_iload_n (pc := 71) dX5_tellDistance_71 sx_m3 ?_
        obtain ⟨⟨x26, V24⟩, g25, h⟩ := sx_bnd h
        refine sv_cV (pc := 72) (y := qX5_originalBetween) (o := (some (.long x26))) (as := [.ref x11, .int x8, .ref x14, .int x5]) (V1 := V24) hG dX5_tellDistance_72 l_X5_471 y0X5_originalBetween yvX5_originalBetween rfl (Nat.le_of_ble_eq_true rfl) lay_69 kr_5 (by decide) (Nat.le_of_ble_eq_true rfl) rfl rfl rfl (t_X5_originalBetween hG ⟨rfl, rfl⟩ g25) ?_
        refine sx_wk sx_s0 ?_
        exact tB_X5_tellDistance_75 hG hP  h
      · have h := sx_pos c23 h
        refine sx_aload_n (pc := 52) dX5_tellDistance_52 sx_m4 ?_
        refine sx_aload (pc := 53) dX5_tellDistance_53 sx_m1 ?_
        refine sx_iload_n (pc := 55) dX5_tellDistance_55 sx_m2 ?_
        refine sx_aload (pc := 56) dX5_tellDistance_56 sx_m0 ?_
        refine sx_iload_n (pc := 58) dX5_tellDistance_58 sx_m3 ?_
        obtain ⟨⟨x29, V27⟩, g28, h⟩ := sx_bnd h
        refine sv_cV (pc := 59) (y := qX5_longBetween) (o := (some (.long x29))) (as := [.ref x11, .int x8, .ref x14, .int x5]) (V1 := V27) hG dX5_tellDistance_59 l_X5_455 y0X5_longBetween yvX5_longBetween rfl (Nat.le_of_ble_eq_true rfl) lay_69 kr_5 (by decide) (Nat.le_of_ble_eq_true rfl) rfl rfl rfl (t_X5_longBetween hG ⟨rfl, rfl⟩ g28) ?_
        refine sx_goto (pc := 62) (tgt := 75) dX5_tellDistance_62 (by decide) ?_
        refine sx_wk sx_s0 ?_
        exact tB_X5_tellDistance_75 hG hP  h
    · have h := sx_pos c22 h
      exact sv_vret (pc := 44) dX5_tellDistance_44 rfl h hP
theorem dX5_fillBetween_0 : decode cX5_fillBetween 0 = .ok (.aload_n 0, 1) := by decide +kernel
theorem dX5_fillBetween_1 : decode cX5_fillBetween 1 = .ok (.getfield 38, 3) := by decide +kernel
theorem dX5_fillBetween_4 : decode cX5_fillBetween 4 = .ok (.iload 5, 2) := by decide +kernel
theorem dX5_fillBetween_6 : decode cX5_fillBetween 6 = .ok (.invokevirtual 483, 3) := by decide +kernel
theorem dX5_fillBetween_9 : decode cX5_fillBetween 9 = .ok (.istore 6, 2) := by decide +kernel
theorem dX5_fillBetween_11 : decode cX5_fillBetween 11 = .ok (.aload_n 0, 1) := by decide +kernel
theorem dX5_fillBetween_12 : decode cX5_fillBetween 12 = .ok (.getfield 38, 3) := by decide +kernel
theorem dX5_fillBetween_15 : decode cX5_fillBetween 15 = .ok (.getfield 486, 3) := by decide +kernel
theorem dX5_fillBetween_18 : decode cX5_fillBetween 18 = .ok (.iload 5, 2) := by decide +kernel
theorem dX5_fillBetween_20 : decode cX5_fillBetween 20 = .ok (.iaload, 1) := by decide +kernel
theorem dX5_fillBetween_21 : decode cX5_fillBetween 21 = .ok (.istore 7, 2) := by decide +kernel
theorem dX5_fillBetween_23 : decode cX5_fillBetween 23 = .ok (.aload_n 1, 1) := by decide +kernel
theorem dX5_fillBetween_24 : decode cX5_fillBetween 24 = .ok (.iload 4, 2) := by decide +kernel
theorem dX5_fillBetween_26 : decode cX5_fillBetween 26 = .ok (.iaload, 1) := by decide +kernel
theorem dX5_fillBetween_27 : decode cX5_fillBetween 27 = .ok (.aload_n 1, 1) := by decide +kernel
theorem dX5_fillBetween_28 : decode cX5_fillBetween 28 = .ok (.iload_n 3, 1) := by decide +kernel
theorem dX5_fillBetween_29 : decode cX5_fillBetween 29 = .ok (.iaload, 1) := by decide +kernel
theorem dX5_fillBetween_30 : decode cX5_fillBetween 30 = .ok (.if_icmp .ge 7, 3) := by decide +kernel
theorem dX5_fillBetween_33 : decode cX5_fillBetween 33 = .ok (.iconst 1, 1) := by decide +kernel
theorem dX5_fillBetween_34 : decode cX5_fillBetween 34 = .ok (.goto 4, 3) := by decide +kernel
theorem dX5_fillBetween_37 : decode cX5_fillBetween 37 = .ok (.iconst 0, 1) := by decide +kernel
theorem dX5_fillBetween_38 : decode cX5_fillBetween 38 = .ok (.istore 8, 2) := by decide +kernel
theorem dX5_fillBetween_40 : decode cX5_fillBetween 40 = .ok (.iload 8, 2) := by decide +kernel
theorem dX5_fillBetween_42 : decode cX5_fillBetween 42 = .ok (.ifCond .eq 8, 3) := by decide +kernel
theorem dX5_fillBetween_45 : decode cX5_fillBetween 45 = .ok (.iload 4, 2) := by decide +kernel
theorem dX5_fillBetween_47 : decode cX5_fillBetween 47 = .ok (.goto 4, 3) := by decide +kernel
theorem dX5_fillBetween_50 : decode cX5_fillBetween 50 = .ok (.iload_n 3, 1) := by decide +kernel
theorem dX5_fillBetween_51 : decode cX5_fillBetween 51 = .ok (.istore 9, 2) := by decide +kernel
theorem dX5_fillBetween_53 : decode cX5_fillBetween 53 = .ok (.iload 8, 2) := by decide +kernel
theorem dX5_fillBetween_55 : decode cX5_fillBetween 55 = .ok (.ifCond .eq 7, 3) := by decide +kernel
theorem dX5_fillBetween_58 : decode cX5_fillBetween 58 = .ok (.iload_n 3, 1) := by decide +kernel
theorem dX5_fillBetween_59 : decode cX5_fillBetween 59 = .ok (.goto 5, 3) := by decide +kernel
theorem dX5_fillBetween_62 : decode cX5_fillBetween 62 = .ok (.iload 4, 2) := by decide +kernel
theorem dX5_fillBetween_64 : decode cX5_fillBetween 64 = .ok (.istore 10, 2) := by decide +kernel
theorem dX5_fillBetween_66 : decode cX5_fillBetween 66 = .ok (.iload_n 3, 1) := by decide +kernel
theorem dX5_fillBetween_67 : decode cX5_fillBetween 67 = .ok (.iload 7, 2) := by decide +kernel
theorem dX5_fillBetween_69 : decode cX5_fillBetween 69 = .ok (.if_icmp .ne 8, 3) := by decide +kernel
theorem dX5_fillBetween_72 : decode cX5_fillBetween 72 = .ok (.iload 6, 2) := by decide +kernel
theorem dX5_fillBetween_74 : decode cX5_fillBetween 74 = .ok (.goto 6, 3) := by decide +kernel
theorem dX5_fillBetween_77 : decode cX5_fillBetween 77 = .ok (.iload_n 3, 1) := by decide +kernel
theorem dX5_fillBetween_78 : decode cX5_fillBetween 78 = .ok (.iconst 1, 1) := by decide +kernel
theorem dX5_fillBetween_79 : decode cX5_fillBetween 79 = .ok (.iadd, 1) := by decide +kernel
theorem dX5_fillBetween_80 : decode cX5_fillBetween 80 = .ok (.istore 11, 2) := by decide +kernel
theorem dX5_fillBetween_82 : decode cX5_fillBetween 82 = .ok (.iconst 0, 1) := by decide +kernel
theorem dX5_fillBetween_83 : decode cX5_fillBetween 83 = .ok (.istore 12, 2) := by decide +kernel
theorem dX5_fillBetween_85 : decode cX5_fillBetween 85 = .ok (.iload 12, 2) := by decide +kernel
theorem dX5_fillBetween_87 : decode cX5_fillBetween 87 = .ok (.bipush 100, 2) := by decide +kernel
theorem dX5_fillBetween_89 : decode cX5_fillBetween 89 = .ok (.if_icmp .ge 146, 3) := by decide +kernel
theorem dX5_fillBetween_92 : decode cX5_fillBetween 92 = .ok (.iload 11, 2) := by decide +kernel
theorem dX5_fillBetween_94 : decode cX5_fillBetween 94 = .ok (.iload 4, 2) := by decide +kernel
theorem dX5_fillBetween_96 : decode cX5_fillBetween 96 = .ok (.if_icmp .eq 139, 3) := by decide +kernel
theorem dX5_fillBetween_99 : decode cX5_fillBetween 99 = .ok (.aload_n 1, 1) := by decide +kernel
theorem dX5_fillBetween_100 : decode cX5_fillBetween 100 = .ok (.iload 11, 2) := by decide +kernel
theorem dX5_fillBetween_102 : decode cX5_fillBetween 102 = .ok (.iaload, 1) := by decide +kernel
theorem dX5_fillBetween_103 : decode cX5_fillBetween 103 = .ok (.aload_n 1, 1) := by decide +kernel
theorem dX5_fillBetween_104 : decode cX5_fillBetween 104 = .ok (.iload 9, 2) := by decide +kernel
theorem dX5_fillBetween_106 : decode cX5_fillBetween 106 = .ok (.iaload, 1) := by decide +kernel
theorem dX5_fillBetween_107 : decode cX5_fillBetween 107 = .ok (.if_icmp .gt 24, 3) := by decide +kernel
theorem dX5_fillBetween_110 : decode cX5_fillBetween 110 = .ok (.aload_n 2, 1) := by decide +kernel
theorem dX5_fillBetween_111 : decode cX5_fillBetween 111 = .ok (.iload 11, 2) := by decide +kernel
theorem dX5_fillBetween_113 : decode cX5_fillBetween 113 = .ok (.aload_n 1, 1) := by decide +kernel
theorem dX5_fillBetween_114 : decode cX5_fillBetween 114 = .ok (.iload 11, 2) := by decide +kernel
theorem dX5_fillBetween_116 : decode cX5_fillBetween 116 = .ok (.iaload, 1) := by decide +kernel
theorem dX5_fillBetween_117 : decode cX5_fillBetween 117 = .ok (.aload_n 2, 1) := by decide +kernel
theorem dX5_fillBetween_118 : decode cX5_fillBetween 118 = .ok (.iload 9, 2) := by decide +kernel
theorem dX5_fillBetween_120 : decode cX5_fillBetween 120 = .ok (.iaload, 1) := by decide +kernel
theorem dX5_fillBetween_121 : decode cX5_fillBetween 121 = .ok (.aload_n 1, 1) := by decide +kernel
theorem dX5_fillBetween_122 : decode cX5_fillBetween 122 = .ok (.iload 9, 2) := by decide +kernel
theorem dX5_fillBetween_124 : decode cX5_fillBetween 124 = .ok (.iaload, 1) := by decide +kernel
theorem dX5_fillBetween_125 : decode cX5_fillBetween 125 = .ok (.isub, 1) := by decide +kernel
theorem dX5_fillBetween_126 : decode cX5_fillBetween 126 = .ok (.iadd, 1) := by decide +kernel
theorem dX5_fillBetween_127 : decode cX5_fillBetween 127 = .ok (.iastore, 1) := by decide +kernel
theorem dX5_fillBetween_128 : decode cX5_fillBetween 128 = .ok (.goto 83, 3) := by decide +kernel
theorem dX5_fillBetween_131 : decode cX5_fillBetween 131 = .ok (.aload_n 1, 1) := by decide +kernel
theorem dX5_fillBetween_132 : decode cX5_fillBetween 132 = .ok (.iload 11, 2) := by decide +kernel
theorem dX5_fillBetween_134 : decode cX5_fillBetween 134 = .ok (.iaload, 1) := by decide +kernel
theorem dX5_fillBetween_135 : decode cX5_fillBetween 135 = .ok (.aload_n 1, 1) := by decide +kernel
theorem dX5_fillBetween_136 : decode cX5_fillBetween 136 = .ok (.iload 10, 2) := by decide +kernel
theorem dX5_fillBetween_138 : decode cX5_fillBetween 138 = .ok (.iaload, 1) := by decide +kernel
theorem dX5_fillBetween_139 : decode cX5_fillBetween 139 = .ok (.if_icmp .lt 24, 3) := by decide +kernel
theorem dX5_fillBetween_142 : decode cX5_fillBetween 142 = .ok (.aload_n 2, 1) := by decide +kernel
theorem dX5_fillBetween_143 : decode cX5_fillBetween 143 = .ok (.iload 11, 2) := by decide +kernel
theorem dX5_fillBetween_145 : decode cX5_fillBetween 145 = .ok (.aload_n 1, 1) := by decide +kernel
theorem dX5_fillBetween_146 : decode cX5_fillBetween 146 = .ok (.iload 11, 2) := by decide +kernel
theorem dX5_fillBetween_148 : decode cX5_fillBetween 148 = .ok (.iaload, 1) := by decide +kernel
theorem dX5_fillBetween_149 : decode cX5_fillBetween 149 = .ok (.aload_n 2, 1) := by decide +kernel
theorem dX5_fillBetween_150 : decode cX5_fillBetween 150 = .ok (.iload 10, 2) := by decide +kernel
theorem dX5_fillBetween_152 : decode cX5_fillBetween 152 = .ok (.iaload, 1) := by decide +kernel
theorem dX5_fillBetween_153 : decode cX5_fillBetween 153 = .ok (.aload_n 1, 1) := by decide +kernel
theorem dX5_fillBetween_154 : decode cX5_fillBetween 154 = .ok (.iload 10, 2) := by decide +kernel
theorem dX5_fillBetween_156 : decode cX5_fillBetween 156 = .ok (.iaload, 1) := by decide +kernel
theorem dX5_fillBetween_157 : decode cX5_fillBetween 157 = .ok (.isub, 1) := by decide +kernel
theorem dX5_fillBetween_158 : decode cX5_fillBetween 158 = .ok (.iadd, 1) := by decide +kernel
theorem dX5_fillBetween_159 : decode cX5_fillBetween 159 = .ok (.iastore, 1) := by decide +kernel
theorem dX5_fillBetween_160 : decode cX5_fillBetween 160 = .ok (.goto 51, 3) := by decide +kernel
theorem dX5_fillBetween_163 : decode cX5_fillBetween 163 = .ok (.aload_n 1, 1) := by decide +kernel
theorem dX5_fillBetween_164 : decode cX5_fillBetween 164 = .ok (.iload 11, 2) := by decide +kernel
theorem dX5_fillBetween_166 : decode cX5_fillBetween 166 = .ok (.iaload, 1) := by decide +kernel
theorem dX5_fillBetween_167 : decode cX5_fillBetween 167 = .ok (.aload_n 1, 1) := by decide +kernel
theorem dX5_fillBetween_168 : decode cX5_fillBetween 168 = .ok (.iload 9, 2) := by decide +kernel
theorem dX5_fillBetween_170 : decode cX5_fillBetween 170 = .ok (.iaload, 1) := by decide +kernel
theorem dX5_fillBetween_171 : decode cX5_fillBetween 171 = .ok (.isub, 1) := by decide +kernel
theorem dX5_fillBetween_172 : decode cX5_fillBetween 172 = .ok (.i2l, 1) := by decide +kernel
theorem dX5_fillBetween_173 : decode cX5_fillBetween 173 = .ok (.aload_n 2, 1) := by decide +kernel
theorem dX5_fillBetween_174 : decode cX5_fillBetween 174 = .ok (.iload 10, 2) := by decide +kernel
theorem dX5_fillBetween_176 : decode cX5_fillBetween 176 = .ok (.iaload, 1) := by decide +kernel
theorem dX5_fillBetween_177 : decode cX5_fillBetween 177 = .ok (.aload_n 2, 1) := by decide +kernel
theorem dX5_fillBetween_178 : decode cX5_fillBetween 178 = .ok (.iload 9, 2) := by decide +kernel
theorem dX5_fillBetween_180 : decode cX5_fillBetween 180 = .ok (.iaload, 1) := by decide +kernel
theorem dX5_fillBetween_181 : decode cX5_fillBetween 181 = .ok (.isub, 1) := by decide +kernel
theorem dX5_fillBetween_182 : decode cX5_fillBetween 182 = .ok (.i2l, 1) := by decide +kernel
theorem dX5_fillBetween_183 : decode cX5_fillBetween 183 = .ok (.lmul, 1) := by decide +kernel
theorem dX5_fillBetween_184 : decode cX5_fillBetween 184 = .ok (.lstore 13, 2) := by decide +kernel
theorem dX5_fillBetween_186 : decode cX5_fillBetween 186 = .ok (.aload_n 2, 1) := by decide +kernel
theorem dX5_fillBetween_187 : decode cX5_fillBetween 187 = .ok (.iload 11, 2) := by decide +kernel
theorem dX5_fillBetween_189 : decode cX5_fillBetween 189 = .ok (.aload_n 2, 1) := by decide +kernel
theorem dX5_fillBetween_190 : decode cX5_fillBetween 190 = .ok (.iload 9, 2) := by decide +kernel
theorem dX5_fillBetween_192 : decode cX5_fillBetween 192 = .ok (.iaload, 1) := by decide +kernel
theorem dX5_fillBetween_193 : decode cX5_fillBetween 193 = .ok (.lload 13, 2) := by decide +kernel
theorem dX5_fillBetween_195 : decode cX5_fillBetween 195 = .ok (.aload_n 1, 1) := by decide +kernel
theorem dX5_fillBetween_196 : decode cX5_fillBetween 196 = .ok (.iload 10, 2) := by decide +kernel
theorem dX5_fillBetween_198 : decode cX5_fillBetween 198 = .ok (.iaload, 1) := by decide +kernel
theorem dX5_fillBetween_199 : decode cX5_fillBetween 199 = .ok (.aload_n 1, 1) := by decide +kernel
theorem dX5_fillBetween_200 : decode cX5_fillBetween 200 = .ok (.iload 9, 2) := by decide +kernel
theorem dX5_fillBetween_202 : decode cX5_fillBetween 202 = .ok (.iaload, 1) := by decide +kernel
theorem dX5_fillBetween_203 : decode cX5_fillBetween 203 = .ok (.isub, 1) := by decide +kernel
theorem dX5_fillBetween_204 : decode cX5_fillBetween 204 = .ok (.i2l, 1) := by decide +kernel
theorem dX5_fillBetween_205 : decode cX5_fillBetween 205 = .ok (.invokestatic 75, 3) := by decide +kernel
theorem dX5_fillBetween_208 : decode cX5_fillBetween 208 = .ok (.l2i, 1) := by decide +kernel
theorem dX5_fillBetween_209 : decode cX5_fillBetween 209 = .ok (.iadd, 1) := by decide +kernel
theorem dX5_fillBetween_210 : decode cX5_fillBetween 210 = .ok (.iastore, 1) := by decide +kernel
theorem dX5_fillBetween_211 : decode cX5_fillBetween 211 = .ok (.iload 11, 2) := by decide +kernel
theorem dX5_fillBetween_213 : decode cX5_fillBetween 213 = .ok (.iload 7, 2) := by decide +kernel
theorem dX5_fillBetween_215 : decode cX5_fillBetween 215 = .ok (.if_icmp .ne 8, 3) := by decide +kernel
theorem dX5_fillBetween_218 : decode cX5_fillBetween 218 = .ok (.iload 6, 2) := by decide +kernel
theorem dX5_fillBetween_220 : decode cX5_fillBetween 220 = .ok (.goto 7, 3) := by decide +kernel
theorem dX5_fillBetween_223 : decode cX5_fillBetween 223 = .ok (.iload 11, 2) := by decide +kernel
theorem dX5_fillBetween_225 : decode cX5_fillBetween 225 = .ok (.iconst 1, 1) := by decide +kernel
theorem dX5_fillBetween_226 : decode cX5_fillBetween 226 = .ok (.iadd, 1) := by decide +kernel
theorem dX5_fillBetween_227 : decode cX5_fillBetween 227 = .ok (.istore 11, 2) := by decide +kernel
theorem dX5_fillBetween_229 : decode cX5_fillBetween 229 = .ok (.iinc 12 1, 3) := by decide +kernel
theorem dX5_fillBetween_232 : decode cX5_fillBetween 232 = .ok (.goto (-147), 3) := by decide +kernel
theorem dX5_fillBetween_235 : decode cX5_fillBetween 235 = .ok (.return_, 1) := by decide +kernel
def B_X5_fillBetween_227 (N : Nat) (k85 : Nat → Nat → Int32 → Int32 → Int32 → Int32 → Int32 → Int32 → Int32 → sv_V → Option sv_V) (l1 : Nat) (l2 : Nat) (l4 : Int32) (l6 : Int32) (l7 : Int32) (l9 : Int32) (l10 : Int32) (l12 : Int32) (s0 : Int32) (V : sv_V) : Option sv_V := sx_let (l12 + 1) (fun x1 => k85 l1 l2 l4 l6 l7 l9 l10 s0 x1 V)
set_option maxRecDepth 20000 in
theorem tB_X5_fillBetween_227 {g : sx_G} (hG : sx_Go g) {P : Option Value → sv_V → Prop} {Vr : sv_V} (hP : P none Vr) {N : Nat} {k85 : Nat → Nat → Int32 → Int32 → Int32 → Int32 → Int32 → Int32 → Int32 → sv_V → Option sv_V} (hk85 : ∀ (l1 : Nat) (l2 : Nat) (l4 : Int32) (l6 : Int32) (l7 : Int32) (l9 : Int32) (l10 : Int32) (l11 : Int32) (l12 : Int32) (V : sv_V), k85 l1 l2 l4 l6 l7 l9 l10 l11 l12 V = some Vr → sv_N g qX5_fillBetween 1 85 [(1, .ref l1), (2, .ref l2), (4, .int l4), (6, .int l6), (7, .int l7), (9, .int l9), (10, .int l10), (11, .int l11), (12, .int l12)] [] V P) {l1 : Nat} {l2 : Nat} {l4 : Int32} {l6 : Int32} {l7 : Int32} {l9 : Int32} {l10 : Int32} {l12 : Int32} {s0 : Int32} {V : sv_V} (h : B_X5_fillBetween_227 N k85 l1 l2 l4 l6 l7 l9 l10 l12 s0 V = some Vr) : sv_N g qX5_fillBetween 1 227 [(1, .ref l1), (2, .ref l2), (4, .int l4), (6, .int l6), (7, .int l7), (9, .int l9), (10, .int l10), (12, .int l12)] [.int s0] V P := by
  unfold B_X5_fillBetween_227 at h
  refine sx_istore (pc := 227) (lo' := [(11, .int s0), (1, .ref l1), (2, .ref l2), (4, .int l4), (6, .int l6), (7, .int l7), (9, .int l9), (10, .int l10), (12, .int l12)]) dX5_fillBetween_227 (by decide) rfl ?_
  obtain ⟨x1, hx1⟩ : ∃ z : Int32, z = l12 + 1 := ⟨_, rfl⟩
  have h := sx_letE hx1 h
  refine sx_iinc (pc := 229) (v := x1) (lo' := [(12, .int x1), (11, .int s0), (1, .ref l1), (2, .ref l2), (4, .int l4), (6, .int l6), (7, .int l7), (9, .int l9), (10, .int l10)]) dX5_fillBetween_229 sx_m8 (by rw [hx1]; rfl) (by decide) rfl ?_
  refine sx_goto (pc := 232) (tgt := 85) dX5_fillBetween_232 (by decide) ?_
  refine sx_wk (sx_s1 sx_m2 (sx_s1 sx_m3 (sx_s1 sx_m4 (sx_s1 sx_m5 (sx_s1 sx_m6 (sx_s1 sx_m7 (sx_s1 sx_m8 (sx_s1 sx_m1 (sx_s1 sx_m0 sx_s0))))))))) ?_
  exact hk85 _ _ _ _ _ _ _ _ _ _ h
def B_X5_fillBetween_211 (N : Nat) (k85 : Nat → Nat → Int32 → Int32 → Int32 → Int32 → Int32 → Int32 → Int32 → sv_V → Option sv_V) (l1 : Nat) (l2 : Nat) (l4 : Int32) (l6 : Int32) (l7 : Int32) (l9 : Int32) (l10 : Int32) (l11 : Int32) (l12 : Int32) (V : sv_V) : Option sv_V := if l11 = l7 then (B_X5_fillBetween_227 N k85 l1 l2 l4 l6 l7 l9 l10 l12 l6 V) else (B_X5_fillBetween_227 N k85 l1 l2 l4 l6 l7 l9 l10 l12 (l11 + (1 : Int32)) V)
set_option maxRecDepth 20000 in
theorem tB_X5_fillBetween_211 {g : sx_G} (hG : sx_Go g) {P : Option Value → sv_V → Prop} {Vr : sv_V} (hP : P none Vr) {N : Nat} {k85 : Nat → Nat → Int32 → Int32 → Int32 → Int32 → Int32 → Int32 → Int32 → sv_V → Option sv_V} (hk85 : ∀ (l1 : Nat) (l2 : Nat) (l4 : Int32) (l6 : Int32) (l7 : Int32) (l9 : Int32) (l10 : Int32) (l11 : Int32) (l12 : Int32) (V : sv_V), k85 l1 l2 l4 l6 l7 l9 l10 l11 l12 V = some Vr → sv_N g qX5_fillBetween 1 85 [(1, .ref l1), (2, .ref l2), (4, .int l4), (6, .int l6), (7, .int l7), (9, .int l9), (10, .int l10), (11, .int l11), (12, .int l12)] [] V P) {l1 : Nat} {l2 : Nat} {l4 : Int32} {l6 : Int32} {l7 : Int32} {l9 : Int32} {l10 : Int32} {l11 : Int32} {l12 : Int32} {V : sv_V} (h : B_X5_fillBetween_211 N k85 l1 l2 l4 l6 l7 l9 l10 l11 l12 V = some Vr) : sv_N g qX5_fillBetween 1 211 [(1, .ref l1), (2, .ref l2), (4, .int l4), (6, .int l6), (7, .int l7), (9, .int l9), (10, .int l10), (11, .int l11), (12, .int l12)] [] V P := by
  unfold B_X5_fillBetween_211 at h
  refine sx_iload (pc := 211) dX5_fillBetween_211 sx_m7 ?_
  refine sx_iload (pc := 213) dX5_fillBetween_213 sx_m4 ?_
  refine sx_icmp_ne (pc := 215) (tgt := 223) dX5_fillBetween_215 (by decide) (fun c2 => ?_) (fun c2 => ?_)
  · have h := sx_neg c2 h
    refine sx_iload (pc := 223) dX5_fillBetween_223 sx_m7 ?_
    refine sx_iconst (pc := 225) (v := 1) dX5_fillBetween_225 (by decide) ?_
    refine sx_iadd (pc := 226) dX5_fillBetween_226 ?_
    refine sx_wk (sx_s1 sx_m0 (sx_s1 sx_m1 (sx_s1 sx_m2 (sx_s1 sx_m3 (sx_s1 sx_m4 (sx_s1 sx_m5 (sx_s1 sx_m6 (sx_s1 sx_m8 sx_s0)))))))) ?_
    exact tB_X5_fillBetween_227 hG hP hk85 h
  · have h := sx_pos c2 h
    refine sx_iload (pc := 218) dX5_fillBetween_218 sx_m3 ?_
    refine sx_goto (pc := 220) (tgt := 227) dX5_fillBetween_220 (by decide) ?_
    refine sx_wk (sx_s1 sx_m0 (sx_s1 sx_m1 (sx_s1 sx_m2 (sx_s1 sx_m3 (sx_s1 sx_m4 (sx_s1 sx_m5 (sx_s1 sx_m6 (sx_s1 sx_m8 sx_s0)))))))) ?_
    exact tB_X5_fillBetween_227 hG hP hk85 h
def B_X5_fillBetween_85 (N : Nat) (k85 : Nat → Nat → Int32 → Int32 → Int32 → Int32 → Int32 → Int32 → Int32 → sv_V → Option sv_V) (l1 : Nat) (l2 : Nat) (l4 : Int32) (l6 : Int32) (l7 : Int32) (l9 : Int32) (l10 : Int32) (l11 : Int32) (l12 : Int32) (V : sv_V) : Option sv_V := if (100 : Int32) ≤ l12 then (some V) else (if l11 = l4 then (some V) else ((sv_len 0 l1).bind (fun n5 => if sx_in l11 n5 = true then if sx_in l9 n5 = true then if (V.1 l1 l9.toNatClampNeg) < (V.1 l1 l11.toNatClampNeg) then (if sx_in l11 n5 = true then if sx_in l10 n5 = true then if (V.1 l1 l11.toNatClampNeg) < (V.1 l1 l10.toNatClampNeg) then (if sx_in l11 n5 = true then if sx_in l9 n5 = true then (sv_len 0 l2).bind (fun n15 => if sx_in l10 n15 = true then if sx_in l9 n15 = true then sx_let ((((V.1 l1 l11.toNatClampNeg) - (V.1 l1 l9.toNatClampNeg)).toInt64) * (((V.1 l2 l10.toNatClampNeg) - (V.1 l2 l9.toNatClampNeg)).toInt64)) (fun x19 => if sx_in l9 n15 = true then if sx_in l10 n5 = true then if sx_in l9 n5 = true then (F_X11_nearest x19 (((V.1 l1 l10.toNatClampNeg) - (V.1 l1 l9.toNatClampNeg)).toInt64) V).bind (fun (x25, V23) => if sx_in l11 n15 = true then sx_let (sv_I V23 l2 l11.toNatClampNeg ((V.1 l2 l9.toNatClampNeg) + x25.toInt32)) (fun V27 => B_X5_fillBetween_211 N k85 l1 l2 l4 l6 l7 l9 l10 l11 l12 V27) else none) else none else none else none) else none else none) else none else none) else (if sx_in l11 n5 = true then (sv_len 0 l2).bind (fun n29 => if sx_in l10 n29 = true then if sx_in l10 n5 = true then if sx_in l11 n29 = true then sx_let (sv_I V l2 l11.toNatClampNeg ((V.1 l1 l11.toNatClampNeg) + ((V.1 l2 l10.toNatClampNeg) - (V.1 l1 l10.toNatClampNeg)))) (fun V34 => B_X5_fillBetween_211 N k85 l1 l2 l4 l6 l7 l9 l10 l11 l12 V34) else none else none else none) else none) else none else none) else (if sx_in l11 n5 = true then (sv_len 0 l2).bind (fun n36 => if sx_in l9 n36 = true then if sx_in l9 n5 = true then if sx_in l11 n36 = true then sx_let (sv_I V l2 l11.toNatClampNeg ((V.1 l1 l11.toNatClampNeg) + ((V.1 l2 l9.toNatClampNeg) - (V.1 l1 l9.toNatClampNeg)))) (fun V41 => B_X5_fillBetween_211 N k85 l1 l2 l4 l6 l7 l9 l10 l11 l12 V41) else none else none else none) else none) else none else none)))
set_option maxRecDepth 20000 in
theorem tB_X5_fillBetween_85 {g : sx_G} (hG : sx_Go g) {P : Option Value → sv_V → Prop} {Vr : sv_V} (hP : P none Vr) {N : Nat} {k85 : Nat → Nat → Int32 → Int32 → Int32 → Int32 → Int32 → Int32 → Int32 → sv_V → Option sv_V} (hk85 : ∀ (l1 : Nat) (l2 : Nat) (l4 : Int32) (l6 : Int32) (l7 : Int32) (l9 : Int32) (l10 : Int32) (l11 : Int32) (l12 : Int32) (V : sv_V), k85 l1 l2 l4 l6 l7 l9 l10 l11 l12 V = some Vr → sv_N g qX5_fillBetween 1 85 [(1, .ref l1), (2, .ref l2), (4, .int l4), (6, .int l6), (7, .int l7), (9, .int l9), (10, .int l10), (11, .int l11), (12, .int l12)] [] V P) {l1 : Nat} {l2 : Nat} {l4 : Int32} {l6 : Int32} {l7 : Int32} {l9 : Int32} {l10 : Int32} {l11 : Int32} {l12 : Int32} {V : sv_V} (h : B_X5_fillBetween_85 N k85 l1 l2 l4 l6 l7 l9 l10 l11 l12 V = some Vr) : sv_N g qX5_fillBetween 1 85 [(1, .ref l1), (2, .ref l2), (4, .int l4), (6, .int l6), (7, .int l7), (9, .int l9), (10, .int l10), (11, .int l11), (12, .int l12)] [] V P := by
  unfold B_X5_fillBetween_85 at h
  refine sx_iload (pc := 85) dX5_fillBetween_85 sx_m8 ?_
  refine sx_bipush (pc := 87) (v := 100) dX5_fillBetween_87 (by decide) ?_
  refine sx_icmp_ge (pc := 89) (tgt := 235) dX5_fillBetween_89 (by decide) (fun c3 => ?_) (fun c3 => ?_)
  · have h := sx_pos c3 h
    exact sv_vret (pc := 235) dX5_fillBetween_235 rfl h hP
  · have h := sx_neg c3 h
    refine sx_iload (pc := 92) dX5_fillBetween_92 sx_m7 ?_
    refine sx_iload (pc := 94) dX5_fillBetween_94 sx_m2 ?_
    refine sx_icmp_eq (pc := 96) (tgt := 235) dX5_fillBetween_96 (by decide) (fun c4 => ?_) (fun c4 => ?_)
    · have h := sx_pos c4 h
      exact sv_vret (pc := 235) dX5_fillBetween_235 rfl h hP
    · have h := sx_neg c4 h
      refine sx_aload_n (pc := 99) dX5_fillBetween_99 sx_m0 ?_
      refine sx_iload (pc := 100) dX5_fillBetween_100 sx_m7 ?_
      obtain ⟨n5, g6, h⟩ := sx_bnd h
      obtain ⟨g7, h⟩ := sx_grd h
      refine sv_iald (pc := 102) hG dX5_fillBetween_102 (sv_len_e g6) g7 ?_
      refine sx_aload_n (pc := 103) dX5_fillBetween_103 sx_m0 ?_
      refine sx_iload (pc := 104) dX5_fillBetween_104 sx_m5 ?_
      obtain ⟨g8, h⟩ := sx_grd h
      refine sv_iald (pc := 106) hG dX5_fillBetween_106 (sv_len_e g6) g8 ?_
      refine sx_icmp_gt (pc := 107) (tgt := 131) dX5_fillBetween_107 (by decide) (fun c9 => ?_) (fun c9 => ?_)
      · have h := sx_pos c9 h
        refine sx_aload_n (pc := 131) dX5_fillBetween_131 sx_m0 ?_
        refine sx_iload (pc := 132) dX5_fillBetween_132 sx_m7 ?_
        obtain ⟨g10, h⟩ := sx_grd h
        refine sv_iald (pc := 134) hG dX5_fillBetween_134 (sv_len_e g6) g10 ?_
        refine sx_aload_n (pc := 135) dX5_fillBetween_135 sx_m0 ?_
        refine sx_iload (pc := 136) dX5_fillBetween_136 sx_m6 ?_
        obtain ⟨g11, h⟩ := sx_grd h
        refine sv_iald (pc := 138) hG dX5_fillBetween_138 (sv_len_e g6) g11 ?_
        refine sx_icmp_lt (pc := 139) (tgt := 163) dX5_fillBetween_139 (by decide) (fun c12 => ?_) (fun c12 => ?_)
        · have h := sx_pos c12 h
          refine sx_aload_n (pc := 163) dX5_fillBetween_163 sx_m0 ?_
          refine sx_iload (pc := 164) dX5_fillBetween_164 sx_m7 ?_
          obtain ⟨g13, h⟩ := sx_grd h
          refine sv_iald (pc := 166) hG dX5_fillBetween_166 (sv_len_e g6) g13 ?_
          refine sx_aload_n (pc := 167) dX5_fillBetween_167 sx_m0 ?_
          refine sx_iload (pc := 168) dX5_fillBetween_168 sx_m5 ?_
          obtain ⟨g14, h⟩ := sx_grd h
          refine sv_iald (pc := 170) hG dX5_fillBetween_170 (sv_len_e g6) g14 ?_
          refine sx_isub (pc := 171) dX5_fillBetween_171 ?_
          refine sx_i2l (pc := 172) dX5_fillBetween_172 ?_
          refine sx_aload_n (pc := 173) dX5_fillBetween_173 sx_m1 ?_
          refine sx_iload (pc := 174) dX5_fillBetween_174 sx_m6 ?_
          obtain ⟨n15, g16, h⟩ := sx_bnd h
          obtain ⟨g17, h⟩ := sx_grd h
          refine sv_iald (pc := 176) hG dX5_fillBetween_176 (sv_len_e g16) g17 ?_
          refine sx_aload_n (pc := 177) dX5_fillBetween_177 sx_m1 ?_
          refine sx_iload (pc := 178) dX5_fillBetween_178 sx_m5 ?_
          obtain ⟨g18, h⟩ := sx_grd h
          refine sv_iald (pc := 180) hG dX5_fillBetween_180 (sv_len_e g16) g18 ?_
          refine sx_isub (pc := 181) dX5_fillBetween_181 ?_
          refine sx_i2l (pc := 182) dX5_fillBetween_182 ?_
          refine sx_lmul (pc := 183) dX5_fillBetween_183 ?_
          refine sv_tJ (fun x19 hx19 => ?_)
          have h := sx_letE hx19 h
          refine sx_lstore (pc := 184) (lo' := [(13, .long x19), (1, .ref l1), (2, .ref l2), (4, .int l4), (6, .int l6), (7, .int l7), (9, .int l9), (10, .int l10), (11, .int l11), (12, .int l12)]) dX5_fillBetween_184 (by decide) rfl ?_
          refine sx_aload_n (pc := 186) dX5_fillBetween_186 sx_m2 ?_
          refine sx_iload (pc := 187) dX5_fillBetween_187 sx_m8 ?_
          refine sx_aload_n (pc := 189) dX5_fillBetween_189 sx_m2 ?_
          refine sx_iload (pc := 190) dX5_fillBetween_190 sx_m6 ?_
          obtain ⟨g20, h⟩ := sx_grd h
          refine sv_iald (pc := 192) hG dX5_fillBetween_192 (sv_len_e g16) g20 ?_
          refine sx_lload (pc := 193) dX5_fillBetween_193 sx_m0 ?_
          refine sx_aload_n (pc := 195) dX5_fillBetween_195 sx_m1 ?_
          refine sx_iload (pc := 196) dX5_fillBetween_196 sx_m7 ?_
          obtain ⟨g21, h⟩ := sx_grd h
          refine sv_iald (pc := 198) hG dX5_fillBetween_198 (sv_len_e g6) g21 ?_
          refine sx_aload_n (pc := 199) dX5_fillBetween_199 sx_m1 ?_
          refine sx_iload (pc := 200) dX5_fillBetween_200 sx_m6 ?_
          obtain ⟨g22, h⟩ := sx_grd h
          refine sv_iald (pc := 202) hG dX5_fillBetween_202 (sv_len_e g6) g22 ?_
          refine sx_isub (pc := 203) dX5_fillBetween_203 ?_
          refine sx_i2l (pc := 204) dX5_fillBetween_204 ?_
          obtain ⟨⟨x25, V23⟩, g24, h⟩ := sx_bnd h
          refine sv_cN (pc := 205) (y := qX11_nearest) (o := (some (.long x25))) (as := [.long x19, .long (((V.1 l1 l10.toNatClampNeg) - (V.1 l1 l9.toNatClampNeg)).toInt64)]) (V1 := V23) dX5_fillBetween_205 n_X5_75 y0X11_nearest ysX11_nearest rfl (Nat.le_of_ble_eq_true rfl) (by decide) (Nat.le_of_ble_eq_true rfl) rfl rfl rfl (t_X11_nearest hG ⟨rfl, rfl⟩ g24) ?_
          refine sx_l2i (pc := 208) dX5_fillBetween_208 ?_
          refine sx_iadd (pc := 209) dX5_fillBetween_209 ?_
          obtain ⟨g26, h⟩ := sx_grd h
          obtain ⟨V27, hV27⟩ : ∃ z : sv_V, z = sv_I V23 l2 l11.toNatClampNeg ((V.1 l2 l9.toNatClampNeg) + x25.toInt32) := ⟨_, rfl⟩
          have h := sx_letE hV27 h
          refine sv_iast (pc := 210) hG dX5_fillBetween_210 (sv_len_e g16) g26 hV27 ?_
          refine sx_wk (sx_s1 sx_m1 (sx_s1 sx_m2 (sx_s1 sx_m3 (sx_s1 sx_m4 (sx_s1 sx_m5 (sx_s1 sx_m6 (sx_s1 sx_m7 (sx_s1 sx_m8 (sx_s1 sx_m9 sx_s0))))))))) ?_
          exact tB_X5_fillBetween_211 hG hP hk85 h
        · have h := sx_neg c12 h
          refine sx_aload_n (pc := 142) dX5_fillBetween_142 sx_m1 ?_
          refine sx_iload (pc := 143) dX5_fillBetween_143 sx_m7 ?_
          refine sx_aload_n (pc := 145) dX5_fillBetween_145 sx_m0 ?_
          refine sx_iload (pc := 146) dX5_fillBetween_146 sx_m7 ?_
          obtain ⟨g28, h⟩ := sx_grd h
          refine sv_iald (pc := 148) hG dX5_fillBetween_148 (sv_len_e g6) g28 ?_
          refine sx_aload_n (pc := 149) dX5_fillBetween_149 sx_m1 ?_
          refine sx_iload (pc := 150) dX5_fillBetween_150 sx_m6 ?_
          obtain ⟨n29, g30, h⟩ := sx_bnd h
          obtain ⟨g31, h⟩ := sx_grd h
          refine sv_iald (pc := 152) hG dX5_fillBetween_152 (sv_len_e g30) g31 ?_
          refine sx_aload_n (pc := 153) dX5_fillBetween_153 sx_m0 ?_
          refine sx_iload (pc := 154) dX5_fillBetween_154 sx_m6 ?_
          obtain ⟨g32, h⟩ := sx_grd h
          refine sv_iald (pc := 156) hG dX5_fillBetween_156 (sv_len_e g6) g32 ?_
          refine sx_isub (pc := 157) dX5_fillBetween_157 ?_
          refine sx_iadd (pc := 158) dX5_fillBetween_158 ?_
          obtain ⟨g33, h⟩ := sx_grd h
          obtain ⟨V34, hV34⟩ : ∃ z : sv_V, z = sv_I V l2 l11.toNatClampNeg ((V.1 l1 l11.toNatClampNeg) + ((V.1 l2 l10.toNatClampNeg) - (V.1 l1 l10.toNatClampNeg))) := ⟨_, rfl⟩
          have h := sx_letE hV34 h
          refine sv_iast (pc := 159) hG dX5_fillBetween_159 (sv_len_e g30) g33 hV34 ?_
          refine sx_goto (pc := 160) (tgt := 211) dX5_fillBetween_160 (by decide) ?_
          refine sx_wk (sx_s1 sx_m0 (sx_s1 sx_m1 (sx_s1 sx_m2 (sx_s1 sx_m3 (sx_s1 sx_m4 (sx_s1 sx_m5 (sx_s1 sx_m6 (sx_s1 sx_m7 (sx_s1 sx_m8 sx_s0))))))))) ?_
          exact tB_X5_fillBetween_211 hG hP hk85 h
      · have h := sx_neg c9 h
        refine sx_aload_n (pc := 110) dX5_fillBetween_110 sx_m1 ?_
        refine sx_iload (pc := 111) dX5_fillBetween_111 sx_m7 ?_
        refine sx_aload_n (pc := 113) dX5_fillBetween_113 sx_m0 ?_
        refine sx_iload (pc := 114) dX5_fillBetween_114 sx_m7 ?_
        obtain ⟨g35, h⟩ := sx_grd h
        refine sv_iald (pc := 116) hG dX5_fillBetween_116 (sv_len_e g6) g35 ?_
        refine sx_aload_n (pc := 117) dX5_fillBetween_117 sx_m1 ?_
        refine sx_iload (pc := 118) dX5_fillBetween_118 sx_m5 ?_
        obtain ⟨n36, g37, h⟩ := sx_bnd h
        obtain ⟨g38, h⟩ := sx_grd h
        refine sv_iald (pc := 120) hG dX5_fillBetween_120 (sv_len_e g37) g38 ?_
        refine sx_aload_n (pc := 121) dX5_fillBetween_121 sx_m0 ?_
        refine sx_iload (pc := 122) dX5_fillBetween_122 sx_m5 ?_
        obtain ⟨g39, h⟩ := sx_grd h
        refine sv_iald (pc := 124) hG dX5_fillBetween_124 (sv_len_e g6) g39 ?_
        refine sx_isub (pc := 125) dX5_fillBetween_125 ?_
        refine sx_iadd (pc := 126) dX5_fillBetween_126 ?_
        obtain ⟨g40, h⟩ := sx_grd h
        obtain ⟨V41, hV41⟩ : ∃ z : sv_V, z = sv_I V l2 l11.toNatClampNeg ((V.1 l1 l11.toNatClampNeg) + ((V.1 l2 l9.toNatClampNeg) - (V.1 l1 l9.toNatClampNeg))) := ⟨_, rfl⟩
        have h := sx_letE hV41 h
        refine sv_iast (pc := 127) hG dX5_fillBetween_127 (sv_len_e g37) g40 hV41 ?_
        refine sx_goto (pc := 128) (tgt := 211) dX5_fillBetween_128 (by decide) ?_
        refine sx_wk (sx_s1 sx_m0 (sx_s1 sx_m1 (sx_s1 sx_m2 (sx_s1 sx_m3 (sx_s1 sx_m4 (sx_s1 sx_m5 (sx_s1 sx_m6 (sx_s1 sx_m7 (sx_s1 sx_m8 sx_s0))))))))) ?_
        exact tB_X5_fillBetween_211 hG hP hk85 h
theorem tL_X5_fillBetween_85 {g : sx_G} (hG : sx_Go g) {P : Option Value → sv_V → Prop} {Vr : sv_V} (hP : P none Vr) {N : Nat}   : ∀ (n : Nat) (l1 : Nat) (l2 : Nat) (l4 : Int32) (l6 : Int32) (l7 : Int32) (l9 : Int32) (l10 : Int32) (l11 : Int32) (l12 : Int32) (V : sv_V), sx_lp10 (B_X5_fillBetween_85 N ) n l1 l2 l4 l6 l7 l9 l10 l11 l12 V = some Vr → sv_N g qX5_fillBetween 1 85 [(1, .ref l1), (2, .ref l2), (4, .int l4), (6, .int l6), (7, .int l7), (9, .int l9), (10, .int l10), (11, .int l11), (12, .int l12)] [] V P :=
  sx_lp10_ind (fun k0 ih _ _ _ _ _ _ _ _ _ V h => tB_X5_fillBetween_85 hG hP ih h)
def B_X5_fillBetween_80 (N : Nat)  (l1 : Nat) (l2 : Nat) (l4 : Int32) (l6 : Int32) (l7 : Int32) (l9 : Int32) (l10 : Int32) (s0 : Int32) (V : sv_V) : Option sv_V := sx_lp10 (B_X5_fillBetween_85 N ) N l1 l2 l4 l6 l7 l9 l10 s0 (0 : Int32) V
set_option maxRecDepth 20000 in
theorem tB_X5_fillBetween_80 {g : sx_G} (hG : sx_Go g) {P : Option Value → sv_V → Prop} {Vr : sv_V} (hP : P none Vr) {N : Nat}   {l1 : Nat} {l2 : Nat} {l4 : Int32} {l6 : Int32} {l7 : Int32} {l9 : Int32} {l10 : Int32} {s0 : Int32} {V : sv_V} (h : B_X5_fillBetween_80 N  l1 l2 l4 l6 l7 l9 l10 s0 V = some Vr) : sv_N g qX5_fillBetween 1 80 [(1, .ref l1), (2, .ref l2), (4, .int l4), (6, .int l6), (7, .int l7), (9, .int l9), (10, .int l10)] [.int s0] V P := by
  unfold B_X5_fillBetween_80 at h
  refine sx_istore (pc := 80) (lo' := [(11, .int s0), (1, .ref l1), (2, .ref l2), (4, .int l4), (6, .int l6), (7, .int l7), (9, .int l9), (10, .int l10)]) dX5_fillBetween_80 (by decide) rfl ?_
  refine sx_iconst (pc := 82) (v := 0) dX5_fillBetween_82 (by decide) ?_
  refine sx_istore (pc := 83) (lo' := [(12, .int (0 : Int32)), (11, .int s0), (1, .ref l1), (2, .ref l2), (4, .int l4), (6, .int l6), (7, .int l7), (9, .int l9), (10, .int l10)]) dX5_fillBetween_83 (by decide) rfl ?_
  refine sx_wk (sx_s1 sx_m2 (sx_s1 sx_m3 (sx_s1 sx_m4 (sx_s1 sx_m5 (sx_s1 sx_m6 (sx_s1 sx_m7 (sx_s1 sx_m8 (sx_s1 sx_m1 (sx_s1 sx_m0 sx_s0))))))))) ?_
  exact tL_X5_fillBetween_85 hG hP  N _ _ _ _ _ _ _ _ _ _ h
def B_X5_fillBetween_64 (N : Nat)  (l1 : Nat) (l2 : Nat) (l3 : Int32) (l4 : Int32) (l6 : Int32) (l7 : Int32) (l9 : Int32) (s0 : Int32) (V : sv_V) : Option sv_V := if l3 = l7 then (B_X5_fillBetween_80 N  l1 l2 l4 l6 l7 l9 s0 l6 V) else (B_X5_fillBetween_80 N  l1 l2 l4 l6 l7 l9 s0 (l3 + (1 : Int32)) V)
set_option maxRecDepth 20000 in
theorem tB_X5_fillBetween_64 {g : sx_G} (hG : sx_Go g) {P : Option Value → sv_V → Prop} {Vr : sv_V} (hP : P none Vr) {N : Nat}   {l1 : Nat} {l2 : Nat} {l3 : Int32} {l4 : Int32} {l6 : Int32} {l7 : Int32} {l9 : Int32} {s0 : Int32} {V : sv_V} (h : B_X5_fillBetween_64 N  l1 l2 l3 l4 l6 l7 l9 s0 V = some Vr) : sv_N g qX5_fillBetween 1 64 [(1, .ref l1), (2, .ref l2), (3, .int l3), (4, .int l4), (6, .int l6), (7, .int l7), (9, .int l9)] [.int s0] V P := by
  unfold B_X5_fillBetween_64 at h
  refine sx_istore (pc := 64) (lo' := [(10, .int s0), (1, .ref l1), (2, .ref l2), (3, .int l3), (4, .int l4), (6, .int l6), (7, .int l7), (9, .int l9)]) dX5_fillBetween_64 (by decide) rfl ?_
  refine sx_iload_n (pc := 66) dX5_fillBetween_66 sx_m3 ?_
  refine sx_iload (pc := 67) dX5_fillBetween_67 sx_m6 ?_
  refine sx_icmp_ne (pc := 69) (tgt := 77) dX5_fillBetween_69 (by decide) (fun c42 => ?_) (fun c42 => ?_)
  · have h := sx_neg c42 h
    refine sx_iload_n (pc := 77) dX5_fillBetween_77 sx_m3 ?_
    refine sx_iconst (pc := 78) (v := 1) dX5_fillBetween_78 (by decide) ?_
    refine sx_iadd (pc := 79) dX5_fillBetween_79 ?_
    refine sx_wk (sx_s1 sx_m1 (sx_s1 sx_m2 (sx_s1 sx_m4 (sx_s1 sx_m5 (sx_s1 sx_m6 (sx_s1 sx_m7 (sx_s1 sx_m0 sx_s0))))))) ?_
    exact tB_X5_fillBetween_80 hG hP  h
  · have h := sx_pos c42 h
    refine sx_iload (pc := 72) dX5_fillBetween_72 sx_m5 ?_
    refine sx_goto (pc := 74) (tgt := 80) dX5_fillBetween_74 (by decide) ?_
    refine sx_wk (sx_s1 sx_m1 (sx_s1 sx_m2 (sx_s1 sx_m4 (sx_s1 sx_m5 (sx_s1 sx_m6 (sx_s1 sx_m7 (sx_s1 sx_m0 sx_s0))))))) ?_
    exact tB_X5_fillBetween_80 hG hP  h
def B_X5_fillBetween_51 (N : Nat)  (l1 : Nat) (l2 : Nat) (l3 : Int32) (l4 : Int32) (l6 : Int32) (l7 : Int32) (l8 : Int32) (s0 : Int32) (V : sv_V) : Option sv_V := if l8 = 0 then (B_X5_fillBetween_64 N  l1 l2 l3 l4 l6 l7 s0 l4 V) else (B_X5_fillBetween_64 N  l1 l2 l3 l4 l6 l7 s0 l3 V)
set_option maxRecDepth 20000 in
theorem tB_X5_fillBetween_51 {g : sx_G} (hG : sx_Go g) {P : Option Value → sv_V → Prop} {Vr : sv_V} (hP : P none Vr) {N : Nat}   {l1 : Nat} {l2 : Nat} {l3 : Int32} {l4 : Int32} {l6 : Int32} {l7 : Int32} {l8 : Int32} {s0 : Int32} {V : sv_V} (h : B_X5_fillBetween_51 N  l1 l2 l3 l4 l6 l7 l8 s0 V = some Vr) : sv_N g qX5_fillBetween 1 51 [(1, .ref l1), (2, .ref l2), (3, .int l3), (4, .int l4), (6, .int l6), (7, .int l7), (8, .int l8)] [.int s0] V P := by
  unfold B_X5_fillBetween_51 at h
  refine sx_istore (pc := 51) (lo' := [(9, .int s0), (1, .ref l1), (2, .ref l2), (3, .int l3), (4, .int l4), (6, .int l6), (7, .int l7), (8, .int l8)]) dX5_fillBetween_51 (by decide) rfl ?_
  refine sx_iload (pc := 53) dX5_fillBetween_53 sx_m7 ?_
  refine sx_if_eq (pc := 55) (tgt := 62) dX5_fillBetween_55 (by decide) (fun c43 => ?_) (fun c43 => ?_)
  · have h := sx_pos c43 h
    refine sx_iload (pc := 62) dX5_fillBetween_62 sx_m4 ?_
    refine sx_wk (sx_s1 sx_m1 (sx_s1 sx_m2 (sx_s1 sx_m3 (sx_s1 sx_m4 (sx_s1 sx_m5 (sx_s1 sx_m6 (sx_s1 sx_m0 sx_s0))))))) ?_
    exact tB_X5_fillBetween_64 hG hP  h
  · have h := sx_neg c43 h
    refine sx_iload_n (pc := 58) dX5_fillBetween_58 sx_m3 ?_
    refine sx_goto (pc := 59) (tgt := 64) dX5_fillBetween_59 (by decide) ?_
    refine sx_wk (sx_s1 sx_m1 (sx_s1 sx_m2 (sx_s1 sx_m3 (sx_s1 sx_m4 (sx_s1 sx_m5 (sx_s1 sx_m6 (sx_s1 sx_m0 sx_s0))))))) ?_
    exact tB_X5_fillBetween_64 hG hP  h
def B_X5_fillBetween_38 (N : Nat)  (l1 : Nat) (l2 : Nat) (l3 : Int32) (l4 : Int32) (l6 : Int32) (l7 : Int32) (s0 : Int32) (V : sv_V) : Option sv_V := if s0 = 0 then (B_X5_fillBetween_51 N  l1 l2 l3 l4 l6 l7 s0 l3 V) else (B_X5_fillBetween_51 N  l1 l2 l3 l4 l6 l7 s0 l4 V)
set_option maxRecDepth 20000 in
theorem tB_X5_fillBetween_38 {g : sx_G} (hG : sx_Go g) {P : Option Value → sv_V → Prop} {Vr : sv_V} (hP : P none Vr) {N : Nat}   {l1 : Nat} {l2 : Nat} {l3 : Int32} {l4 : Int32} {l6 : Int32} {l7 : Int32} {s0 : Int32} {V : sv_V} (h : B_X5_fillBetween_38 N  l1 l2 l3 l4 l6 l7 s0 V = some Vr) : sv_N g qX5_fillBetween 1 38 [(1, .ref l1), (2, .ref l2), (3, .int l3), (4, .int l4), (6, .int l6), (7, .int l7)] [.int s0] V P := by
  unfold B_X5_fillBetween_38 at h
  refine sx_istore (pc := 38) (lo' := [(8, .int s0), (1, .ref l1), (2, .ref l2), (3, .int l3), (4, .int l4), (6, .int l6), (7, .int l7)]) dX5_fillBetween_38 (by decide) rfl ?_
  refine sx_iload (pc := 40) dX5_fillBetween_40 sx_m0 ?_
  refine sx_if_eq (pc := 42) (tgt := 50) dX5_fillBetween_42 (by decide) (fun c44 => ?_) (fun c44 => ?_)
  · have h := sx_pos c44 h
    refine sx_iload_n (pc := 50) dX5_fillBetween_50 sx_m3 ?_
    refine sx_wk (sx_s1 sx_m1 (sx_s1 sx_m2 (sx_s1 sx_m3 (sx_s1 sx_m4 (sx_s1 sx_m5 (sx_s1 sx_m6 (sx_s1 sx_m0 sx_s0))))))) ?_
    exact tB_X5_fillBetween_51 hG hP  h
  · have h := sx_neg c44 h
    refine sx_iload (pc := 45) dX5_fillBetween_45 sx_m4 ?_
    refine sx_goto (pc := 47) (tgt := 51) dX5_fillBetween_47 (by decide) ?_
    refine sx_wk (sx_s1 sx_m1 (sx_s1 sx_m2 (sx_s1 sx_m3 (sx_s1 sx_m4 (sx_s1 sx_m5 (sx_s1 sx_m6 (sx_s1 sx_m0 sx_s0))))))) ?_
    exact tB_X5_fillBetween_51 hG hP  h
def F_X5_fillBetween (N : Nat) (l1 : Nat) (l2 : Nat) (l3 : Int32) (l4 : Int32) (l5 : Int32) (V : sv_V) : Option sv_V := (V.2.2 69 7).bind (fun b45 => (F_X8_firstOf b45 l5 V).bind (fun (x49, V47) => if lay b45 = .inl 8 then (V47.2.2 69 7).bind (fun b51 => if lay b51 = .inl 8 then (cr b51 6).bind (fun b54 => (sv_len 0 b54).bind (fun n56 => if sx_in l5 n56 = true then sx_let (V47.1 b54 l5.toNatClampNeg) (fun x59 => (sv_len 0 l1).bind (fun n60 => if sx_in l4 n60 = true then if sx_in l3 n60 = true then if (V47.1 l1 l3.toNatClampNeg) ≤ (V47.1 l1 l4.toNatClampNeg) then (B_X5_fillBetween_38 N  l1 l2 l3 l4 x49 x59 (0 : Int32) V47) else (B_X5_fillBetween_38 N  l1 l2 l3 l4 x49 x59 (1 : Int32) V47) else none else none)) else none)) else none) else none))
set_option maxRecDepth 20000 in
theorem t_X5_fillBetween {g : sx_G} (hG : sx_Go g) {P : Option Value → sv_V → Prop} {Vr : sv_V} (hP : P none Vr) {N : Nat} {l1 : Nat} {l2 : Nat} {l3 : Int32} {l4 : Int32} {l5 : Int32} {V : sv_V} (h : F_X5_fillBetween N l1 l2 l3 l4 l5 V = some Vr) : sv_N g qX5_fillBetween 1 0 [(0, .ref 69), (1, .ref l1), (2, .ref l2), (3, .int l3), (4, .int l4), (5, .int l5)] [] V P := by
  unfold F_X5_fillBetween at h
  refine sx_aload_n (pc := 0) dX5_fillBetween_0 sx_m0 ?_
  obtain ⟨b45, g46, h⟩ := sx_bnd h
  refine sv_getV (pc := 1) hG dX5_fillBetween_1 f_5_38 lay_69 rfl rfl g46 ?_
  refine sx_iload (pc := 4) dX5_fillBetween_4 sx_m5 ?_
  obtain ⟨⟨x49, V47⟩, g48, h⟩ := sx_bnd h
  obtain ⟨g50, h⟩ := sx_grd h
  refine sv_cV (pc := 6) (y := qX8_firstOf) (o := (some (.int x49))) (as := [.int l5]) (V1 := V47) hG dX5_fillBetween_6 l_X5_483 y0X8_firstOf yvX8_firstOf rfl (Nat.le_of_ble_eq_true rfl) g50 kr_8 (by decide) (Nat.le_of_ble_eq_true rfl) rfl rfl rfl (t_X8_firstOf hG ⟨rfl, rfl⟩ g48) ?_
  refine sx_istore (pc := 9) (lo' := [(6, .int x49), (0, .ref 69), (1, .ref l1), (2, .ref l2), (3, .int l3), (4, .int l4), (5, .int l5)]) dX5_fillBetween_9 (by decide) rfl ?_
  refine sx_aload_n (pc := 11) dX5_fillBetween_11 sx_m1 ?_
  obtain ⟨b51, g52, h⟩ := sx_bnd h
  refine sv_getV (pc := 12) hG dX5_fillBetween_12 f_5_38 lay_69 rfl rfl g52 ?_
  obtain ⟨g53, h⟩ := sx_grd h
  obtain ⟨b54, g55, h⟩ := sx_bnd h
  refine sv_getA (pc := 15) hG dX5_fillBetween_15 f_5_486 g53 rfl g55 ?_
  refine sx_iload (pc := 18) dX5_fillBetween_18 sx_m6 ?_
  obtain ⟨n56, g57, h⟩ := sx_bnd h
  obtain ⟨g58, h⟩ := sx_grd h
  refine sv_iald (pc := 20) hG dX5_fillBetween_20 (sv_len_e g57) g58 ?_
  refine sv_tI (fun x59 hx59 => ?_)
  have h := sx_letE hx59 h
  refine sx_istore (pc := 21) (lo' := [(7, .int x59), (6, .int x49), (0, .ref 69), (1, .ref l1), (2, .ref l2), (3, .int l3), (4, .int l4), (5, .int l5)]) dX5_fillBetween_21 (by decide) rfl ?_
  refine sx_aload_n (pc := 23) dX5_fillBetween_23 sx_m3 ?_
  refine sx_iload (pc := 24) dX5_fillBetween_24 sx_m6 ?_
  obtain ⟨n60, g61, h⟩ := sx_bnd h
  obtain ⟨g62, h⟩ := sx_grd h
  refine sv_iald (pc := 26) hG dX5_fillBetween_26 (sv_len_e g61) g62 ?_
  refine sx_aload_n (pc := 27) dX5_fillBetween_27 sx_m3 ?_
  refine sx_iload_n (pc := 28) dX5_fillBetween_28 sx_m5 ?_
  obtain ⟨g63, h⟩ := sx_grd h
  refine sv_iald (pc := 29) hG dX5_fillBetween_29 (sv_len_e g61) g63 ?_
  refine sx_icmp_ge (pc := 30) (tgt := 37) dX5_fillBetween_30 (by decide) (fun c64 => ?_) (fun c64 => ?_)
  · have h := sx_pos c64 h
    refine sx_iconst (pc := 37) (v := 0) dX5_fillBetween_37 (by decide) ?_
    refine sx_wk (sx_s1 sx_m3 (sx_s1 sx_m4 (sx_s1 sx_m5 (sx_s1 sx_m6 (sx_s1 sx_m1 (sx_s1 sx_m0 sx_s0)))))) ?_
    exact tB_X5_fillBetween_38 hG hP  h
  · have h := sx_neg c64 h
    refine sx_iconst (pc := 33) (v := 1) dX5_fillBetween_33 (by decide) ?_
    refine sx_goto (pc := 34) (tgt := 38) dX5_fillBetween_34 (by decide) ?_
    refine sx_wk (sx_s1 sx_m3 (sx_s1 sx_m4 (sx_s1 sx_m5 (sx_s1 sx_m6 (sx_s1 sx_m1 (sx_s1 sx_m0 sx_s0)))))) ?_
    exact tB_X5_fillBetween_38 hG hP  h
theorem dX5_shiftPoints_0 : decode cX5_shiftPoints 0 = .ok (.aload_n 0, 1) := by decide +kernel
theorem dX5_shiftPoints_1 : decode cX5_shiftPoints 1 = .ok (.iconst 2, 1) := by decide +kernel
theorem dX5_shiftPoints_2 : decode cX5_shiftPoints 2 = .ok (.invokevirtual 255, 3) := by decide +kernel
theorem dX5_shiftPoints_5 : decode cX5_shiftPoints 5 = .ok (.astore_n 3, 1) := by decide +kernel
theorem dX5_shiftPoints_6 : decode cX5_shiftPoints 6 = .ok (.iconst 0, 1) := by decide +kernel
theorem dX5_shiftPoints_7 : decode cX5_shiftPoints 7 = .ok (.istore 4, 2) := by decide +kernel
theorem dX5_shiftPoints_9 : decode cX5_shiftPoints 9 = .ok (.iload 4, 2) := by decide +kernel
theorem dX5_shiftPoints_11 : decode cX5_shiftPoints 11 = .ok (.aload_n 0, 1) := by decide +kernel
theorem dX5_shiftPoints_12 : decode cX5_shiftPoints 12 = .ok (.getfield 12, 3) := by decide +kernel
theorem dX5_shiftPoints_15 : decode cX5_shiftPoints 15 = .ok (.getfield 163, 3) := by decide +kernel
theorem dX5_shiftPoints_18 : decode cX5_shiftPoints 18 = .ok (.if_icmp .ge 34, 3) := by decide +kernel
theorem dX5_shiftPoints_21 : decode cX5_shiftPoints 21 = .ok (.aload_n 0, 1) := by decide +kernel
theorem dX5_shiftPoints_22 : decode cX5_shiftPoints 22 = .ok (.invokevirtual 242, 3) := by decide +kernel
theorem dX5_shiftPoints_25 : decode cX5_shiftPoints 25 = .ok (.istore 5, 2) := by decide +kernel
theorem dX5_shiftPoints_27 : decode cX5_shiftPoints 27 = .ok (.aload_n 0, 1) := by decide +kernel
theorem dX5_shiftPoints_28 : decode cX5_shiftPoints 28 = .ok (.aload_n 3, 1) := by decide +kernel
theorem dX5_shiftPoints_29 : decode cX5_shiftPoints 29 = .ok (.iload 5, 2) := by decide +kernel
theorem dX5_shiftPoints_31 : decode cX5_shiftPoints 31 = .ok (.invokevirtual 259, 3) := by decide +kernel
theorem dX5_shiftPoints_34 : decode cX5_shiftPoints 34 = .ok (.ifCond .ne 4, 3) := by decide +kernel
theorem dX5_shiftPoints_37 : decode cX5_shiftPoints 37 = .ok (.return_, 1) := by decide +kernel
theorem dX5_shiftPoints_38 : decode cX5_shiftPoints 38 = .ok (.aload_n 0, 1) := by decide +kernel
theorem dX5_shiftPoints_39 : decode cX5_shiftPoints 39 = .ok (.aload_n 3, 1) := by decide +kernel
theorem dX5_shiftPoints_40 : decode cX5_shiftPoints 40 = .ok (.iload 5, 2) := by decide +kernel
theorem dX5_shiftPoints_42 : decode cX5_shiftPoints 42 = .ok (.lload_n 1, 1) := by decide +kernel
theorem dX5_shiftPoints_43 : decode cX5_shiftPoints 43 = .ok (.invokevirtual 461, 3) := by decide +kernel
theorem dX5_shiftPoints_46 : decode cX5_shiftPoints 46 = .ok (.iinc 4 1, 3) := by decide +kernel
theorem dX5_shiftPoints_49 : decode cX5_shiftPoints 49 = .ok (.goto (-40), 3) := by decide +kernel
theorem dX5_shiftPoints_52 : decode cX5_shiftPoints 52 = .ok (.aload_n 0, 1) := by decide +kernel
theorem dX5_shiftPoints_53 : decode cX5_shiftPoints 53 = .ok (.getfield 12, 3) := by decide +kernel
theorem dX5_shiftPoints_56 : decode cX5_shiftPoints 56 = .ok (.iconst 1, 1) := by decide +kernel
theorem dX5_shiftPoints_57 : decode cX5_shiftPoints 57 = .ok (.putfield 163, 3) := by decide +kernel
theorem dX5_shiftPoints_60 : decode cX5_shiftPoints 60 = .ok (.return_, 1) := by decide +kernel
def B_X5_shiftPoints_9 (N : Nat) (k9 : Int64 → Nat → Int32 → sv_V → Option sv_V) (l1 : Int64) (l3 : Nat) (l4 : Int32) (V : sv_V) : Option sv_V := if (V.1 70 8) ≤ l4 then (sx_let (sv_I V 70 8 (1 : Int32)) (fun V2 => some V2)) else ((F_X5_pop  V).bind (fun (x5, V3) => (F_X5_isThere l3 x5 V3).bind (fun (x8, V6) => if x8 = 0 then (some V6) else ((F_X5_move l3 x5 l1 V6).bind (fun V10 => sx_let (l4 + 1) (fun x12 => k9 l1 l3 x12 V10))))))
set_option maxRecDepth 20000 in
theorem tB_X5_shiftPoints_9 {g : sx_G} (hG : sx_Go g) {P : Option Value → sv_V → Prop} {Vr : sv_V} (hP : P none Vr) {N : Nat} {k9 : Int64 → Nat → Int32 → sv_V → Option sv_V} (hk9 : ∀ (l1 : Int64) (l3 : Nat) (l4 : Int32) (V : sv_V), k9 l1 l3 l4 V = some Vr → sv_N g qX5_shiftPoints 2 9 [(0, .ref 69), (1, .long l1), (3, .ref l3), (4, .int l4)] [] V P) {l1 : Int64} {l3 : Nat} {l4 : Int32} {V : sv_V} (h : B_X5_shiftPoints_9 N k9 l1 l3 l4 V = some Vr) : sv_N g qX5_shiftPoints 2 9 [(0, .ref 69), (1, .long l1), (3, .ref l3), (4, .int l4)] [] V P := by
  unfold B_X5_shiftPoints_9 at h
  refine sx_iload (pc := 9) dX5_shiftPoints_9 sx_m3 ?_
  refine sx_aload_n (pc := 11) dX5_shiftPoints_11 sx_m0 ?_
  refine sv_getO (pc := 12) hG dX5_shiftPoints_12 f_5_12 lay_69 rfl cr_69_1 ?_
  refine sv_getI (pc := 15) hG dX5_shiftPoints_15 f_5_163 lay_70 rfl ?_
  refine sx_icmp_ge (pc := 18) (tgt := 52) dX5_shiftPoints_18 (by decide) (fun c1 => ?_) (fun c1 => ?_)
  · have h := sx_pos c1 h
    refine sx_aload_n (pc := 52) dX5_shiftPoints_52 sx_m0 ?_
    refine sv_getO (pc := 53) hG dX5_shiftPoints_53 f_5_12 lay_69 rfl cr_69_1 ?_
    refine sx_iconst (pc := 56) (v := 1) dX5_shiftPoints_56 (by decide) ?_
    obtain ⟨V2, hV2⟩ : ∃ z : sv_V, z = sv_I V 70 8 (1 : Int32) := ⟨_, rfl⟩
    have h := sx_letE hV2 h
    refine sv_putI (pc := 57) hG dX5_shiftPoints_57 f_5_163 lay_70 rfl hV2 ?_
    exact sv_vret (pc := 60) dX5_shiftPoints_60 rfl h hP
  · have h := sx_neg c1 h
    refine sx_aload_n (pc := 21) dX5_shiftPoints_21 sx_m0 ?_
    obtain ⟨⟨x5, V3⟩, g4, h⟩ := sx_bnd h
    refine sv_cV (pc := 22) (y := qX5_pop) (o := (some (.int x5))) (as := []) (V1 := V3) hG dX5_shiftPoints_22 l_X5_242 y0X5_pop yvX5_pop rfl (Nat.le_of_ble_eq_true rfl) lay_69 kr_5 (by decide) (Nat.le_of_ble_eq_true rfl) rfl rfl rfl (t_X5_pop hG ⟨rfl, rfl⟩ g4) ?_
    refine sx_istore (pc := 25) (lo' := [(5, .int x5), (0, .ref 69), (1, .long l1), (3, .ref l3), (4, .int l4)]) dX5_shiftPoints_25 (by decide) rfl ?_
    refine sx_aload_n (pc := 27) dX5_shiftPoints_27 sx_m1 ?_
    refine sx_aload_n (pc := 28) dX5_shiftPoints_28 sx_m3 ?_
    refine sx_iload (pc := 29) dX5_shiftPoints_29 sx_m0 ?_
    obtain ⟨⟨x8, V6⟩, g7, h⟩ := sx_bnd h
    refine sv_cV (pc := 31) (y := qX5_isThere) (o := (some (.int x8))) (as := [.ref l3, .int x5]) (V1 := V6) hG dX5_shiftPoints_31 l_X5_259 y0X5_isThere yvX5_isThere rfl (Nat.le_of_ble_eq_true rfl) lay_69 kr_5 (by decide) (Nat.le_of_ble_eq_true rfl) rfl rfl rfl (t_X5_isThere hG ⟨rfl, rfl⟩ g7) ?_
    refine sx_if_ne (pc := 34) (tgt := 38) dX5_shiftPoints_34 (by decide) (fun c9 => ?_) (fun c9 => ?_)
    · have h := sx_neg c9 h
      refine sx_aload_n (pc := 38) dX5_shiftPoints_38 sx_m1 ?_
      refine sx_aload_n (pc := 39) dX5_shiftPoints_39 sx_m3 ?_
      refine sx_iload (pc := 40) dX5_shiftPoints_40 sx_m0 ?_
      refine sx_lload_n (pc := 42) dX5_shiftPoints_42 sx_m2 ?_
      obtain ⟨V10, g11, h⟩ := sx_bnd h
      refine sv_cV (pc := 43) (y := qX5_move) (o := none) (as := [.ref l3, .int x5, .long l1]) (V1 := V10) hG dX5_shiftPoints_43 l_X5_461 y0X5_move yvX5_move rfl (Nat.le_of_ble_eq_true rfl) lay_69 kr_5 (by decide) (Nat.le_of_ble_eq_true rfl) rfl rfl rfl (t_X5_move hG ⟨rfl, rfl⟩ g11) ?_
      obtain ⟨x12, hx12⟩ : ∃ z : Int32, z = l4 + 1 := ⟨_, rfl⟩
      have h := sx_letE hx12 h
      refine sx_iinc (pc := 46) (v := x12) (lo' := [(4, .int x12), (5, .int x5), (0, .ref 69), (1, .long l1), (3, .ref l3)]) dX5_shiftPoints_46 sx_m4 (by rw [hx12]; rfl) (by decide) rfl ?_
      refine sx_goto (pc := 49) (tgt := 9) dX5_shiftPoints_49 (by decide) ?_
      refine sx_wk (sx_s1 sx_m2 (sx_s1 sx_m3 (sx_s1 sx_m4 (sx_s1 sx_m0 sx_s0)))) ?_
      exact hk9 _ _ _ _ h
    · have h := sx_pos c9 h
      exact sv_vret (pc := 37) dX5_shiftPoints_37 rfl h hP
theorem tL_X5_shiftPoints_9 {g : sx_G} (hG : sx_Go g) {P : Option Value → sv_V → Prop} {Vr : sv_V} (hP : P none Vr) {N : Nat}   : ∀ (n : Nat) (l1 : Int64) (l3 : Nat) (l4 : Int32) (V : sv_V), sx_lp4 (B_X5_shiftPoints_9 N ) n l1 l3 l4 V = some Vr → sv_N g qX5_shiftPoints 2 9 [(0, .ref 69), (1, .long l1), (3, .ref l3), (4, .int l4)] [] V P :=
  sx_lp4_ind (fun k0 ih _ _ _ V h => tB_X5_shiftPoints_9 hG hP ih h)
def F_X5_shiftPoints (N : Nat) (l1 : Int64) (V : sv_V) : Option sv_V := (F_X5_zone (2 : Int32) V).bind (fun (x15, V13) => sx_lp4 (B_X5_shiftPoints_9 N ) N l1 x15 (0 : Int32) V13)
set_option maxRecDepth 20000 in
theorem t_X5_shiftPoints {g : sx_G} (hG : sx_Go g) {P : Option Value → sv_V → Prop} {Vr : sv_V} (hP : P none Vr) {N : Nat} {l1 : Int64} {V : sv_V} (h : F_X5_shiftPoints N l1 V = some Vr) : sv_N g qX5_shiftPoints 2 0 [(0, .ref 69), (1, .long l1)] [] V P := by
  unfold F_X5_shiftPoints at h
  refine sx_aload_n (pc := 0) dX5_shiftPoints_0 sx_m0 ?_
  refine sx_iconst (pc := 1) (v := 2) dX5_shiftPoints_1 (by decide) ?_
  obtain ⟨⟨x15, V13⟩, g14, h⟩ := sx_bnd h
  refine sv_cV (pc := 2) (y := qX5_zone) (o := (some (.ref x15))) (as := [.int (2 : Int32)]) (V1 := V13) hG dX5_shiftPoints_2 l_X5_255 y0X5_zone yvX5_zone rfl (Nat.le_of_ble_eq_true rfl) lay_69 kr_5 (by decide) (Nat.le_of_ble_eq_true rfl) rfl rfl rfl (t_X5_zone hG ⟨rfl, rfl⟩ g14) ?_
  refine sx_astore_n (pc := 5) (lo' := [(3, .ref x15), (0, .ref 69), (1, .long l1)]) dX5_shiftPoints_5 (by decide) rfl ?_
  refine sx_iconst (pc := 6) (v := 0) dX5_shiftPoints_6 (by decide) ?_
  refine sx_istore (pc := 7) (lo' := [(4, .int (0 : Int32)), (3, .ref x15), (0, .ref 69), (1, .long l1)]) dX5_shiftPoints_7 (by decide) rfl ?_
  refine sx_wk (sx_s1 sx_m2 (sx_s1 sx_m3 (sx_s1 sx_m1 (sx_s1 sx_m0 sx_s0)))) ?_
  exact tL_X5_shiftPoints_9 hG hP  N _ _ _ _ h
theorem dX5_shiftContour_0 : decode cX5_shiftContour 0 = .ok (.aload_n 0, 1) := by decide +kernel
theorem dX5_shiftContour_1 : decode cX5_shiftContour 1 = .ok (.invokevirtual 242, 3) := by decide +kernel
theorem dX5_shiftContour_4 : decode cX5_shiftContour 4 = .ok (.istore 4, 2) := by decide +kernel
theorem dX5_shiftContour_6 : decode cX5_shiftContour 6 = .ok (.aload_n 0, 1) := by decide +kernel
theorem dX5_shiftContour_7 : decode cX5_shiftContour 7 = .ok (.getfield 12, 3) := by decide +kernel
theorem dX5_shiftContour_10 : decode cX5_shiftContour 10 = .ok (.getfield 172, 3) := by decide +kernel
theorem dX5_shiftContour_13 : decode cX5_shiftContour 13 = .ok (.iconst 2, 1) := by decide +kernel
theorem dX5_shiftContour_14 : decode cX5_shiftContour 14 = .ok (.iaload, 1) := by decide +kernel
theorem dX5_shiftContour_15 : decode cX5_shiftContour 15 = .ok (.iconst 1, 1) := by decide +kernel
theorem dX5_shiftContour_16 : decode cX5_shiftContour 16 = .ok (.if_icmp .ne 20, 3) := by decide +kernel
theorem dX5_shiftContour_19 : decode cX5_shiftContour 19 = .ok (.iload 4, 2) := by decide +kernel
theorem dX5_shiftContour_21 : decode cX5_shiftContour 21 = .ok (.ifCond .lt 15, 3) := by decide +kernel
theorem dX5_shiftContour_24 : decode cX5_shiftContour 24 = .ok (.iload 4, 2) := by decide +kernel
theorem dX5_shiftContour_26 : decode cX5_shiftContour 26 = .ok (.aload_n 0, 1) := by decide +kernel
theorem dX5_shiftContour_27 : decode cX5_shiftContour 27 = .ok (.getfield 38, 3) := by decide +kernel
theorem dX5_shiftContour_30 : decode cX5_shiftContour 30 = .ok (.getfield 480, 3) := by decide +kernel
theorem dX5_shiftContour_33 : decode cX5_shiftContour 33 = .ok (.if_icmp .lt 9, 3) := by decide +kernel
theorem dX5_shiftContour_36 : decode cX5_shiftContour 36 = .ok (.aload_n 0, 1) := by decide +kernel
theorem dX5_shiftContour_37 : decode cX5_shiftContour 37 = .ok (.iconst 5, 1) := by decide +kernel
theorem dX5_shiftContour_38 : decode cX5_shiftContour 38 = .ok (.putfield 56, 3) := by decide +kernel
theorem dX5_shiftContour_41 : decode cX5_shiftContour 41 = .ok (.return_, 1) := by decide +kernel
theorem dX5_shiftContour_42 : decode cX5_shiftContour 42 = .ok (.aload_n 0, 1) := by decide +kernel
theorem dX5_shiftContour_43 : decode cX5_shiftContour 43 = .ok (.getfield 38, 3) := by decide +kernel
theorem dX5_shiftContour_46 : decode cX5_shiftContour 46 = .ok (.iload 4, 2) := by decide +kernel
theorem dX5_shiftContour_48 : decode cX5_shiftContour 48 = .ok (.invokevirtual 483, 3) := by decide +kernel
theorem dX5_shiftContour_51 : decode cX5_shiftContour 51 = .ok (.istore 5, 2) := by decide +kernel
theorem dX5_shiftContour_53 : decode cX5_shiftContour 53 = .ok (.iload 5, 2) := by decide +kernel
theorem dX5_shiftContour_55 : decode cX5_shiftContour 55 = .ok (.aload_n 0, 1) := by decide +kernel
theorem dX5_shiftContour_56 : decode cX5_shiftContour 56 = .ok (.getfield 38, 3) := by decide +kernel
theorem dX5_shiftContour_59 : decode cX5_shiftContour 59 = .ok (.getfield 486, 3) := by decide +kernel
theorem dX5_shiftContour_62 : decode cX5_shiftContour 62 = .ok (.iload 4, 2) := by decide +kernel
theorem dX5_shiftContour_64 : decode cX5_shiftContour 64 = .ok (.iaload, 1) := by decide +kernel
theorem dX5_shiftContour_65 : decode cX5_shiftContour 65 = .ok (.if_icmp .gt 26, 3) := by decide +kernel
theorem dX5_shiftContour_68 : decode cX5_shiftContour 68 = .ok (.iload 5, 2) := by decide +kernel
theorem dX5_shiftContour_70 : decode cX5_shiftContour 70 = .ok (.iload_n 3, 1) := by decide +kernel
theorem dX5_shiftContour_71 : decode cX5_shiftContour 71 = .ok (.if_icmp .eq 14, 3) := by decide +kernel
theorem dX5_shiftContour_74 : decode cX5_shiftContour 74 = .ok (.aload_n 0, 1) := by decide +kernel
theorem dX5_shiftContour_75 : decode cX5_shiftContour 75 = .ok (.aload_n 0, 1) := by decide +kernel
theorem dX5_shiftContour_76 : decode cX5_shiftContour 76 = .ok (.getfield 38, 3) := by decide +kernel
theorem dX5_shiftContour_79 : decode cX5_shiftContour 79 = .ok (.iload 5, 2) := by decide +kernel
theorem dX5_shiftContour_81 : decode cX5_shiftContour 81 = .ok (.lload_n 1, 1) := by decide +kernel
theorem dX5_shiftContour_82 : decode cX5_shiftContour 82 = .ok (.invokevirtual 461, 3) := by decide +kernel
theorem dX5_shiftContour_85 : decode cX5_shiftContour 85 = .ok (.iinc 5 1, 3) := by decide +kernel
theorem dX5_shiftContour_88 : decode cX5_shiftContour 88 = .ok (.goto (-35), 3) := by decide +kernel
theorem dX5_shiftContour_91 : decode cX5_shiftContour 91 = .ok (.return_, 1) := by decide +kernel
def B_X5_shiftContour_85 (N : Nat) (k53 : Int64 → Int32 → Int32 → Int32 → sv_V → Option sv_V) (l1 : Int64) (l3 : Int32) (l4 : Int32) (l5 : Int32) (V : sv_V) : Option sv_V := sx_let (l5 + 1) (fun x1 => k53 l1 l3 l4 x1 V)
set_option maxRecDepth 20000 in
theorem tB_X5_shiftContour_85 {g : sx_G} (hG : sx_Go g) {P : Option Value → sv_V → Prop} {Vr : sv_V} (hP : P none Vr) {N : Nat} {k53 : Int64 → Int32 → Int32 → Int32 → sv_V → Option sv_V} (hk53 : ∀ (l1 : Int64) (l3 : Int32) (l4 : Int32) (l5 : Int32) (V : sv_V), k53 l1 l3 l4 l5 V = some Vr → sv_N g qX5_shiftContour 2 53 [(0, .ref 69), (1, .long l1), (3, .int l3), (4, .int l4), (5, .int l5)] [] V P) {l1 : Int64} {l3 : Int32} {l4 : Int32} {l5 : Int32} {V : sv_V} (h : B_X5_shiftContour_85 N k53 l1 l3 l4 l5 V = some Vr) : sv_N g qX5_shiftContour 2 85 [(0, .ref 69), (1, .long l1), (3, .int l3), (4, .int l4), (5, .int l5)] [] V P := by
  unfold B_X5_shiftContour_85 at h
  obtain ⟨x1, hx1⟩ : ∃ z : Int32, z = l5 + 1 := ⟨_, rfl⟩
  have h := sx_letE hx1 h
  refine sx_iinc (pc := 85) (v := x1) (lo' := [(5, .int x1), (0, .ref 69), (1, .long l1), (3, .int l3), (4, .int l4)]) dX5_shiftContour_85 sx_m4 (by rw [hx1]; rfl) (by decide) rfl ?_
  refine sx_goto (pc := 88) (tgt := 53) dX5_shiftContour_88 (by decide) ?_
  refine sx_wk (sx_s1 sx_m1 (sx_s1 sx_m2 (sx_s1 sx_m3 (sx_s1 sx_m4 (sx_s1 sx_m0 sx_s0))))) ?_
  exact hk53 _ _ _ _ _ h
def B_X5_shiftContour_53 (N : Nat) (k53 : Int64 → Int32 → Int32 → Int32 → sv_V → Option sv_V) (l1 : Int64) (l3 : Int32) (l4 : Int32) (l5 : Int32) (V : sv_V) : Option sv_V := (V.2.2 69 7).bind (fun b2 => if lay b2 = .inl 8 then (cr b2 6).bind (fun b5 => (sv_len 0 b5).bind (fun n7 => if sx_in l4 n7 = true then if (V.1 b5 l4.toNatClampNeg) < l5 then (some V) else (if l5 = l3 then (B_X5_shiftContour_85 N k53 l1 l3 l4 l5 V) else ((V.2.2 69 7).bind (fun b12 => (F_X5_move b12 l5 l1 V).bind (fun V14 => B_X5_shiftContour_85 N k53 l1 l3 l4 l5 V14)))) else none)) else none)
set_option maxRecDepth 20000 in
theorem tB_X5_shiftContour_53 {g : sx_G} (hG : sx_Go g) {P : Option Value → sv_V → Prop} {Vr : sv_V} (hP : P none Vr) {N : Nat} {k53 : Int64 → Int32 → Int32 → Int32 → sv_V → Option sv_V} (hk53 : ∀ (l1 : Int64) (l3 : Int32) (l4 : Int32) (l5 : Int32) (V : sv_V), k53 l1 l3 l4 l5 V = some Vr → sv_N g qX5_shiftContour 2 53 [(0, .ref 69), (1, .long l1), (3, .int l3), (4, .int l4), (5, .int l5)] [] V P) {l1 : Int64} {l3 : Int32} {l4 : Int32} {l5 : Int32} {V : sv_V} (h : B_X5_shiftContour_53 N k53 l1 l3 l4 l5 V = some Vr) : sv_N g qX5_shiftContour 2 53 [(0, .ref 69), (1, .long l1), (3, .int l3), (4, .int l4), (5, .int l5)] [] V P := by
  unfold B_X5_shiftContour_53 at h
  refine sx_iload (pc := 53) dX5_shiftContour_53 sx_m4 ?_
  refine sx_aload_n (pc := 55) dX5_shiftContour_55 sx_m0 ?_
  obtain ⟨b2, g3, h⟩ := sx_bnd h
  refine sv_getV (pc := 56) hG dX5_shiftContour_56 f_5_38 lay_69 rfl rfl g3 ?_
  obtain ⟨g4, h⟩ := sx_grd h
  obtain ⟨b5, g6, h⟩ := sx_bnd h
  refine sv_getA (pc := 59) hG dX5_shiftContour_59 f_5_486 g4 rfl g6 ?_
  refine sx_iload (pc := 62) dX5_shiftContour_62 sx_m3 ?_
  obtain ⟨n7, g8, h⟩ := sx_bnd h
  obtain ⟨g9, h⟩ := sx_grd h
  refine sv_iald (pc := 64) hG dX5_shiftContour_64 (sv_len_e g8) g9 ?_
  refine sx_icmp_gt (pc := 65) (tgt := 91) dX5_shiftContour_65 (by decide) (fun c10 => ?_) (fun c10 => ?_)
  · have h := sx_pos c10 h
    exact sv_vret (pc := 91) dX5_shiftContour_91 rfl h hP
  · have h := sx_neg c10 h
    refine sx_iload (pc := 68) dX5_shiftContour_68 sx_m4 ?_
    refine sx_iload_n (pc := 70) dX5_shiftContour_70 sx_m2 ?_
    refine sx_icmp_eq (pc := 71) (tgt := 85) dX5_shiftContour_71 (by decide) (fun c11 => ?_) (fun c11 => ?_)
    · have h := sx_pos c11 h
      refine sx_wk (sx_s1 sx_m0 (sx_s1 sx_m1 (sx_s1 sx_m2 (sx_s1 sx_m3 (sx_s1 sx_m4 sx_s0))))) ?_
      exact tB_X5_shiftContour_85 hG hP hk53 h
    · have h := sx_neg c11 h
      refine sx_aload_n (pc := 74) dX5_shiftContour_74 sx_m0 ?_
      refine sx_aload_n (pc := 75) dX5_shiftContour_75 sx_m0 ?_
      obtain ⟨b12, g13, h⟩ := sx_bnd h
      refine sv_getV (pc := 76) hG dX5_shiftContour_76 f_5_38 lay_69 rfl rfl g13 ?_
      refine sx_iload (pc := 79) dX5_shiftContour_79 sx_m4 ?_
      refine sx_lload_n (pc := 81) dX5_shiftContour_81 sx_m1 ?_
      obtain ⟨V14, g15, h⟩ := sx_bnd h
      refine sv_cV (pc := 82) (y := qX5_move) (o := none) (as := [.ref b12, .int l5, .long l1]) (V1 := V14) hG dX5_shiftContour_82 l_X5_461 y0X5_move yvX5_move rfl (Nat.le_of_ble_eq_true rfl) lay_69 kr_5 (by decide) (Nat.le_of_ble_eq_true rfl) rfl rfl rfl (t_X5_move hG ⟨rfl, rfl⟩ g15) ?_
      refine sx_wk (sx_s1 sx_m0 (sx_s1 sx_m1 (sx_s1 sx_m2 (sx_s1 sx_m3 (sx_s1 sx_m4 sx_s0))))) ?_
      exact tB_X5_shiftContour_85 hG hP hk53 h
theorem tL_X5_shiftContour_53 {g : sx_G} (hG : sx_Go g) {P : Option Value → sv_V → Prop} {Vr : sv_V} (hP : P none Vr) {N : Nat}   : ∀ (n : Nat) (l1 : Int64) (l3 : Int32) (l4 : Int32) (l5 : Int32) (V : sv_V), sx_lp5 (B_X5_shiftContour_53 N ) n l1 l3 l4 l5 V = some Vr → sv_N g qX5_shiftContour 2 53 [(0, .ref 69), (1, .long l1), (3, .int l3), (4, .int l4), (5, .int l5)] [] V P :=
  sx_lp5_ind (fun k0 ih _ _ _ _ V h => tB_X5_shiftContour_53 hG hP ih h)
def F_X5_shiftContour (N : Nat) (l1 : Int64) (l3 : Int32) (V : sv_V) : Option sv_V := (F_X5_pop  V).bind (fun (x18, V16) => if (V16.1 72 (2 : Int32).toNatClampNeg) = (1 : Int32) then (if x18 < 0 then (sx_let (sv_I V16 69 14 (5 : Int32)) (fun V22 => some V22)) else ((V16.2.2 69 7).bind (fun b23 => if lay b23 = .inl 8 then if x18 < (V16.1 b23 10) then ((V16.2.2 69 7).bind (fun b27 => (F_X8_firstOf b27 x18 V16).bind (fun (x31, V29) => if lay b27 = .inl 8 then sx_lp5 (B_X5_shiftContour_53 N ) N l1 l3 x18 x31 V29 else none))) else (sx_let (sv_I V16 69 14 (5 : Int32)) (fun V33 => some V33)) else none))) else (sx_let (sv_I V16 69 14 (5 : Int32)) (fun V20 => some V20)))
set_option maxRecDepth 20000 in
theorem t_X5_shiftContour {g : sx_G} (hG : sx_Go g) {P : Option Value → sv_V → Prop} {Vr : sv_V} (hP : P none Vr) {N : Nat} {l1 : Int64} {l3 : Int32} {V : sv_V} (h : F_X5_shiftContour N l1 l3 V = some Vr) : sv_N g qX5_shiftContour 2 0 [(0, .ref 69), (1, .long l1), (3, .int l3)] [] V P := by
  unfold F_X5_shiftContour at h
  refine sx_aload_n (pc := 0) dX5_shiftContour_0 sx_m0 ?_
  obtain ⟨⟨x18, V16⟩, g17, h⟩ := sx_bnd h
  refine sv_cV (pc := 1) (y := qX5_pop) (o := (some (.int x18))) (as := []) (V1 := V16) hG dX5_shiftContour_1 l_X5_242 y0X5_pop yvX5_pop rfl (Nat.le_of_ble_eq_true rfl) lay_69 kr_5 (by decide) (Nat.le_of_ble_eq_true rfl) rfl rfl rfl (t_X5_pop hG ⟨rfl, rfl⟩ g17) ?_
  refine sx_istore (pc := 4) (lo' := [(4, .int x18), (0, .ref 69), (1, .long l1), (3, .int l3)]) dX5_shiftContour_4 (by decide) rfl ?_
  refine sx_aload_n (pc := 6) dX5_shiftContour_6 sx_m1 ?_
  refine sv_getO (pc := 7) hG dX5_shiftContour_7 f_5_12 lay_69 rfl cr_69_1 ?_
  refine sv_getA (pc := 10) hG dX5_shiftContour_10 f_5_172 lay_70 rfl cr_70_7 ?_
  refine sx_iconst (pc := 13) (v := 2) dX5_shiftContour_13 (by decide) ?_
  refine sv_iald (pc := 14) hG dX5_shiftContour_14 lay_72 (by decide) ?_
  refine sx_iconst (pc := 15) (v := 1) dX5_shiftContour_15 (by decide) ?_
  refine sx_icmp_ne (pc := 16) (tgt := 36) dX5_shiftContour_16 (by decide) (fun c19 => ?_) (fun c19 => ?_)
  · have h := sx_neg c19 h
    refine sx_aload_n (pc := 36) dX5_shiftContour_36 sx_m1 ?_
    refine sx_iconst (pc := 37) (v := 5) dX5_shiftContour_37 (by decide) ?_
    obtain ⟨V20, hV20⟩ : ∃ z : sv_V, z = sv_I V16 69 14 (5 : Int32) := ⟨_, rfl⟩
    have h := sx_letE hV20 h
    refine sv_putI (pc := 38) hG dX5_shiftContour_38 f_5_56 lay_69 rfl hV20 ?_
    exact sv_vret (pc := 41) dX5_shiftContour_41 rfl h hP
  · have h := sx_pos c19 h
    refine sx_iload (pc := 19) dX5_shiftContour_19 sx_m0 ?_
    refine sx_if_lt (pc := 21) (tgt := 36) dX5_shiftContour_21 (by decide) (fun c21 => ?_) (fun c21 => ?_)
    · have h := sx_pos c21 h
      refine sx_aload_n (pc := 36) dX5_shiftContour_36 sx_m1 ?_
      refine sx_iconst (pc := 37) (v := 5) dX5_shiftContour_37 (by decide) ?_
      obtain ⟨V22, hV22⟩ : ∃ z : sv_V, z = sv_I V16 69 14 (5 : Int32) := ⟨_, rfl⟩
      have h := sx_letE hV22 h
      refine sv_putI (pc := 38) hG dX5_shiftContour_38 f_5_56 lay_69 rfl hV22 ?_
      exact sv_vret (pc := 41) dX5_shiftContour_41 rfl h hP
    · have h := sx_neg c21 h
      refine sx_iload (pc := 24) dX5_shiftContour_24 sx_m0 ?_
      refine sx_aload_n (pc := 26) dX5_shiftContour_26 sx_m1 ?_
      obtain ⟨b23, g24, h⟩ := sx_bnd h
      refine sv_getV (pc := 27) hG dX5_shiftContour_27 f_5_38 lay_69 rfl rfl g24 ?_
      obtain ⟨g25, h⟩ := sx_grd h
      refine sv_getI (pc := 30) hG dX5_shiftContour_30 f_5_480 g25 rfl ?_
      refine sx_icmp_lt (pc := 33) (tgt := 42) dX5_shiftContour_33 (by decide) (fun c26 => ?_) (fun c26 => ?_)
      · have h := sx_pos c26 h
        refine sx_aload_n (pc := 42) dX5_shiftContour_42 sx_m1 ?_
        obtain ⟨b27, g28, h⟩ := sx_bnd h
        refine sv_getV (pc := 43) hG dX5_shiftContour_43 f_5_38 lay_69 rfl rfl g28 ?_
        refine sx_iload (pc := 46) dX5_shiftContour_46 sx_m0 ?_
        obtain ⟨⟨x31, V29⟩, g30, h⟩ := sx_bnd h
        obtain ⟨g32, h⟩ := sx_grd h
        refine sv_cV (pc := 48) (y := qX8_firstOf) (o := (some (.int x31))) (as := [.int x18]) (V1 := V29) hG dX5_shiftContour_48 l_X5_483 y0X8_firstOf yvX8_firstOf rfl (Nat.le_of_ble_eq_true rfl) g32 kr_8 (by decide) (Nat.le_of_ble_eq_true rfl) rfl rfl rfl (t_X8_firstOf hG ⟨rfl, rfl⟩ g30) ?_
        refine sx_istore (pc := 51) (lo' := [(5, .int x31), (4, .int x18), (0, .ref 69), (1, .long l1), (3, .int l3)]) dX5_shiftContour_51 (by decide) rfl ?_
        refine sx_wk (sx_s1 sx_m2 (sx_s1 sx_m3 (sx_s1 sx_m4 (sx_s1 sx_m1 (sx_s1 sx_m0 sx_s0))))) ?_
        exact tL_X5_shiftContour_53 hG hP  N _ _ _ _ _ h
      · have h := sx_neg c26 h
        refine sx_aload_n (pc := 36) dX5_shiftContour_36 sx_m1 ?_
        refine sx_iconst (pc := 37) (v := 5) dX5_shiftContour_37 (by decide) ?_
        obtain ⟨V33, hV33⟩ : ∃ z : sv_V, z = sv_I V16 69 14 (5 : Int32) := ⟨_, rfl⟩
        have h := sx_letE hV33 h
        refine sv_putI (pc := 38) hG dX5_shiftContour_38 f_5_56 lay_69 rfl hV33 ?_
        exact sv_vret (pc := 41) dX5_shiftContour_41 rfl h hP
theorem dX5_shiftZone_0 : decode cX5_shiftZone 0 = .ok (.aload_n 0, 1) := by decide +kernel
theorem dX5_shiftZone_1 : decode cX5_shiftZone 1 = .ok (.invokevirtual 242, 3) := by decide +kernel
theorem dX5_shiftZone_4 : decode cX5_shiftZone 4 = .ok (.istore 5, 2) := by decide +kernel
theorem dX5_shiftZone_6 : decode cX5_shiftZone 6 = .ok (.aload_n 0, 1) := by decide +kernel
theorem dX5_shiftZone_7 : decode cX5_shiftZone 7 = .ok (.iload 5, 2) := by decide +kernel
theorem dX5_shiftZone_9 : decode cX5_shiftZone 9 = .ok (.invokevirtual 298, 3) := by decide +kernel
theorem dX5_shiftZone_12 : decode cX5_shiftZone 12 = .ok (.ifCond .ne 9, 3) := by decide +kernel
theorem dX5_shiftZone_15 : decode cX5_shiftZone 15 = .ok (.aload_n 0, 1) := by decide +kernel
theorem dX5_shiftZone_16 : decode cX5_shiftZone 16 = .ok (.iconst 5, 1) := by decide +kernel
theorem dX5_shiftZone_17 : decode cX5_shiftZone 17 = .ok (.putfield 56, 3) := by decide +kernel
theorem dX5_shiftZone_20 : decode cX5_shiftZone 20 = .ok (.return_, 1) := by decide +kernel
theorem dX5_shiftZone_21 : decode cX5_shiftZone 21 = .ok (.iload 5, 2) := by decide +kernel
theorem dX5_shiftZone_23 : decode cX5_shiftZone 23 = .ok (.ifCond .ne 13, 3) := by decide +kernel
theorem dX5_shiftZone_26 : decode cX5_shiftZone 26 = .ok (.aload_n 0, 1) := by decide +kernel
theorem dX5_shiftZone_27 : decode cX5_shiftZone 27 = .ok (.getfield 49, 3) := by decide +kernel
theorem dX5_shiftZone_30 : decode cX5_shiftZone 30 = .ok (.getfield 175, 3) := by decide +kernel
theorem dX5_shiftZone_33 : decode cX5_shiftZone 33 = .ok (.goto 7, 3) := by decide +kernel
theorem dX5_shiftZone_36 : decode cX5_shiftZone 36 = .ok (.aload_n 0, 1) := by decide +kernel
theorem dX5_shiftZone_37 : decode cX5_shiftZone 37 = .ok (.getfield 38, 3) := by decide +kernel
theorem dX5_shiftZone_40 : decode cX5_shiftZone 40 = .ok (.astore 6, 2) := by decide +kernel
theorem dX5_shiftZone_42 : decode cX5_shiftZone 42 = .ok (.iconst 0, 1) := by decide +kernel
theorem dX5_shiftZone_43 : decode cX5_shiftZone 43 = .ok (.istore 7, 2) := by decide +kernel
theorem dX5_shiftZone_45 : decode cX5_shiftZone 45 = .ok (.iload 7, 2) := by decide +kernel
theorem dX5_shiftZone_47 : decode cX5_shiftZone 47 = .ok (.aload 6, 2) := by decide +kernel
theorem dX5_shiftZone_49 : decode cX5_shiftZone 49 = .ok (.getfield 474, 3) := by decide +kernel
theorem dX5_shiftZone_52 : decode cX5_shiftZone 52 = .ok (.if_icmp .ge 51, 3) := by decide +kernel
theorem dX5_shiftZone_55 : decode cX5_shiftZone 55 = .ok (.aload 6, 2) := by decide +kernel
theorem dX5_shiftZone_57 : decode cX5_shiftZone 57 = .ok (.aload_n 3, 1) := by decide +kernel
theorem dX5_shiftZone_58 : decode cX5_shiftZone 58 = .ok (.if_acmp .ne 10, 3) := by decide +kernel
theorem dX5_shiftZone_61 : decode cX5_shiftZone 61 = .ok (.iload 7, 2) := by decide +kernel
theorem dX5_shiftZone_63 : decode cX5_shiftZone 63 = .ok (.iload 4, 2) := by decide +kernel
theorem dX5_shiftZone_65 : decode cX5_shiftZone 65 = .ok (.if_icmp .eq 32, 3) := by decide +kernel
theorem dX5_shiftZone_68 : decode cX5_shiftZone 68 = .ok (.aload 6, 2) := by decide +kernel
theorem dX5_shiftZone_70 : decode cX5_shiftZone 70 = .ok (.getfield 220, 3) := by decide +kernel
theorem dX5_shiftZone_73 : decode cX5_shiftZone 73 = .ok (.iload 7, 2) := by decide +kernel
theorem dX5_shiftZone_75 : decode cX5_shiftZone 75 = .ok (.iaload, 1) := by decide +kernel
theorem dX5_shiftZone_76 : decode cX5_shiftZone 76 = .ok (.istore 8, 2) := by decide +kernel
theorem dX5_shiftZone_78 : decode cX5_shiftZone 78 = .ok (.aload_n 0, 1) := by decide +kernel
theorem dX5_shiftZone_79 : decode cX5_shiftZone 79 = .ok (.aload 6, 2) := by decide +kernel
theorem dX5_shiftZone_81 : decode cX5_shiftZone 81 = .ok (.iload 7, 2) := by decide +kernel
theorem dX5_shiftZone_83 : decode cX5_shiftZone 83 = .ok (.lload_n 1, 1) := by decide +kernel
theorem dX5_shiftZone_84 : decode cX5_shiftZone 84 = .ok (.invokevirtual 461, 3) := by decide +kernel
theorem dX5_shiftZone_87 : decode cX5_shiftZone 87 = .ok (.aload 6, 2) := by decide +kernel
theorem dX5_shiftZone_89 : decode cX5_shiftZone 89 = .ok (.getfield 220, 3) := by decide +kernel
theorem dX5_shiftZone_92 : decode cX5_shiftZone 92 = .ok (.iload 7, 2) := by decide +kernel
theorem dX5_shiftZone_94 : decode cX5_shiftZone 94 = .ok (.iload 8, 2) := by decide +kernel
theorem dX5_shiftZone_96 : decode cX5_shiftZone 96 = .ok (.iastore, 1) := by decide +kernel
theorem dX5_shiftZone_97 : decode cX5_shiftZone 97 = .ok (.iinc 7 1, 3) := by decide +kernel
theorem dX5_shiftZone_100 : decode cX5_shiftZone 100 = .ok (.goto (-55), 3) := by decide +kernel
theorem dX5_shiftZone_103 : decode cX5_shiftZone 103 = .ok (.return_, 1) := by decide +kernel
def B_X5_shiftZone_97 (N : Nat) (k45 : Int64 → Nat → Int32 → Nat → Int32 → sv_V → Option sv_V) (l1 : Int64) (l3 : Nat) (l4 : Int32) (l6 : Nat) (l7 : Int32) (V : sv_V) : Option sv_V := sx_let (l7 + 1) (fun x1 => k45 l1 l3 l4 l6 x1 V)
set_option maxRecDepth 20000 in
theorem tB_X5_shiftZone_97 {g : sx_G} (hG : sx_Go g) {P : Option Value → sv_V → Prop} {Vr : sv_V} (hP : P none Vr) {N : Nat} {k45 : Int64 → Nat → Int32 → Nat → Int32 → sv_V → Option sv_V} (hk45 : ∀ (l1 : Int64) (l3 : Nat) (l4 : Int32) (l6 : Nat) (l7 : Int32) (V : sv_V), k45 l1 l3 l4 l6 l7 V = some Vr → sv_N g qX5_shiftZone 2 45 [(0, .ref 69), (1, .long l1), (3, .ref l3), (4, .int l4), (6, .ref l6), (7, .int l7)] [] V P) {l1 : Int64} {l3 : Nat} {l4 : Int32} {l6 : Nat} {l7 : Int32} {V : sv_V} (h : B_X5_shiftZone_97 N k45 l1 l3 l4 l6 l7 V = some Vr) : sv_N g qX5_shiftZone 2 97 [(0, .ref 69), (1, .long l1), (3, .ref l3), (4, .int l4), (6, .ref l6), (7, .int l7)] [] V P := by
  unfold B_X5_shiftZone_97 at h
  obtain ⟨x1, hx1⟩ : ∃ z : Int32, z = l7 + 1 := ⟨_, rfl⟩
  have h := sx_letE hx1 h
  refine sx_iinc (pc := 97) (v := x1) (lo' := [(7, .int x1), (0, .ref 69), (1, .long l1), (3, .ref l3), (4, .int l4), (6, .ref l6)]) dX5_shiftZone_97 sx_m5 (by rw [hx1]; rfl) (by decide) rfl ?_
  refine sx_goto (pc := 100) (tgt := 45) dX5_shiftZone_100 (by decide) ?_
  refine sx_wk (sx_s1 sx_m1 (sx_s1 sx_m2 (sx_s1 sx_m3 (sx_s1 sx_m4 (sx_s1 sx_m5 (sx_s1 sx_m0 sx_s0)))))) ?_
  exact hk45 _ _ _ _ _ _ h
def B_X5_shiftZone_68 (N : Nat) (k45 : Int64 → Nat → Int32 → Nat → Int32 → sv_V → Option sv_V) (l1 : Int64) (l3 : Nat) (l4 : Int32) (l6 : Nat) (l7 : Int32) (V : sv_V) : Option sv_V := if lay l6 = .inl 8 then (cr l6 4).bind (fun b3 => (sv_len 0 b3).bind (fun n5 => if sx_in l7 n5 = true then sx_let (V.1 b3 l7.toNatClampNeg) (fun x8 => (F_X5_move l6 l7 l1 V).bind (fun V9 => if sx_in l7 n5 = true then sx_let (sv_I V9 b3 l7.toNatClampNeg x8) (fun V12 => B_X5_shiftZone_97 N k45 l1 l3 l4 l6 l7 V12) else none)) else none)) else none
set_option maxRecDepth 20000 in
theorem tB_X5_shiftZone_68 {g : sx_G} (hG : sx_Go g) {P : Option Value → sv_V → Prop} {Vr : sv_V} (hP : P none Vr) {N : Nat} {k45 : Int64 → Nat → Int32 → Nat → Int32 → sv_V → Option sv_V} (hk45 : ∀ (l1 : Int64) (l3 : Nat) (l4 : Int32) (l6 : Nat) (l7 : Int32) (V : sv_V), k45 l1 l3 l4 l6 l7 V = some Vr → sv_N g qX5_shiftZone 2 45 [(0, .ref 69), (1, .long l1), (3, .ref l3), (4, .int l4), (6, .ref l6), (7, .int l7)] [] V P) {l1 : Int64} {l3 : Nat} {l4 : Int32} {l6 : Nat} {l7 : Int32} {V : sv_V} (h : B_X5_shiftZone_68 N k45 l1 l3 l4 l6 l7 V = some Vr) : sv_N g qX5_shiftZone 2 68 [(0, .ref 69), (1, .long l1), (3, .ref l3), (4, .int l4), (6, .ref l6), (7, .int l7)] [] V P := by
  unfold B_X5_shiftZone_68 at h
  refine sx_aload (pc := 68) dX5_shiftZone_68 sx_m4 ?_
  obtain ⟨g2, h⟩ := sx_grd h
  obtain ⟨b3, g4, h⟩ := sx_bnd h
  refine sv_getA (pc := 70) hG dX5_shiftZone_70 f_5_220 g2 rfl g4 ?_
  refine sx_iload (pc := 73) dX5_shiftZone_73 sx_m5 ?_
  obtain ⟨n5, g6, h⟩ := sx_bnd h
  obtain ⟨g7, h⟩ := sx_grd h
  refine sv_iald (pc := 75) hG dX5_shiftZone_75 (sv_len_e g6) g7 ?_
  refine sv_tI (fun x8 hx8 => ?_)
  have h := sx_letE hx8 h
  refine sx_istore (pc := 76) (lo' := [(8, .int x8), (0, .ref 69), (1, .long l1), (3, .ref l3), (4, .int l4), (6, .ref l6), (7, .int l7)]) dX5_shiftZone_76 (by decide) rfl ?_
  refine sx_aload_n (pc := 78) dX5_shiftZone_78 sx_m1 ?_
  refine sx_aload (pc := 79) dX5_shiftZone_79 sx_m5 ?_
  refine sx_iload (pc := 81) dX5_shiftZone_81 sx_m6 ?_
  refine sx_lload_n (pc := 83) dX5_shiftZone_83 sx_m2 ?_
  obtain ⟨V9, g10, h⟩ := sx_bnd h
  refine sv_cV (pc := 84) (y := qX5_move) (o := none) (as := [.ref l6, .int l7, .long l1]) (V1 := V9) hG dX5_shiftZone_84 l_X5_461 y0X5_move yvX5_move rfl (Nat.le_of_ble_eq_true rfl) lay_69 kr_5 (by decide) (Nat.le_of_ble_eq_true rfl) rfl rfl rfl (t_X5_move hG ⟨rfl, rfl⟩ g10) ?_
  refine sx_aload (pc := 87) dX5_shiftZone_87 sx_m5 ?_
  refine sv_getA (pc := 89) hG dX5_shiftZone_89 f_5_220 g2 rfl g4 ?_
  refine sx_iload (pc := 92) dX5_shiftZone_92 sx_m6 ?_
  refine sx_iload (pc := 94) dX5_shiftZone_94 sx_m0 ?_
  obtain ⟨g11, h⟩ := sx_grd h
  obtain ⟨V12, hV12⟩ : ∃ z : sv_V, z = sv_I V9 b3 l7.toNatClampNeg x8 := ⟨_, rfl⟩
  have h := sx_letE hV12 h
  refine sv_iast (pc := 96) hG dX5_shiftZone_96 (sv_len_e g6) g11 hV12 ?_
  refine sx_wk (sx_s1 sx_m1 (sx_s1 sx_m2 (sx_s1 sx_m3 (sx_s1 sx_m4 (sx_s1 sx_m5 (sx_s1 sx_m6 sx_s0)))))) ?_
  exact tB_X5_shiftZone_97 hG hP hk45 h
def B_X5_shiftZone_45 (N : Nat) (k45 : Int64 → Nat → Int32 → Nat → Int32 → sv_V → Option sv_V) (l1 : Int64) (l3 : Nat) (l4 : Int32) (l6 : Nat) (l7 : Int32) (V : sv_V) : Option sv_V := if lay l6 = .inl 8 then if (V.1 l6 9) ≤ l7 then (some V) else (if lay l3 = .inl 8 then if l6 = l3 then (if l7 = l4 then (B_X5_shiftZone_97 N k45 l1 l3 l4 l6 l7 V) else (B_X5_shiftZone_68 N k45 l1 l3 l4 l6 l7 V)) else (B_X5_shiftZone_68 N k45 l1 l3 l4 l6 l7 V) else none) else none
set_option maxRecDepth 20000 in
theorem tB_X5_shiftZone_45 {g : sx_G} (hG : sx_Go g) {P : Option Value → sv_V → Prop} {Vr : sv_V} (hP : P none Vr) {N : Nat} {k45 : Int64 → Nat → Int32 → Nat → Int32 → sv_V → Option sv_V} (hk45 : ∀ (l1 : Int64) (l3 : Nat) (l4 : Int32) (l6 : Nat) (l7 : Int32) (V : sv_V), k45 l1 l3 l4 l6 l7 V = some Vr → sv_N g qX5_shiftZone 2 45 [(0, .ref 69), (1, .long l1), (3, .ref l3), (4, .int l4), (6, .ref l6), (7, .int l7)] [] V P) {l1 : Int64} {l3 : Nat} {l4 : Int32} {l6 : Nat} {l7 : Int32} {V : sv_V} (h : B_X5_shiftZone_45 N k45 l1 l3 l4 l6 l7 V = some Vr) : sv_N g qX5_shiftZone 2 45 [(0, .ref 69), (1, .long l1), (3, .ref l3), (4, .int l4), (6, .ref l6), (7, .int l7)] [] V P := by
  unfold B_X5_shiftZone_45 at h
  refine sx_iload (pc := 45) dX5_shiftZone_45 sx_m5 ?_
  refine sx_aload (pc := 47) dX5_shiftZone_47 sx_m4 ?_
  obtain ⟨g13, h⟩ := sx_grd h
  refine sv_getI (pc := 49) hG dX5_shiftZone_49 f_5_474 g13 rfl ?_
  refine sx_icmp_ge (pc := 52) (tgt := 103) dX5_shiftZone_52 (by decide) (fun c14 => ?_) (fun c14 => ?_)
  · have h := sx_pos c14 h
    exact sv_vret (pc := 103) dX5_shiftZone_103 rfl h hP
  · have h := sx_neg c14 h
    refine sx_aload (pc := 55) dX5_shiftZone_55 sx_m4 ?_
    refine sx_aload_n (pc := 57) dX5_shiftZone_57 sx_m2 ?_
    obtain ⟨g15, h⟩ := sx_grd h
    refine sv_acmp (pc := 58) (tgt := 68) dX5_shiftZone_58 (by decide) g13 g15 (fun c16 => ?_) (fun c16 => ?_)
    · have h := sx_neg c16 h
      refine sx_wk (sx_s1 sx_m0 (sx_s1 sx_m1 (sx_s1 sx_m2 (sx_s1 sx_m3 (sx_s1 sx_m4 (sx_s1 sx_m5 sx_s0)))))) ?_
      exact tB_X5_shiftZone_68 hG hP hk45 h
    · have h := sx_pos c16 h
      refine sx_iload (pc := 61) dX5_shiftZone_61 sx_m5 ?_
      refine sx_iload (pc := 63) dX5_shiftZone_63 sx_m3 ?_
      refine sx_icmp_eq (pc := 65) (tgt := 97) dX5_shiftZone_65 (by decide) (fun c17 => ?_) (fun c17 => ?_)
      · have h := sx_pos c17 h
        refine sx_wk (sx_s1 sx_m0 (sx_s1 sx_m1 (sx_s1 sx_m2 (sx_s1 sx_m3 (sx_s1 sx_m4 (sx_s1 sx_m5 sx_s0)))))) ?_
        exact tB_X5_shiftZone_97 hG hP hk45 h
      · have h := sx_neg c17 h
        refine sx_wk (sx_s1 sx_m0 (sx_s1 sx_m1 (sx_s1 sx_m2 (sx_s1 sx_m3 (sx_s1 sx_m4 (sx_s1 sx_m5 sx_s0)))))) ?_
        exact tB_X5_shiftZone_68 hG hP hk45 h
theorem tL_X5_shiftZone_45 {g : sx_G} (hG : sx_Go g) {P : Option Value → sv_V → Prop} {Vr : sv_V} (hP : P none Vr) {N : Nat}   : ∀ (n : Nat) (l1 : Int64) (l3 : Nat) (l4 : Int32) (l6 : Nat) (l7 : Int32) (V : sv_V), sx_lp6 (B_X5_shiftZone_45 N ) n l1 l3 l4 l6 l7 V = some Vr → sv_N g qX5_shiftZone 2 45 [(0, .ref 69), (1, .long l1), (3, .ref l3), (4, .int l4), (6, .ref l6), (7, .int l7)] [] V P :=
  sx_lp6_ind (fun k0 ih _ _ _ _ _ V h => tB_X5_shiftZone_45 hG hP ih h)
def B_X5_shiftZone_40 (N : Nat)  (l1 : Int64) (l3 : Nat) (l4 : Int32) (s0 : Nat) (V : sv_V) : Option sv_V := sx_lp6 (B_X5_shiftZone_45 N ) N l1 l3 l4 s0 (0 : Int32) V
set_option maxRecDepth 20000 in
theorem tB_X5_shiftZone_40 {g : sx_G} (hG : sx_Go g) {P : Option Value → sv_V → Prop} {Vr : sv_V} (hP : P none Vr) {N : Nat}   {l1 : Int64} {l3 : Nat} {l4 : Int32} {s0 : Nat} {V : sv_V} (h : B_X5_shiftZone_40 N  l1 l3 l4 s0 V = some Vr) : sv_N g qX5_shiftZone 2 40 [(0, .ref 69), (1, .long l1), (3, .ref l3), (4, .int l4)] [.ref s0] V P := by
  unfold B_X5_shiftZone_40 at h
  refine sx_astore (pc := 40) (lo' := [(6, .ref s0), (0, .ref 69), (1, .long l1), (3, .ref l3), (4, .int l4)]) dX5_shiftZone_40 (by decide) rfl ?_
  refine sx_iconst (pc := 42) (v := 0) dX5_shiftZone_42 (by decide) ?_
  refine sx_istore (pc := 43) (lo' := [(7, .int (0 : Int32)), (6, .ref s0), (0, .ref 69), (1, .long l1), (3, .ref l3), (4, .int l4)]) dX5_shiftZone_43 (by decide) rfl ?_
  refine sx_wk (sx_s1 sx_m2 (sx_s1 sx_m3 (sx_s1 sx_m4 (sx_s1 sx_m5 (sx_s1 sx_m1 (sx_s1 sx_m0 sx_s0)))))) ?_
  exact tL_X5_shiftZone_45 hG hP  N _ _ _ _ _ _ h
def F_X5_shiftZone (N : Nat) (l1 : Int64) (l3 : Nat) (l4 : Int32) (V : sv_V) : Option sv_V := (F_X5_pop  V).bind (fun (x20, V18) => (F_X5_isZone x20 V18).bind (fun (x23, V21) => if x23 = 0 then (sx_let (sv_I V21 69 14 (5 : Int32)) (fun V33 => some V33)) else (if x20 = 0 then ((V21.2.2 69 6).bind (fun b28 => if lay b28 = .inl 7 then (cr b28 4).bind (fun b31 => B_X5_shiftZone_40 N  l1 l3 l4 b31 V21) else none)) else ((V21.2.2 69 7).bind (fun b26 => B_X5_shiftZone_40 N  l1 l3 l4 b26 V21)))))
set_option maxRecDepth 20000 in
theorem t_X5_shiftZone {g : sx_G} (hG : sx_Go g) {P : Option Value → sv_V → Prop} {Vr : sv_V} (hP : P none Vr) {N : Nat} {l1 : Int64} {l3 : Nat} {l4 : Int32} {V : sv_V} (h : F_X5_shiftZone N l1 l3 l4 V = some Vr) : sv_N g qX5_shiftZone 2 0 [(0, .ref 69), (1, .long l1), (3, .ref l3), (4, .int l4)] [] V P := by
  unfold F_X5_shiftZone at h
  refine sx_aload_n (pc := 0) dX5_shiftZone_0 sx_m0 ?_
  obtain ⟨⟨x20, V18⟩, g19, h⟩ := sx_bnd h
  refine sv_cV (pc := 1) (y := qX5_pop) (o := (some (.int x20))) (as := []) (V1 := V18) hG dX5_shiftZone_1 l_X5_242 y0X5_pop yvX5_pop rfl (Nat.le_of_ble_eq_true rfl) lay_69 kr_5 (by decide) (Nat.le_of_ble_eq_true rfl) rfl rfl rfl (t_X5_pop hG ⟨rfl, rfl⟩ g19) ?_
  refine sx_istore (pc := 4) (lo' := [(5, .int x20), (0, .ref 69), (1, .long l1), (3, .ref l3), (4, .int l4)]) dX5_shiftZone_4 (by decide) rfl ?_
  refine sx_aload_n (pc := 6) dX5_shiftZone_6 sx_m1 ?_
  refine sx_iload (pc := 7) dX5_shiftZone_7 sx_m0 ?_
  obtain ⟨⟨x23, V21⟩, g22, h⟩ := sx_bnd h
  refine sv_cV (pc := 9) (y := qX5_isZone) (o := (some (.int x23))) (as := [.int x20]) (V1 := V21) hG dX5_shiftZone_9 l_X5_298 y0X5_isZone yvX5_isZone rfl (Nat.le_of_ble_eq_true rfl) lay_69 kr_5 (by decide) (Nat.le_of_ble_eq_true rfl) rfl rfl rfl (t_X5_isZone hG ⟨rfl, rfl⟩ g22) ?_
  refine sx_if_ne (pc := 12) (tgt := 21) dX5_shiftZone_12 (by decide) (fun c24 => ?_) (fun c24 => ?_)
  · have h := sx_neg c24 h
    refine sx_iload (pc := 21) dX5_shiftZone_21 sx_m0 ?_
    refine sx_if_ne (pc := 23) (tgt := 36) dX5_shiftZone_23 (by decide) (fun c25 => ?_) (fun c25 => ?_)
    · have h := sx_neg c25 h
      refine sx_aload_n (pc := 36) dX5_shiftZone_36 sx_m1 ?_
      obtain ⟨b26, g27, h⟩ := sx_bnd h
      refine sv_getV (pc := 37) hG dX5_shiftZone_37 f_5_38 lay_69 rfl rfl g27 ?_
      refine sx_wk (sx_s1 sx_m1 (sx_s1 sx_m2 (sx_s1 sx_m3 (sx_s1 sx_m4 sx_s0)))) ?_
      exact tB_X5_shiftZone_40 hG hP  h
    · have h := sx_pos c25 h
      refine sx_aload_n (pc := 26) dX5_shiftZone_26 sx_m1 ?_
      obtain ⟨b28, g29, h⟩ := sx_bnd h
      refine sv_getV (pc := 27) hG dX5_shiftZone_27 f_5_49 lay_69 rfl rfl g29 ?_
      obtain ⟨g30, h⟩ := sx_grd h
      obtain ⟨b31, g32, h⟩ := sx_bnd h
      refine sv_getO (pc := 30) hG dX5_shiftZone_30 f_5_175 g30 rfl g32 ?_
      refine sx_goto (pc := 33) (tgt := 40) dX5_shiftZone_33 (by decide) ?_
      refine sx_wk (sx_s1 sx_m1 (sx_s1 sx_m2 (sx_s1 sx_m3 (sx_s1 sx_m4 sx_s0)))) ?_
      exact tB_X5_shiftZone_40 hG hP  h
  · have h := sx_pos c24 h
    refine sx_aload_n (pc := 15) dX5_shiftZone_15 sx_m1 ?_
    refine sx_iconst (pc := 16) (v := 5) dX5_shiftZone_16 (by decide) ?_
    obtain ⟨V33, hV33⟩ : ∃ z : sv_V, z = sv_I V21 69 14 (5 : Int32) := ⟨_, rfl⟩
    have h := sx_letE hV33 h
    refine sv_putI (pc := 17) hG dX5_shiftZone_17 f_5_56 lay_69 rfl hV33 ?_
    exact sv_vret (pc := 20) dX5_shiftZone_20 rfl h hP
theorem dX5_shiftByPixels_0 : decode cX5_shiftByPixels 0 = .ok (.aload_n 0, 1) := by decide +kernel
theorem dX5_shiftByPixels_1 : decode cX5_shiftByPixels 1 = .ok (.invokevirtual 242, 3) := by decide +kernel
theorem dX5_shiftByPixels_4 : decode cX5_shiftByPixels 4 = .ok (.i2l, 1) := by decide +kernel
theorem dX5_shiftByPixels_5 : decode cX5_shiftByPixels 5 = .ok (.lstore_n 1, 1) := by decide +kernel
theorem dX5_shiftByPixels_6 : decode cX5_shiftByPixels 6 = .ok (.aload_n 0, 1) := by decide +kernel
theorem dX5_shiftByPixels_7 : decode cX5_shiftByPixels 7 = .ok (.iconst 2, 1) := by decide +kernel
theorem dX5_shiftByPixels_8 : decode cX5_shiftByPixels 8 = .ok (.invokevirtual 255, 3) := by decide +kernel
theorem dX5_shiftByPixels_11 : decode cX5_shiftByPixels 11 = .ok (.astore_n 3, 1) := by decide +kernel
theorem dX5_shiftByPixels_12 : decode cX5_shiftByPixels 12 = .ok (.iconst 0, 1) := by decide +kernel
theorem dX5_shiftByPixels_13 : decode cX5_shiftByPixels 13 = .ok (.istore 4, 2) := by decide +kernel
theorem dX5_shiftByPixels_15 : decode cX5_shiftByPixels 15 = .ok (.iload 4, 2) := by decide +kernel
theorem dX5_shiftByPixels_17 : decode cX5_shiftByPixels 17 = .ok (.aload_n 0, 1) := by decide +kernel
theorem dX5_shiftByPixels_18 : decode cX5_shiftByPixels 18 = .ok (.getfield 12, 3) := by decide +kernel
theorem dX5_shiftByPixels_21 : decode cX5_shiftByPixels 21 = .ok (.getfield 163, 3) := by decide +kernel
theorem dX5_shiftByPixels_24 : decode cX5_shiftByPixels 24 = .ok (.if_icmp .ge 94, 3) := by decide +kernel
theorem dX5_shiftByPixels_27 : decode cX5_shiftByPixels 27 = .ok (.aload_n 0, 1) := by decide +kernel
theorem dX5_shiftByPixels_28 : decode cX5_shiftByPixels 28 = .ok (.invokevirtual 242, 3) := by decide +kernel
theorem dX5_shiftByPixels_31 : decode cX5_shiftByPixels 31 = .ok (.istore 5, 2) := by decide +kernel
theorem dX5_shiftByPixels_33 : decode cX5_shiftByPixels 33 = .ok (.aload_n 0, 1) := by decide +kernel
theorem dX5_shiftByPixels_34 : decode cX5_shiftByPixels 34 = .ok (.aload_n 3, 1) := by decide +kernel
theorem dX5_shiftByPixels_35 : decode cX5_shiftByPixels 35 = .ok (.iload 5, 2) := by decide +kernel
theorem dX5_shiftByPixels_37 : decode cX5_shiftByPixels 37 = .ok (.invokevirtual 259, 3) := by decide +kernel
theorem dX5_shiftByPixels_40 : decode cX5_shiftByPixels 40 = .ok (.ifCond .ne 4, 3) := by decide +kernel
theorem dX5_shiftByPixels_43 : decode cX5_shiftByPixels 43 = .ok (.return_, 1) := by decide +kernel
theorem dX5_shiftByPixels_44 : decode cX5_shiftByPixels 44 = .ok (.aload_n 3, 1) := by decide +kernel
theorem dX5_shiftByPixels_45 : decode cX5_shiftByPixels 45 = .ok (.getfield 198, 3) := by decide +kernel
theorem dX5_shiftByPixels_48 : decode cX5_shiftByPixels 48 = .ok (.iload 5, 2) := by decide +kernel
theorem dX5_shiftByPixels_50 : decode cX5_shiftByPixels 50 = .ok (.dup2, 1) := by decide +kernel
theorem dX5_shiftByPixels_51 : decode cX5_shiftByPixels 51 = .ok (.iaload, 1) := by decide +kernel
theorem dX5_shiftByPixels_52 : decode cX5_shiftByPixels 52 = .ok (.lload_n 1, 1) := by decide +kernel
theorem dX5_shiftByPixels_53 : decode cX5_shiftByPixels 53 = .ok (.aload_n 0, 1) := by decide +kernel
theorem dX5_shiftByPixels_54 : decode cX5_shiftByPixels 54 = .ok (.getfield 12, 3) := by decide +kernel
theorem dX5_shiftByPixels_57 : decode cX5_shiftByPixels 57 = .ok (.getfield 210, 3) := by decide +kernel
theorem dX5_shiftByPixels_60 : decode cX5_shiftByPixels 60 = .ok (.i2l, 1) := by decide +kernel
theorem dX5_shiftByPixels_61 : decode cX5_shiftByPixels 61 = .ok (.lmul, 1) := by decide +kernel
theorem dX5_shiftByPixels_62 : decode cX5_shiftByPixels 62 = .ok (.ldc2_w 190, 3) := by decide +kernel
theorem dX5_shiftByPixels_65 : decode cX5_shiftByPixels 65 = .ok (.invokestatic 75, 3) := by decide +kernel
theorem dX5_shiftByPixels_68 : decode cX5_shiftByPixels 68 = .ok (.l2i, 1) := by decide +kernel
theorem dX5_shiftByPixels_69 : decode cX5_shiftByPixels 69 = .ok (.iadd, 1) := by decide +kernel
theorem dX5_shiftByPixels_70 : decode cX5_shiftByPixels 70 = .ok (.iastore, 1) := by decide +kernel
theorem dX5_shiftByPixels_71 : decode cX5_shiftByPixels 71 = .ok (.aload_n 3, 1) := by decide +kernel
theorem dX5_shiftByPixels_72 : decode cX5_shiftByPixels 72 = .ok (.getfield 201, 3) := by decide +kernel
theorem dX5_shiftByPixels_75 : decode cX5_shiftByPixels 75 = .ok (.iload 5, 2) := by decide +kernel
theorem dX5_shiftByPixels_77 : decode cX5_shiftByPixels 77 = .ok (.dup2, 1) := by decide +kernel
theorem dX5_shiftByPixels_78 : decode cX5_shiftByPixels 78 = .ok (.iaload, 1) := by decide +kernel
theorem dX5_shiftByPixels_79 : decode cX5_shiftByPixels 79 = .ok (.lload_n 1, 1) := by decide +kernel
theorem dX5_shiftByPixels_80 : decode cX5_shiftByPixels 80 = .ok (.aload_n 0, 1) := by decide +kernel
theorem dX5_shiftByPixels_81 : decode cX5_shiftByPixels 81 = .ok (.getfield 12, 3) := by decide +kernel
theorem dX5_shiftByPixels_84 : decode cX5_shiftByPixels 84 = .ok (.getfield 213, 3) := by decide +kernel
theorem dX5_shiftByPixels_87 : decode cX5_shiftByPixels 87 = .ok (.i2l, 1) := by decide +kernel
theorem dX5_shiftByPixels_88 : decode cX5_shiftByPixels 88 = .ok (.lmul, 1) := by decide +kernel
theorem dX5_shiftByPixels_89 : decode cX5_shiftByPixels 89 = .ok (.ldc2_w 190, 3) := by decide +kernel
theorem dX5_shiftByPixels_92 : decode cX5_shiftByPixels 92 = .ok (.invokestatic 75, 3) := by decide +kernel
theorem dX5_shiftByPixels_95 : decode cX5_shiftByPixels 95 = .ok (.l2i, 1) := by decide +kernel
theorem dX5_shiftByPixels_96 : decode cX5_shiftByPixels 96 = .ok (.iadd, 1) := by decide +kernel
theorem dX5_shiftByPixels_97 : decode cX5_shiftByPixels 97 = .ok (.iastore, 1) := by decide +kernel
theorem dX5_shiftByPixels_98 : decode cX5_shiftByPixels 98 = .ok (.aload_n 3, 1) := by decide +kernel
theorem dX5_shiftByPixels_99 : decode cX5_shiftByPixels 99 = .ok (.getfield 220, 3) := by decide +kernel
theorem dX5_shiftByPixels_102 : decode cX5_shiftByPixels 102 = .ok (.iload 5, 2) := by decide +kernel
theorem dX5_shiftByPixels_104 : decode cX5_shiftByPixels 104 = .ok (.dup2, 1) := by decide +kernel
theorem dX5_shiftByPixels_105 : decode cX5_shiftByPixels 105 = .ok (.iaload, 1) := by decide +kernel
theorem dX5_shiftByPixels_106 : decode cX5_shiftByPixels 106 = .ok (.aload_n 0, 1) := by decide +kernel
theorem dX5_shiftByPixels_107 : decode cX5_shiftByPixels 107 = .ok (.invokevirtual 223, 3) := by decide +kernel
theorem dX5_shiftByPixels_110 : decode cX5_shiftByPixels 110 = .ok (.ior, 1) := by decide +kernel
theorem dX5_shiftByPixels_111 : decode cX5_shiftByPixels 111 = .ok (.iastore, 1) := by decide +kernel
theorem dX5_shiftByPixels_112 : decode cX5_shiftByPixels 112 = .ok (.iinc 4 1, 3) := by decide +kernel
theorem dX5_shiftByPixels_115 : decode cX5_shiftByPixels 115 = .ok (.goto (-100), 3) := by decide +kernel
theorem dX5_shiftByPixels_118 : decode cX5_shiftByPixels 118 = .ok (.aload_n 0, 1) := by decide +kernel
theorem dX5_shiftByPixels_119 : decode cX5_shiftByPixels 119 = .ok (.getfield 12, 3) := by decide +kernel
theorem dX5_shiftByPixels_122 : decode cX5_shiftByPixels 122 = .ok (.iconst 1, 1) := by decide +kernel
theorem dX5_shiftByPixels_123 : decode cX5_shiftByPixels 123 = .ok (.putfield 163, 3) := by decide +kernel
theorem dX5_shiftByPixels_126 : decode cX5_shiftByPixels 126 = .ok (.return_, 1) := by decide +kernel
def B_X5_shiftByPixels_15 (N : Nat) (k15 : Int64 → Nat → Int32 → sv_V → Option sv_V) (l1 : Int64) (l3 : Nat) (l4 : Int32) (V : sv_V) : Option sv_V := if (V.1 70 8) ≤ l4 then (sx_let (sv_I V 70 8 (1 : Int32)) (fun V2 => some V2)) else ((F_X5_pop  V).bind (fun (x5, V3) => (F_X5_isThere l3 x5 V3).bind (fun (x8, V6) => if x8 = 0 then (some V6) else (if lay l3 = .inl 8 then (cr l3 0).bind (fun b11 => (sv_len 0 b11).bind (fun n13 => if sx_in x5 n13 = true then (F_X11_nearest (l1 * ((V6.1 70 0).toInt64)) (16384 : Int64) V6).bind (fun (x18, V16) => if sx_in x5 n13 = true then sx_let (sv_I V16 b11 x5.toNatClampNeg ((V6.1 b11 x5.toNatClampNeg) + x18.toInt32)) (fun V20 => (cr l3 1).bind (fun b21 => (sv_len 0 b21).bind (fun n23 => if sx_in x5 n23 = true then (F_X11_nearest (l1 * ((V20.1 70 1).toInt64)) (16384 : Int64) V20).bind (fun (x28, V26) => if sx_in x5 n23 = true then sx_let (sv_I V26 b21 x5.toNatClampNeg ((V20.1 b21 x5.toNatClampNeg) + x28.toInt32)) (fun V30 => (cr l3 4).bind (fun b31 => (sv_len 0 b31).bind (fun n33 => if sx_in x5 n33 = true then (F_X5_touchBits  V30).bind (fun (x38, V36) => if sx_in x5 n33 = true then sx_let (sv_I V36 b31 x5.toNatClampNeg ((V30.1 b31 x5.toNatClampNeg) ||| x38)) (fun V40 => sx_let (l4 + 1) (fun x41 => k15 l1 l3 x41 V40)) else none) else none))) else none) else none))) else none) else none)) else none))))
set_option maxRecDepth 20000 in
theorem tB_X5_shiftByPixels_15 {g : sx_G} (hG : sx_Go g) {P : Option Value → sv_V → Prop} {Vr : sv_V} (hP : P none Vr) {N : Nat} {k15 : Int64 → Nat → Int32 → sv_V → Option sv_V} (hk15 : ∀ (l1 : Int64) (l3 : Nat) (l4 : Int32) (V : sv_V), k15 l1 l3 l4 V = some Vr → sv_N g qX5_shiftByPixels 2 15 [(0, .ref 69), (1, .long l1), (3, .ref l3), (4, .int l4)] [] V P) {l1 : Int64} {l3 : Nat} {l4 : Int32} {V : sv_V} (h : B_X5_shiftByPixels_15 N k15 l1 l3 l4 V = some Vr) : sv_N g qX5_shiftByPixels 2 15 [(0, .ref 69), (1, .long l1), (3, .ref l3), (4, .int l4)] [] V P := by
  unfold B_X5_shiftByPixels_15 at h
  refine sx_iload (pc := 15) dX5_shiftByPixels_15 sx_m3 ?_
  refine sx_aload_n (pc := 17) dX5_shiftByPixels_17 sx_m0 ?_
  refine sv_getO (pc := 18) hG dX5_shiftByPixels_18 f_5_12 lay_69 rfl cr_69_1 ?_
  refine sv_getI (pc := 21) hG dX5_shiftByPixels_21 f_5_163 lay_70 rfl ?_
  refine sx_icmp_ge (pc := 24) (tgt := 118) dX5_shiftByPixels_24 (by decide) (fun c1 => ?_) (fun c1 => ?_)
  · have h := sx_pos c1 h
    refine sx_aload_n (pc := 118) dX5_shiftByPixels_118 sx_m0 ?_
    refine sv_getO (pc := 119) hG dX5_shiftByPixels_119 f_5_12 lay_69 rfl cr_69_1 ?_
    refine sx_iconst (pc := 122) (v := 1) dX5_shiftByPixels_122 (by decide) ?_
    obtain ⟨V2, hV2⟩ : ∃ z : sv_V, z = sv_I V 70 8 (1 : Int32) := ⟨_, rfl⟩
    have h := sx_letE hV2 h
    refine sv_putI (pc := 123) hG dX5_shiftByPixels_123 f_5_163 lay_70 rfl hV2 ?_
    exact sv_vret (pc := 126) dX5_shiftByPixels_126 rfl h hP
  · have h := sx_neg c1 h
    refine sx_aload_n (pc := 27) dX5_shiftByPixels_27 sx_m0 ?_
    obtain ⟨⟨x5, V3⟩, g4, h⟩ := sx_bnd h
    refine sv_cV (pc := 28) (y := qX5_pop) (o := (some (.int x5))) (as := []) (V1 := V3) hG dX5_shiftByPixels_28 l_X5_242 y0X5_pop yvX5_pop rfl (Nat.le_of_ble_eq_true rfl) lay_69 kr_5 (by decide) (Nat.le_of_ble_eq_true rfl) rfl rfl rfl (t_X5_pop hG ⟨rfl, rfl⟩ g4) ?_
    refine sx_istore (pc := 31) (lo' := [(5, .int x5), (0, .ref 69), (1, .long l1), (3, .ref l3), (4, .int l4)]) dX5_shiftByPixels_31 (by decide) rfl ?_
    refine sx_aload_n (pc := 33) dX5_shiftByPixels_33 sx_m1 ?_
    refine sx_aload_n (pc := 34) dX5_shiftByPixels_34 sx_m3 ?_
    refine sx_iload (pc := 35) dX5_shiftByPixels_35 sx_m0 ?_
    obtain ⟨⟨x8, V6⟩, g7, h⟩ := sx_bnd h
    refine sv_cV (pc := 37) (y := qX5_isThere) (o := (some (.int x8))) (as := [.ref l3, .int x5]) (V1 := V6) hG dX5_shiftByPixels_37 l_X5_259 y0X5_isThere yvX5_isThere rfl (Nat.le_of_ble_eq_true rfl) lay_69 kr_5 (by decide) (Nat.le_of_ble_eq_true rfl) rfl rfl rfl (t_X5_isThere hG ⟨rfl, rfl⟩ g7) ?_
    refine sx_if_ne (pc := 40) (tgt := 44) dX5_shiftByPixels_40 (by decide) (fun c9 => ?_) (fun c9 => ?_)
    · have h := sx_neg c9 h
      refine sx_aload_n (pc := 44) dX5_shiftByPixels_44 sx_m3 ?_
      obtain ⟨g10, h⟩ := sx_grd h
      obtain ⟨b11, g12, h⟩ := sx_bnd h
      refine sv_getA (pc := 45) hG dX5_shiftByPixels_45 f_5_198 g10 rfl g12 ?_
      refine sx_iload (pc := 48) dX5_shiftByPixels_48 sx_m0 ?_
      refine sx_dup2 (pc := 50) dX5_shiftByPixels_50 rfl rfl ?_
      obtain ⟨n13, g14, h⟩ := sx_bnd h
      obtain ⟨g15, h⟩ := sx_grd h
      refine sv_iald (pc := 51) hG dX5_shiftByPixels_51 (sv_len_e g14) g15 ?_
      refine sx_lload_n (pc := 52) dX5_shiftByPixels_52 sx_m2 ?_
      refine sx_aload_n (pc := 53) dX5_shiftByPixels_53 sx_m1 ?_
      refine sv_getO (pc := 54) hG dX5_shiftByPixels_54 f_5_12 lay_69 rfl cr_69_1 ?_
      refine sv_getI (pc := 57) hG dX5_shiftByPixels_57 f_5_210 lay_70 rfl ?_
      refine sx_i2l (pc := 60) dX5_shiftByPixels_60 ?_
      refine sx_lmul (pc := 61) dX5_shiftByPixels_61 ?_
      refine sx_ldc2 (pc := 62) dX5_shiftByPixels_62 k_X5_190 ?_
      obtain ⟨⟨x18, V16⟩, g17, h⟩ := sx_bnd h
      refine sv_cN (pc := 65) (y := qX11_nearest) (o := (some (.long x18))) (as := [.long (l1 * ((V6.1 70 0).toInt64)), .long (16384 : Int64)]) (V1 := V16) dX5_shiftByPixels_65 n_X5_75 y0X11_nearest ysX11_nearest rfl (Nat.le_of_ble_eq_true rfl) (by decide) (Nat.le_of_ble_eq_true rfl) rfl rfl rfl (t_X11_nearest hG ⟨rfl, rfl⟩ g17) ?_
      refine sx_l2i (pc := 68) dX5_shiftByPixels_68 ?_
      refine sx_iadd (pc := 69) dX5_shiftByPixels_69 ?_
      obtain ⟨g19, h⟩ := sx_grd h
      obtain ⟨V20, hV20⟩ : ∃ z : sv_V, z = sv_I V16 b11 x5.toNatClampNeg ((V6.1 b11 x5.toNatClampNeg) + x18.toInt32) := ⟨_, rfl⟩
      have h := sx_letE hV20 h
      refine sv_iast (pc := 70) hG dX5_shiftByPixels_70 (sv_len_e g14) g19 hV20 ?_
      refine sx_aload_n (pc := 71) dX5_shiftByPixels_71 sx_m3 ?_
      obtain ⟨b21, g22, h⟩ := sx_bnd h
      refine sv_getA (pc := 72) hG dX5_shiftByPixels_72 f_5_201 g10 rfl g22 ?_
      refine sx_iload (pc := 75) dX5_shiftByPixels_75 sx_m0 ?_
      refine sx_dup2 (pc := 77) dX5_shiftByPixels_77 rfl rfl ?_
      obtain ⟨n23, g24, h⟩ := sx_bnd h
      obtain ⟨g25, h⟩ := sx_grd h
      refine sv_iald (pc := 78) hG dX5_shiftByPixels_78 (sv_len_e g24) g25 ?_
      refine sx_lload_n (pc := 79) dX5_shiftByPixels_79 sx_m2 ?_
      refine sx_aload_n (pc := 80) dX5_shiftByPixels_80 sx_m1 ?_
      refine sv_getO (pc := 81) hG dX5_shiftByPixels_81 f_5_12 lay_69 rfl cr_69_1 ?_
      refine sv_getI (pc := 84) hG dX5_shiftByPixels_84 f_5_213 lay_70 rfl ?_
      refine sx_i2l (pc := 87) dX5_shiftByPixels_87 ?_
      refine sx_lmul (pc := 88) dX5_shiftByPixels_88 ?_
      refine sx_ldc2 (pc := 89) dX5_shiftByPixels_89 k_X5_190 ?_
      obtain ⟨⟨x28, V26⟩, g27, h⟩ := sx_bnd h
      refine sv_cN (pc := 92) (y := qX11_nearest) (o := (some (.long x28))) (as := [.long (l1 * ((V20.1 70 1).toInt64)), .long (16384 : Int64)]) (V1 := V26) dX5_shiftByPixels_92 n_X5_75 y0X11_nearest ysX11_nearest rfl (Nat.le_of_ble_eq_true rfl) (by decide) (Nat.le_of_ble_eq_true rfl) rfl rfl rfl (t_X11_nearest hG ⟨rfl, rfl⟩ g27) ?_
      refine sx_l2i (pc := 95) dX5_shiftByPixels_95 ?_
      refine sx_iadd (pc := 96) dX5_shiftByPixels_96 ?_
      obtain ⟨g29, h⟩ := sx_grd h
      obtain ⟨V30, hV30⟩ : ∃ z : sv_V, z = sv_I V26 b21 x5.toNatClampNeg ((V20.1 b21 x5.toNatClampNeg) + x28.toInt32) := ⟨_, rfl⟩
      have h := sx_letE hV30 h
      refine sv_iast (pc := 97) hG dX5_shiftByPixels_97 (sv_len_e g24) g29 hV30 ?_
      refine sx_aload_n (pc := 98) dX5_shiftByPixels_98 sx_m3 ?_
      obtain ⟨b31, g32, h⟩ := sx_bnd h
      refine sv_getA (pc := 99) hG dX5_shiftByPixels_99 f_5_220 g10 rfl g32 ?_
      refine sx_iload (pc := 102) dX5_shiftByPixels_102 sx_m0 ?_
      refine sx_dup2 (pc := 104) dX5_shiftByPixels_104 rfl rfl ?_
      obtain ⟨n33, g34, h⟩ := sx_bnd h
      obtain ⟨g35, h⟩ := sx_grd h
      refine sv_iald (pc := 105) hG dX5_shiftByPixels_105 (sv_len_e g34) g35 ?_
      refine sx_aload_n (pc := 106) dX5_shiftByPixels_106 sx_m1 ?_
      obtain ⟨⟨x38, V36⟩, g37, h⟩ := sx_bnd h
      refine sv_cV (pc := 107) (y := qX5_touchBits) (o := (some (.int x38))) (as := []) (V1 := V36) hG dX5_shiftByPixels_107 l_X5_223 y0X5_touchBits yvX5_touchBits rfl (Nat.le_of_ble_eq_true rfl) lay_69 kr_5 (by decide) (Nat.le_of_ble_eq_true rfl) rfl rfl rfl (t_X5_touchBits hG ⟨rfl, rfl⟩ g37) ?_
      refine sx_ior (pc := 110) dX5_shiftByPixels_110 ?_
      obtain ⟨g39, h⟩ := sx_grd h
      obtain ⟨V40, hV40⟩ : ∃ z : sv_V, z = sv_I V36 b31 x5.toNatClampNeg ((V30.1 b31 x5.toNatClampNeg) ||| x38) := ⟨_, rfl⟩
      have h := sx_letE hV40 h
      refine sv_iast (pc := 111) hG dX5_shiftByPixels_111 (sv_len_e g34) g39 hV40 ?_
      obtain ⟨x41, hx41⟩ : ∃ z : Int32, z = l4 + 1 := ⟨_, rfl⟩
      have h := sx_letE hx41 h
      refine sx_iinc (pc := 112) (v := x41) (lo' := [(4, .int x41), (5, .int x5), (0, .ref 69), (1, .long l1), (3, .ref l3)]) dX5_shiftByPixels_112 sx_m4 (by rw [hx41]; rfl) (by decide) rfl ?_
      refine sx_goto (pc := 115) (tgt := 15) dX5_shiftByPixels_115 (by decide) ?_
      refine sx_wk (sx_s1 sx_m2 (sx_s1 sx_m3 (sx_s1 sx_m4 (sx_s1 sx_m0 sx_s0)))) ?_
      exact hk15 _ _ _ _ h
    · have h := sx_pos c9 h
      exact sv_vret (pc := 43) dX5_shiftByPixels_43 rfl h hP
theorem tL_X5_shiftByPixels_15 {g : sx_G} (hG : sx_Go g) {P : Option Value → sv_V → Prop} {Vr : sv_V} (hP : P none Vr) {N : Nat}   : ∀ (n : Nat) (l1 : Int64) (l3 : Nat) (l4 : Int32) (V : sv_V), sx_lp4 (B_X5_shiftByPixels_15 N ) n l1 l3 l4 V = some Vr → sv_N g qX5_shiftByPixels 2 15 [(0, .ref 69), (1, .long l1), (3, .ref l3), (4, .int l4)] [] V P :=
  sx_lp4_ind (fun k0 ih _ _ _ V h => tB_X5_shiftByPixels_15 hG hP ih h)
def F_X5_shiftByPixels (N : Nat)  (V : sv_V) : Option sv_V := (F_X5_pop  V).bind (fun (x44, V42) => sx_let (x44.toInt64) (fun x45 => (F_X5_zone (2 : Int32) V42).bind (fun (x48, V46) => sx_lp4 (B_X5_shiftByPixels_15 N ) N x45 x48 (0 : Int32) V46)))
set_option maxRecDepth 20000 in
theorem t_X5_shiftByPixels {g : sx_G} (hG : sx_Go g) {P : Option Value → sv_V → Prop} {Vr : sv_V} (hP : P none Vr) {N : Nat}  {V : sv_V} (h : F_X5_shiftByPixels N  V = some Vr) : sv_N g qX5_shiftByPixels 2 0 [(0, .ref 69)] [] V P := by
  unfold F_X5_shiftByPixels at h
  refine sx_aload_n (pc := 0) dX5_shiftByPixels_0 sx_m0 ?_
  obtain ⟨⟨x44, V42⟩, g43, h⟩ := sx_bnd h
  refine sv_cV (pc := 1) (y := qX5_pop) (o := (some (.int x44))) (as := []) (V1 := V42) hG dX5_shiftByPixels_1 l_X5_242 y0X5_pop yvX5_pop rfl (Nat.le_of_ble_eq_true rfl) lay_69 kr_5 (by decide) (Nat.le_of_ble_eq_true rfl) rfl rfl rfl (t_X5_pop hG ⟨rfl, rfl⟩ g43) ?_
  refine sx_i2l (pc := 4) dX5_shiftByPixels_4 ?_
  refine sv_tJ (fun x45 hx45 => ?_)
  have h := sx_letE hx45 h
  refine sx_lstore_n (pc := 5) (lo' := [(1, .long x45), (0, .ref 69)]) dX5_shiftByPixels_5 (by decide) rfl ?_
  refine sx_aload_n (pc := 6) dX5_shiftByPixels_6 sx_m1 ?_
  refine sx_iconst (pc := 7) (v := 2) dX5_shiftByPixels_7 (by decide) ?_
  obtain ⟨⟨x48, V46⟩, g47, h⟩ := sx_bnd h
  refine sv_cV (pc := 8) (y := qX5_zone) (o := (some (.ref x48))) (as := [.int (2 : Int32)]) (V1 := V46) hG dX5_shiftByPixels_8 l_X5_255 y0X5_zone yvX5_zone rfl (Nat.le_of_ble_eq_true rfl) lay_69 kr_5 (by decide) (Nat.le_of_ble_eq_true rfl) rfl rfl rfl (t_X5_zone hG ⟨rfl, rfl⟩ g47) ?_
  refine sx_astore_n (pc := 11) (lo' := [(3, .ref x48), (1, .long x45), (0, .ref 69)]) dX5_shiftByPixels_11 (by decide) rfl ?_
  refine sx_iconst (pc := 12) (v := 0) dX5_shiftByPixels_12 (by decide) ?_
  refine sx_istore (pc := 13) (lo' := [(4, .int (0 : Int32)), (3, .ref x48), (1, .long x45), (0, .ref 69)]) dX5_shiftByPixels_13 (by decide) rfl ?_
  refine sx_wk (sx_s1 sx_m3 (sx_s1 sx_m2 (sx_s1 sx_m1 (sx_s1 sx_m0 sx_s0)))) ?_
  exact tL_X5_shiftByPixels_15 hG hP  N _ _ _ _ h
theorem dX5_interpolate_0 : decode cX5_interpolate 0 = .ok (.aload_n 0, 1) := by decide +kernel
theorem dX5_interpolate_1 : decode cX5_interpolate 1 = .ok (.iconst 0, 1) := by decide +kernel
theorem dX5_interpolate_2 : decode cX5_interpolate 2 = .ok (.invokevirtual 255, 3) := by decide +kernel
theorem dX5_interpolate_5 : decode cX5_interpolate 5 = .ok (.astore_n 1, 1) := by decide +kernel
theorem dX5_interpolate_6 : decode cX5_interpolate 6 = .ok (.aload_n 0, 1) := by decide +kernel
theorem dX5_interpolate_7 : decode cX5_interpolate 7 = .ok (.iconst 1, 1) := by decide +kernel
theorem dX5_interpolate_8 : decode cX5_interpolate 8 = .ok (.invokevirtual 255, 3) := by decide +kernel
theorem dX5_interpolate_11 : decode cX5_interpolate 11 = .ok (.astore_n 2, 1) := by decide +kernel
theorem dX5_interpolate_12 : decode cX5_interpolate 12 = .ok (.aload_n 0, 1) := by decide +kernel
theorem dX5_interpolate_13 : decode cX5_interpolate 13 = .ok (.iconst 2, 1) := by decide +kernel
theorem dX5_interpolate_14 : decode cX5_interpolate 14 = .ok (.invokevirtual 255, 3) := by decide +kernel
theorem dX5_interpolate_17 : decode cX5_interpolate 17 = .ok (.astore_n 3, 1) := by decide +kernel
theorem dX5_interpolate_18 : decode cX5_interpolate 18 = .ok (.aload_n 0, 1) := by decide +kernel
theorem dX5_interpolate_19 : decode cX5_interpolate 19 = .ok (.getfield 12, 3) := by decide +kernel
theorem dX5_interpolate_22 : decode cX5_interpolate 22 = .ok (.getfield 275, 3) := by decide +kernel
theorem dX5_interpolate_25 : decode cX5_interpolate 25 = .ok (.iconst 1, 1) := by decide +kernel
theorem dX5_interpolate_26 : decode cX5_interpolate 26 = .ok (.iaload, 1) := by decide +kernel
theorem dX5_interpolate_27 : decode cX5_interpolate 27 = .ok (.istore 4, 2) := by decide +kernel
theorem dX5_interpolate_29 : decode cX5_interpolate 29 = .ok (.aload_n 0, 1) := by decide +kernel
theorem dX5_interpolate_30 : decode cX5_interpolate 30 = .ok (.getfield 12, 3) := by decide +kernel
theorem dX5_interpolate_33 : decode cX5_interpolate 33 = .ok (.getfield 275, 3) := by decide +kernel
theorem dX5_interpolate_36 : decode cX5_interpolate 36 = .ok (.iconst 2, 1) := by decide +kernel
theorem dX5_interpolate_37 : decode cX5_interpolate 37 = .ok (.iaload, 1) := by decide +kernel
theorem dX5_interpolate_38 : decode cX5_interpolate 38 = .ok (.istore 5, 2) := by decide +kernel
theorem dX5_interpolate_40 : decode cX5_interpolate 40 = .ok (.aload_n 0, 1) := by decide +kernel
theorem dX5_interpolate_41 : decode cX5_interpolate 41 = .ok (.aload_n 1, 1) := by decide +kernel
theorem dX5_interpolate_42 : decode cX5_interpolate 42 = .ok (.iload 4, 2) := by decide +kernel
theorem dX5_interpolate_44 : decode cX5_interpolate 44 = .ok (.invokevirtual 259, 3) := by decide +kernel
theorem dX5_interpolate_47 : decode cX5_interpolate 47 = .ok (.ifCond .eq 13, 3) := by decide +kernel
theorem dX5_interpolate_50 : decode cX5_interpolate 50 = .ok (.aload_n 0, 1) := by decide +kernel
theorem dX5_interpolate_51 : decode cX5_interpolate 51 = .ok (.aload_n 2, 1) := by decide +kernel
theorem dX5_interpolate_52 : decode cX5_interpolate 52 = .ok (.iload 5, 2) := by decide +kernel
theorem dX5_interpolate_54 : decode cX5_interpolate 54 = .ok (.invokevirtual 259, 3) := by decide +kernel
theorem dX5_interpolate_57 : decode cX5_interpolate 57 = .ok (.ifCond .ne 4, 3) := by decide +kernel
theorem dX5_interpolate_60 : decode cX5_interpolate 60 = .ok (.return_, 1) := by decide +kernel
theorem dX5_interpolate_61 : decode cX5_interpolate 61 = .ok (.aload_n 0, 1) := by decide +kernel
theorem dX5_interpolate_62 : decode cX5_interpolate 62 = .ok (.aload_n 2, 1) := by decide +kernel
theorem dX5_interpolate_63 : decode cX5_interpolate 63 = .ok (.iload 5, 2) := by decide +kernel
theorem dX5_interpolate_65 : decode cX5_interpolate 65 = .ok (.aload_n 1, 1) := by decide +kernel
theorem dX5_interpolate_66 : decode cX5_interpolate 66 = .ok (.iload 4, 2) := by decide +kernel
theorem dX5_interpolate_68 : decode cX5_interpolate 68 = .ok (.invokevirtual 471, 3) := by decide +kernel
theorem dX5_interpolate_71 : decode cX5_interpolate 71 = .ok (.lstore 6, 2) := by decide +kernel
theorem dX5_interpolate_73 : decode cX5_interpolate 73 = .ok (.aload_n 0, 1) := by decide +kernel
theorem dX5_interpolate_74 : decode cX5_interpolate 74 = .ok (.aload_n 2, 1) := by decide +kernel
theorem dX5_interpolate_75 : decode cX5_interpolate 75 = .ok (.iload 5, 2) := by decide +kernel
theorem dX5_interpolate_77 : decode cX5_interpolate 77 = .ok (.aload_n 1, 1) := by decide +kernel
theorem dX5_interpolate_78 : decode cX5_interpolate 78 = .ok (.iload 4, 2) := by decide +kernel
theorem dX5_interpolate_80 : decode cX5_interpolate 80 = .ok (.invokevirtual 455, 3) := by decide +kernel
theorem dX5_interpolate_83 : decode cX5_interpolate 83 = .ok (.lstore 8, 2) := by decide +kernel
theorem dX5_interpolate_85 : decode cX5_interpolate 85 = .ok (.iconst 0, 1) := by decide +kernel
theorem dX5_interpolate_86 : decode cX5_interpolate 86 = .ok (.istore 10, 2) := by decide +kernel
theorem dX5_interpolate_88 : decode cX5_interpolate 88 = .ok (.iload 10, 2) := by decide +kernel
theorem dX5_interpolate_90 : decode cX5_interpolate 90 = .ok (.aload_n 0, 1) := by decide +kernel
theorem dX5_interpolate_91 : decode cX5_interpolate 91 = .ok (.getfield 12, 3) := by decide +kernel
theorem dX5_interpolate_94 : decode cX5_interpolate 94 = .ok (.getfield 163, 3) := by decide +kernel
theorem dX5_interpolate_97 : decode cX5_interpolate 97 = .ok (.if_icmp .ge 82, 3) := by decide +kernel
theorem dX5_interpolate_100 : decode cX5_interpolate 100 = .ok (.aload_n 0, 1) := by decide +kernel
theorem dX5_interpolate_101 : decode cX5_interpolate 101 = .ok (.invokevirtual 242, 3) := by decide +kernel
theorem dX5_interpolate_104 : decode cX5_interpolate 104 = .ok (.istore 11, 2) := by decide +kernel
theorem dX5_interpolate_106 : decode cX5_interpolate 106 = .ok (.aload_n 0, 1) := by decide +kernel
theorem dX5_interpolate_107 : decode cX5_interpolate 107 = .ok (.aload_n 3, 1) := by decide +kernel
theorem dX5_interpolate_108 : decode cX5_interpolate 108 = .ok (.iload 11, 2) := by decide +kernel
theorem dX5_interpolate_110 : decode cX5_interpolate 110 = .ok (.invokevirtual 259, 3) := by decide +kernel
theorem dX5_interpolate_113 : decode cX5_interpolate 113 = .ok (.ifCond .ne 4, 3) := by decide +kernel
theorem dX5_interpolate_116 : decode cX5_interpolate 116 = .ok (.return_, 1) := by decide +kernel
theorem dX5_interpolate_117 : decode cX5_interpolate 117 = .ok (.aload_n 0, 1) := by decide +kernel
theorem dX5_interpolate_118 : decode cX5_interpolate 118 = .ok (.aload_n 3, 1) := by decide +kernel
theorem dX5_interpolate_119 : decode cX5_interpolate 119 = .ok (.iload 11, 2) := by decide +kernel
theorem dX5_interpolate_121 : decode cX5_interpolate 121 = .ok (.aload_n 1, 1) := by decide +kernel
theorem dX5_interpolate_122 : decode cX5_interpolate 122 = .ok (.iload 4, 2) := by decide +kernel
theorem dX5_interpolate_124 : decode cX5_interpolate 124 = .ok (.invokevirtual 471, 3) := by decide +kernel
theorem dX5_interpolate_127 : decode cX5_interpolate 127 = .ok (.lstore 12, 2) := by decide +kernel
theorem dX5_interpolate_129 : decode cX5_interpolate 129 = .ok (.lload 6, 2) := by decide +kernel
theorem dX5_interpolate_131 : decode cX5_interpolate 131 = .ok (.lconst 0, 1) := by decide +kernel
theorem dX5_interpolate_132 : decode cX5_interpolate 132 = .ok (.lcmp, 1) := by decide +kernel
theorem dX5_interpolate_133 : decode cX5_interpolate 133 = .ok (.ifCond .ne 8, 3) := by decide +kernel
theorem dX5_interpolate_136 : decode cX5_interpolate 136 = .ok (.lload 12, 2) := by decide +kernel
theorem dX5_interpolate_138 : decode cX5_interpolate 138 = .ok (.goto 13, 3) := by decide +kernel
theorem dX5_interpolate_141 : decode cX5_interpolate 141 = .ok (.lload 12, 2) := by decide +kernel
theorem dX5_interpolate_143 : decode cX5_interpolate 143 = .ok (.lload 8, 2) := by decide +kernel
theorem dX5_interpolate_145 : decode cX5_interpolate 145 = .ok (.lmul, 1) := by decide +kernel
theorem dX5_interpolate_146 : decode cX5_interpolate 146 = .ok (.lload 6, 2) := by decide +kernel
theorem dX5_interpolate_148 : decode cX5_interpolate 148 = .ok (.invokestatic 75, 3) := by decide +kernel
theorem dX5_interpolate_151 : decode cX5_interpolate 151 = .ok (.lstore 14, 2) := by decide +kernel
theorem dX5_interpolate_153 : decode cX5_interpolate 153 = .ok (.aload_n 0, 1) := by decide +kernel
theorem dX5_interpolate_154 : decode cX5_interpolate 154 = .ok (.aload_n 3, 1) := by decide +kernel
theorem dX5_interpolate_155 : decode cX5_interpolate 155 = .ok (.iload 11, 2) := by decide +kernel
theorem dX5_interpolate_157 : decode cX5_interpolate 157 = .ok (.lload 14, 2) := by decide +kernel
theorem dX5_interpolate_159 : decode cX5_interpolate 159 = .ok (.aload_n 0, 1) := by decide +kernel
theorem dX5_interpolate_160 : decode cX5_interpolate 160 = .ok (.aload_n 3, 1) := by decide +kernel
theorem dX5_interpolate_161 : decode cX5_interpolate 161 = .ok (.iload 11, 2) := by decide +kernel
theorem dX5_interpolate_163 : decode cX5_interpolate 163 = .ok (.aload_n 1, 1) := by decide +kernel
theorem dX5_interpolate_164 : decode cX5_interpolate 164 = .ok (.iload 4, 2) := by decide +kernel
theorem dX5_interpolate_166 : decode cX5_interpolate 166 = .ok (.invokevirtual 455, 3) := by decide +kernel
theorem dX5_interpolate_169 : decode cX5_interpolate 169 = .ok (.lsub, 1) := by decide +kernel
theorem dX5_interpolate_170 : decode cX5_interpolate 170 = .ok (.invokevirtual 461, 3) := by decide +kernel
theorem dX5_interpolate_173 : decode cX5_interpolate 173 = .ok (.iinc 10 1, 3) := by decide +kernel
theorem dX5_interpolate_176 : decode cX5_interpolate 176 = .ok (.goto (-88), 3) := by decide +kernel
theorem dX5_interpolate_179 : decode cX5_interpolate 179 = .ok (.aload_n 0, 1) := by decide +kernel
theorem dX5_interpolate_180 : decode cX5_interpolate 180 = .ok (.getfield 12, 3) := by decide +kernel
theorem dX5_interpolate_183 : decode cX5_interpolate 183 = .ok (.iconst 1, 1) := by decide +kernel
theorem dX5_interpolate_184 : decode cX5_interpolate 184 = .ok (.putfield 163, 3) := by decide +kernel
theorem dX5_interpolate_187 : decode cX5_interpolate 187 = .ok (.return_, 1) := by decide +kernel
def B_X5_interpolate_151 (N : Nat) (k88 : Nat → Nat → Int32 → Int64 → Int64 → Int32 → sv_V → Option sv_V) (l1 : Nat) (l3 : Nat) (l4 : Int32) (l6 : Int64) (l8 : Int64) (l10 : Int32) (l11 : Int32) (s0 : Int64) (V : sv_V) : Option sv_V := (F_X5_longBetween l3 l11 l1 l4 V).bind (fun (x3, V1) => (F_X5_move l3 l11 (s0 - x3) V1).bind (fun V4 => sx_let (l10 + 1) (fun x6 => k88 l1 l3 l4 l6 l8 x6 V4)))
set_option maxRecDepth 20000 in
theorem tB_X5_interpolate_151 {g : sx_G} (hG : sx_Go g) {P : Option Value → sv_V → Prop} {Vr : sv_V} (hP : P none Vr) {N : Nat} {k88 : Nat → Nat → Int32 → Int64 → Int64 → Int32 → sv_V → Option sv_V} (hk88 : ∀ (l1 : Nat) (l3 : Nat) (l4 : Int32) (l6 : Int64) (l8 : Int64) (l10 : Int32) (V : sv_V), k88 l1 l3 l4 l6 l8 l10 V = some Vr → sv_N g qX5_interpolate 2 88 [(0, .ref 69), (1, .ref l1), (3, .ref l3), (4, .int l4), (6, .long l6), (8, .long l8), (10, .int l10)] [] V P) {l1 : Nat} {l3 : Nat} {l4 : Int32} {l6 : Int64} {l8 : Int64} {l10 : Int32} {l11 : Int32} {s0 : Int64} {V : sv_V} (h : B_X5_interpolate_151 N k88 l1 l3 l4 l6 l8 l10 l11 s0 V = some Vr) : sv_N g qX5_interpolate 2 151 [(0, .ref 69), (1, .ref l1), (3, .ref l3), (4, .int l4), (6, .long l6), (8, .long l8), (10, .int l10), (11, .int l11)] [.long s0] V P := by
  unfold B_X5_interpolate_151 at h
  refine sx_lstore (pc := 151) (lo' := [(14, .long s0), (0, .ref 69), (1, .ref l1), (3, .ref l3), (4, .int l4), (6, .long l6), (8, .long l8), (10, .int l10), (11, .int l11)]) dX5_interpolate_151 (by decide) rfl ?_
  refine sx_aload_n (pc := 153) dX5_interpolate_153 sx_m1 ?_
  refine sx_aload_n (pc := 154) dX5_interpolate_154 sx_m3 ?_
  refine sx_iload (pc := 155) dX5_interpolate_155 sx_m8 ?_
  refine sx_lload (pc := 157) dX5_interpolate_157 sx_m0 ?_
  refine sx_aload_n (pc := 159) dX5_interpolate_159 sx_m1 ?_
  refine sx_aload_n (pc := 160) dX5_interpolate_160 sx_m3 ?_
  refine sx_iload (pc := 161) dX5_interpolate_161 sx_m8 ?_
  refine sx_aload_n (pc := 163) dX5_interpolate_163 sx_m2 ?_
  refine sx_iload (pc := 164) dX5_interpolate_164 sx_m4 ?_
  obtain ⟨⟨x3, V1⟩, g2, h⟩ := sx_bnd h
  refine sv_cV (pc := 166) (y := qX5_longBetween) (o := (some (.long x3))) (as := [.ref l3, .int l11, .ref l1, .int l4]) (V1 := V1) hG dX5_interpolate_166 l_X5_455 y0X5_longBetween yvX5_longBetween rfl (Nat.le_of_ble_eq_true rfl) lay_69 kr_5 (by decide) (Nat.le_of_ble_eq_true rfl) rfl rfl rfl (t_X5_longBetween hG ⟨rfl, rfl⟩ g2) ?_
  refine sx_lsub (pc := 169) dX5_interpolate_169 ?_
  obtain ⟨V4, g5, h⟩ := sx_bnd h
  refine sv_cV (pc := 170) (y := qX5_move) (o := none) (as := [.ref l3, .int l11, .long (s0 - x3)]) (V1 := V4) hG dX5_interpolate_170 l_X5_461 y0X5_move yvX5_move rfl (Nat.le_of_ble_eq_true rfl) lay_69 kr_5 (by decide) (Nat.le_of_ble_eq_true rfl) rfl rfl rfl (t_X5_move hG ⟨rfl, rfl⟩ g5) ?_
  obtain ⟨x6, hx6⟩ : ∃ z : Int32, z = l10 + 1 := ⟨_, rfl⟩
  have h := sx_letE hx6 h
  refine sx_iinc (pc := 173) (v := x6) (lo' := [(10, .int x6), (14, .long s0), (0, .ref 69), (1, .ref l1), (3, .ref l3), (4, .int l4), (6, .long l6), (8, .long l8), (11, .int l11)]) dX5_interpolate_173 sx_m7 (by rw [hx6]; rfl) (by decide) rfl ?_
  refine sx_goto (pc := 176) (tgt := 88) dX5_interpolate_176 (by decide) ?_
  refine sx_wk (sx_s1 sx_m2 (sx_s1 sx_m3 (sx_s1 sx_m4 (sx_s1 sx_m5 (sx_s1 sx_m6 (sx_s1 sx_m7 (sx_s1 sx_m0 sx_s0))))))) ?_
  exact hk88 _ _ _ _ _ _ _ h
def B_X5_interpolate_88 (N : Nat) (k88 : Nat → Nat → Int32 → Int64 → Int64 → Int32 → sv_V → Option sv_V) (l1 : Nat) (l3 : Nat) (l4 : Int32) (l6 : Int64) (l8 : Int64) (l10 : Int32) (V : sv_V) : Option sv_V := if (V.1 70 8) ≤ l10 then (sx_let (sv_I V 70 8 (1 : Int32)) (fun V8 => some V8)) else ((F_X5_pop  V).bind (fun (x11, V9) => (F_X5_isThere l3 x11 V9).bind (fun (x14, V12) => if x14 = 0 then (some V12) else ((F_X5_originalBetween l3 x11 l1 l4 V12).bind (fun (x18, V16) => if (lg_cmp l6 (0 : Int64)) = 0 then (B_X5_interpolate_151 N k88 l1 l3 l4 l6 l8 l10 x11 x18 V16) else ((F_X11_nearest (x18 * l8) l6 V16).bind (fun (x22, V20) => B_X5_interpolate_151 N k88 l1 l3 l4 l6 l8 l10 x11 x22 V20)))))))
set_option maxRecDepth 20000 in
theorem tB_X5_interpolate_88 {g : sx_G} (hG : sx_Go g) {P : Option Value → sv_V → Prop} {Vr : sv_V} (hP : P none Vr) {N : Nat} {k88 : Nat → Nat → Int32 → Int64 → Int64 → Int32 → sv_V → Option sv_V} (hk88 : ∀ (l1 : Nat) (l3 : Nat) (l4 : Int32) (l6 : Int64) (l8 : Int64) (l10 : Int32) (V : sv_V), k88 l1 l3 l4 l6 l8 l10 V = some Vr → sv_N g qX5_interpolate 2 88 [(0, .ref 69), (1, .ref l1), (3, .ref l3), (4, .int l4), (6, .long l6), (8, .long l8), (10, .int l10)] [] V P) {l1 : Nat} {l3 : Nat} {l4 : Int32} {l6 : Int64} {l8 : Int64} {l10 : Int32} {V : sv_V} (h : B_X5_interpolate_88 N k88 l1 l3 l4 l6 l8 l10 V = some Vr) : sv_N g qX5_interpolate 2 88 [(0, .ref 69), (1, .ref l1), (3, .ref l3), (4, .int l4), (6, .long l6), (8, .long l8), (10, .int l10)] [] V P := by
  unfold B_X5_interpolate_88 at h
  refine sx_iload (pc := 88) dX5_interpolate_88 sx_m6 ?_
  refine sx_aload_n (pc := 90) dX5_interpolate_90 sx_m0 ?_
  refine sv_getO (pc := 91) hG dX5_interpolate_91 f_5_12 lay_69 rfl cr_69_1 ?_
  refine sv_getI (pc := 94) hG dX5_interpolate_94 f_5_163 lay_70 rfl ?_
  refine sx_icmp_ge (pc := 97) (tgt := 179) dX5_interpolate_97 (by decide) (fun c7 => ?_) (fun c7 => ?_)
  · have h := sx_pos c7 h
    refine sx_aload_n (pc := 179) dX5_interpolate_179 sx_m0 ?_
    refine sv_getO (pc := 180) hG dX5_interpolate_180 f_5_12 lay_69 rfl cr_69_1 ?_
    refine sx_iconst (pc := 183) (v := 1) dX5_interpolate_183 (by decide) ?_
    obtain ⟨V8, hV8⟩ : ∃ z : sv_V, z = sv_I V 70 8 (1 : Int32) := ⟨_, rfl⟩
    have h := sx_letE hV8 h
    refine sv_putI (pc := 184) hG dX5_interpolate_184 f_5_163 lay_70 rfl hV8 ?_
    exact sv_vret (pc := 187) dX5_interpolate_187 rfl h hP
  · have h := sx_neg c7 h
    refine sx_aload_n (pc := 100) dX5_interpolate_100 sx_m0 ?_
    obtain ⟨⟨x11, V9⟩, g10, h⟩ := sx_bnd h
    refine sv_cV (pc := 101) (y := qX5_pop) (o := (some (.int x11))) (as := []) (V1 := V9) hG dX5_interpolate_101 l_X5_242 y0X5_pop yvX5_pop rfl (Nat.le_of_ble_eq_true rfl) lay_69 kr_5 (by decide) (Nat.le_of_ble_eq_true rfl) rfl rfl rfl (t_X5_pop hG ⟨rfl, rfl⟩ g10) ?_
    refine sx_istore (pc := 104) (lo' := [(11, .int x11), (0, .ref 69), (1, .ref l1), (3, .ref l3), (4, .int l4), (6, .long l6), (8, .long l8), (10, .int l10)]) dX5_interpolate_104 (by decide) rfl ?_
    refine sx_aload_n (pc := 106) dX5_interpolate_106 sx_m1 ?_
    refine sx_aload_n (pc := 107) dX5_interpolate_107 sx_m3 ?_
    refine sx_iload (pc := 108) dX5_interpolate_108 sx_m0 ?_
    obtain ⟨⟨x14, V12⟩, g13, h⟩ := sx_bnd h
    refine sv_cV (pc := 110) (y := qX5_isThere) (o := (some (.int x14))) (as := [.ref l3, .int x11]) (V1 := V12) hG dX5_interpolate_110 l_X5_259 y0X5_isThere yvX5_isThere rfl (Nat.le_of_ble_eq_true rfl) lay_69 kr_5 (by decide) (Nat.le_of_ble_eq_true rfl) rfl rfl rfl (t_X5_isThere hG ⟨rfl, rfl⟩ g13) ?_
    refine sx_if_ne (pc := 113) (tgt := 117) dX5_interpolate_113 (by decide) (fun c15 => ?_) (fun c15 => ?_)
    · have h := sx_neg c15 h
      refine sx_aload_n (pc := 117) dX5_interpolate_117 sx_m1 ?_
      refine sx_aload_n (pc := 118) dX5_interpolate_118 sx_m3 ?_
      refine sx_iload (pc := 119) dX5_interpolate_119 sx_m0 ?_
      refine sx_aload_n (pc := 121) dX5_interpolate_121 sx_m2 ?_
      refine sx_iload (pc := 122) dX5_interpolate_122 sx_m4 ?_
      obtain ⟨⟨x18, V16⟩, g17, h⟩ := sx_bnd h
      refine sv_cV (pc := 124) (y := qX5_originalBetween) (o := (some (.long x18))) (as := [.ref l3, .int x11, .ref l1, .int l4]) (V1 := V16) hG dX5_interpolate_124 l_X5_471 y0X5_originalBetween yvX5_originalBetween rfl (Nat.le_of_ble_eq_true rfl) lay_69 kr_5 (by decide) (Nat.le_of_ble_eq_true rfl) rfl rfl rfl (t_X5_originalBetween hG ⟨rfl, rfl⟩ g17) ?_
      refine sx_lstore (pc := 127) (lo' := [(12, .long x18), (11, .int x11), (0, .ref 69), (1, .ref l1), (3, .ref l3), (4, .int l4), (6, .long l6), (8, .long l8), (10, .int l10)]) dX5_interpolate_127 (by decide) rfl ?_
      refine sx_lload (pc := 129) dX5_interpolate_129 sx_m6 ?_
      refine sx_lconst (pc := 131) (v := 0) dX5_interpolate_131 rfl ?_
      refine sx_lcmp (pc := 132) dX5_interpolate_132 ?_
      refine sx_if_ne (pc := 133) (tgt := 141) dX5_interpolate_133 (by decide) (fun c19 => ?_) (fun c19 => ?_)
      · have h := sx_neg c19 h
        refine sx_lload (pc := 141) dX5_interpolate_141 sx_m0 ?_
        refine sx_lload (pc := 143) dX5_interpolate_143 sx_m7 ?_
        refine sx_lmul (pc := 145) dX5_interpolate_145 ?_
        refine sx_lload (pc := 146) dX5_interpolate_146 sx_m6 ?_
        obtain ⟨⟨x22, V20⟩, g21, h⟩ := sx_bnd h
        refine sv_cN (pc := 148) (y := qX11_nearest) (o := (some (.long x22))) (as := [.long (x18 * l8), .long l6]) (V1 := V20) dX5_interpolate_148 n_X5_75 y0X11_nearest ysX11_nearest rfl (Nat.le_of_ble_eq_true rfl) (by decide) (Nat.le_of_ble_eq_true rfl) rfl rfl rfl (t_X11_nearest hG ⟨rfl, rfl⟩ g21) ?_
        refine sx_wk (sx_s1 sx_m2 (sx_s1 sx_m3 (sx_s1 sx_m4 (sx_s1 sx_m5 (sx_s1 sx_m6 (sx_s1 sx_m7 (sx_s1 sx_m8 (sx_s1 sx_m1 sx_s0)))))))) ?_
        exact tB_X5_interpolate_151 hG hP hk88 h
      · have h := sx_pos c19 h
        refine sx_lload (pc := 136) dX5_interpolate_136 sx_m0 ?_
        refine sx_goto (pc := 138) (tgt := 151) dX5_interpolate_138 (by decide) ?_
        refine sx_wk (sx_s1 sx_m2 (sx_s1 sx_m3 (sx_s1 sx_m4 (sx_s1 sx_m5 (sx_s1 sx_m6 (sx_s1 sx_m7 (sx_s1 sx_m8 (sx_s1 sx_m1 sx_s0)))))))) ?_
        exact tB_X5_interpolate_151 hG hP hk88 h
    · have h := sx_pos c15 h
      exact sv_vret (pc := 116) dX5_interpolate_116 rfl h hP
theorem tL_X5_interpolate_88 {g : sx_G} (hG : sx_Go g) {P : Option Value → sv_V → Prop} {Vr : sv_V} (hP : P none Vr) {N : Nat}   : ∀ (n : Nat) (l1 : Nat) (l3 : Nat) (l4 : Int32) (l6 : Int64) (l8 : Int64) (l10 : Int32) (V : sv_V), sx_lp7 (B_X5_interpolate_88 N ) n l1 l3 l4 l6 l8 l10 V = some Vr → sv_N g qX5_interpolate 2 88 [(0, .ref 69), (1, .ref l1), (3, .ref l3), (4, .int l4), (6, .long l6), (8, .long l8), (10, .int l10)] [] V P :=
  sx_lp7_ind (fun k0 ih _ _ _ _ _ _ V h => tB_X5_interpolate_88 hG hP ih h)
def F_X5_interpolate (N : Nat)  (V : sv_V) : Option sv_V := (F_X5_zone (0 : Int32) V).bind (fun (x25, V23) => (F_X5_zone (1 : Int32) V23).bind (fun (x28, V26) => (F_X5_zone (2 : Int32) V26).bind (fun (x31, V29) => sx_let (V29.1 71 (1 : Int32).toNatClampNeg) (fun x32 => sx_let (V29.1 71 (2 : Int32).toNatClampNeg) (fun x33 => (F_X5_isThere x25 x32 V29).bind (fun (x36, V34) => if x36 = 0 then (some V34) else ((F_X5_isThere x28 x33 V34).bind (fun (x40, V38) => if x40 = 0 then (some V38) else ((F_X5_originalBetween x28 x33 x25 x32 V38).bind (fun (x44, V42) => (F_X5_longBetween x28 x33 x25 x32 V42).bind (fun (x47, V45) => sx_lp7 (B_X5_interpolate_88 N ) N x25 x31 x32 x44 x47 (0 : Int32) V45)))))))))))
set_option maxRecDepth 20000 in
theorem t_X5_interpolate {g : sx_G} (hG : sx_Go g) {P : Option Value → sv_V → Prop} {Vr : sv_V} (hP : P none Vr) {N : Nat}  {V : sv_V} (h : F_X5_interpolate N  V = some Vr) : sv_N g qX5_interpolate 2 0 [(0, .ref 69)] [] V P := by
  unfold F_X5_interpolate at h
  refine sx_aload_n (pc := 0) dX5_interpolate_0 sx_m0 ?_
  refine sx_iconst (pc := 1) (v := 0) dX5_interpolate_1 (by decide) ?_
  obtain ⟨⟨x25, V23⟩, g24, h⟩ := sx_bnd h
  refine sv_cV (pc := 2) (y := qX5_zone) (o := (some (.ref x25))) (as := [.int (0 : Int32)]) (V1 := V23) hG dX5_interpolate_2 l_X5_255 y0X5_zone yvX5_zone rfl (Nat.le_of_ble_eq_true rfl) lay_69 kr_5 (by decide) (Nat.le_of_ble_eq_true rfl) rfl rfl rfl (t_X5_zone hG ⟨rfl, rfl⟩ g24) ?_
  refine sx_astore_n (pc := 5) (lo' := [(1, .ref x25), (0, .ref 69)]) dX5_interpolate_5 (by decide) rfl ?_
  refine sx_aload_n (pc := 6) dX5_interpolate_6 sx_m1 ?_
  refine sx_iconst (pc := 7) (v := 1) dX5_interpolate_7 (by decide) ?_
  obtain ⟨⟨x28, V26⟩, g27, h⟩ := sx_bnd h
  refine sv_cV (pc := 8) (y := qX5_zone) (o := (some (.ref x28))) (as := [.int (1 : Int32)]) (V1 := V26) hG dX5_interpolate_8 l_X5_255 y0X5_zone yvX5_zone rfl (Nat.le_of_ble_eq_true rfl) lay_69 kr_5 (by decide) (Nat.le_of_ble_eq_true rfl) rfl rfl rfl (t_X5_zone hG ⟨rfl, rfl⟩ g27) ?_
  refine sx_astore_n (pc := 11) (lo' := [(2, .ref x28), (1, .ref x25), (0, .ref 69)]) dX5_interpolate_11 (by decide) rfl ?_
  refine sx_aload_n (pc := 12) dX5_interpolate_12 sx_m2 ?_
  refine sx_iconst (pc := 13) (v := 2) dX5_interpolate_13 (by decide) ?_
  obtain ⟨⟨x31, V29⟩, g30, h⟩ := sx_bnd h
  refine sv_cV (pc := 14) (y := qX5_zone) (o := (some (.ref x31))) (as := [.int (2 : Int32)]) (V1 := V29) hG dX5_interpolate_14 l_X5_255 y0X5_zone yvX5_zone rfl (Nat.le_of_ble_eq_true rfl) lay_69 kr_5 (by decide) (Nat.le_of_ble_eq_true rfl) rfl rfl rfl (t_X5_zone hG ⟨rfl, rfl⟩ g30) ?_
  refine sx_astore_n (pc := 17) (lo' := [(3, .ref x31), (2, .ref x28), (1, .ref x25), (0, .ref 69)]) dX5_interpolate_17 (by decide) rfl ?_
  refine sx_aload_n (pc := 18) dX5_interpolate_18 sx_m3 ?_
  refine sv_getO (pc := 19) hG dX5_interpolate_19 f_5_12 lay_69 rfl cr_69_1 ?_
  refine sv_getA (pc := 22) hG dX5_interpolate_22 f_5_275 lay_70 rfl cr_70_6 ?_
  refine sx_iconst (pc := 25) (v := 1) dX5_interpolate_25 (by decide) ?_
  refine sv_iald (pc := 26) hG dX5_interpolate_26 lay_71 (by decide) ?_
  refine sv_tI (fun x32 hx32 => ?_)
  have h := sx_letE hx32 h
  refine sx_istore (pc := 27) (lo' := [(4, .int x32), (3, .ref x31), (2, .ref x28), (1, .ref x25), (0, .ref 69)]) dX5_interpolate_27 (by decide) rfl ?_
  refine sx_aload_n (pc := 29) dX5_interpolate_29 sx_m4 ?_
  refine sv_getO (pc := 30) hG dX5_interpolate_30 f_5_12 lay_69 rfl cr_69_1 ?_
  refine sv_getA (pc := 33) hG dX5_interpolate_33 f_5_275 lay_70 rfl cr_70_6 ?_
  refine sx_iconst (pc := 36) (v := 2) dX5_interpolate_36 (by decide) ?_
  refine sv_iald (pc := 37) hG dX5_interpolate_37 lay_71 (by decide) ?_
  refine sv_tI (fun x33 hx33 => ?_)
  have h := sx_letE hx33 h
  refine sx_istore (pc := 38) (lo' := [(5, .int x33), (4, .int x32), (3, .ref x31), (2, .ref x28), (1, .ref x25), (0, .ref 69)]) dX5_interpolate_38 (by decide) rfl ?_
  refine sx_aload_n (pc := 40) dX5_interpolate_40 sx_m5 ?_
  refine sx_aload_n (pc := 41) dX5_interpolate_41 sx_m4 ?_
  refine sx_iload (pc := 42) dX5_interpolate_42 sx_m1 ?_
  obtain ⟨⟨x36, V34⟩, g35, h⟩ := sx_bnd h
  refine sv_cV (pc := 44) (y := qX5_isThere) (o := (some (.int x36))) (as := [.ref x25, .int x32]) (V1 := V34) hG dX5_interpolate_44 l_X5_259 y0X5_isThere yvX5_isThere rfl (Nat.le_of_ble_eq_true rfl) lay_69 kr_5 (by decide) (Nat.le_of_ble_eq_true rfl) rfl rfl rfl (t_X5_isThere hG ⟨rfl, rfl⟩ g35) ?_
  refine sx_if_eq (pc := 47) (tgt := 60) dX5_interpolate_47 (by decide) (fun c37 => ?_) (fun c37 => ?_)
  · have h := sx_pos c37 h
    exact sv_vret (pc := 60) dX5_interpolate_60 rfl h hP
  · have h := sx_neg c37 h
    refine sx_aload_n (pc := 50) dX5_interpolate_50 sx_m5 ?_
    refine sx_aload_n (pc := 51) dX5_interpolate_51 sx_m3 ?_
    refine sx_iload (pc := 52) dX5_interpolate_52 sx_m0 ?_
    obtain ⟨⟨x40, V38⟩, g39, h⟩ := sx_bnd h
    refine sv_cV (pc := 54) (y := qX5_isThere) (o := (some (.int x40))) (as := [.ref x28, .int x33]) (V1 := V38) hG dX5_interpolate_54 l_X5_259 y0X5_isThere yvX5_isThere rfl (Nat.le_of_ble_eq_true rfl) lay_69 kr_5 (by decide) (Nat.le_of_ble_eq_true rfl) rfl rfl rfl (t_X5_isThere hG ⟨rfl, rfl⟩ g39) ?_
    refine sx_if_ne (pc := 57) (tgt := 61) dX5_interpolate_57 (by decide) (fun c41 => ?_) (fun c41 => ?_)
    · have h := sx_neg c41 h
      refine sx_aload_n (pc := 61) dX5_interpolate_61 sx_m5 ?_
      refine sx_aload_n (pc := 62) dX5_interpolate_62 sx_m3 ?_
      refine sx_iload (pc := 63) dX5_interpolate_63 sx_m0 ?_
      refine sx_aload_n (pc := 65) dX5_interpolate_65 sx_m4 ?_
      refine sx_iload (pc := 66) dX5_interpolate_66 sx_m1 ?_
      obtain ⟨⟨x44, V42⟩, g43, h⟩ := sx_bnd h
      refine sv_cV (pc := 68) (y := qX5_originalBetween) (o := (some (.long x44))) (as := [.ref x28, .int x33, .ref x25, .int x32]) (V1 := V42) hG dX5_interpolate_68 l_X5_471 y0X5_originalBetween yvX5_originalBetween rfl (Nat.le_of_ble_eq_true rfl) lay_69 kr_5 (by decide) (Nat.le_of_ble_eq_true rfl) rfl rfl rfl (t_X5_originalBetween hG ⟨rfl, rfl⟩ g43) ?_
      refine sx_lstore (pc := 71) (lo' := [(6, .long x44), (5, .int x33), (4, .int x32), (3, .ref x31), (2, .ref x28), (1, .ref x25), (0, .ref 69)]) dX5_interpolate_71 (by decide) rfl ?_
      refine sx_aload_n (pc := 73) dX5_interpolate_73 sx_m6 ?_
      refine sx_aload_n (pc := 74) dX5_interpolate_74 sx_m4 ?_
      refine sx_iload (pc := 75) dX5_interpolate_75 sx_m1 ?_
      refine sx_aload_n (pc := 77) dX5_interpolate_77 sx_m5 ?_
      refine sx_iload (pc := 78) dX5_interpolate_78 sx_m2 ?_
      obtain ⟨⟨x47, V45⟩, g46, h⟩ := sx_bnd h
      refine sv_cV (pc := 80) (y := qX5_longBetween) (o := (some (.long x47))) (as := [.ref x28, .int x33, .ref x25, .int x32]) (V1 := V45) hG dX5_interpolate_80 l_X5_455 y0X5_longBetween yvX5_longBetween rfl (Nat.le_of_ble_eq_true rfl) lay_69 kr_5 (by decide) (Nat.le_of_ble_eq_true rfl) rfl rfl rfl (t_X5_longBetween hG ⟨rfl, rfl⟩ g46) ?_
      refine sx_lstore (pc := 83) (lo' := [(8, .long x47), (6, .long x44), (5, .int x33), (4, .int x32), (3, .ref x31), (2, .ref x28), (1, .ref x25), (0, .ref 69)]) dX5_interpolate_83 (by decide) rfl ?_
      refine sx_iconst (pc := 85) (v := 0) dX5_interpolate_85 (by decide) ?_
      refine sx_istore (pc := 86) (lo' := [(10, .int (0 : Int32)), (8, .long x47), (6, .long x44), (5, .int x33), (4, .int x32), (3, .ref x31), (2, .ref x28), (1, .ref x25), (0, .ref 69)]) dX5_interpolate_86 (by decide) rfl ?_
      refine sx_wk (sx_s1 sx_m8 (sx_s1 sx_m7 (sx_s1 sx_m5 (sx_s1 sx_m4 (sx_s1 sx_m2 (sx_s1 sx_m1 (sx_s1 sx_m0 sx_s0))))))) ?_
      exact tL_X5_interpolate_88 hG hP  N _ _ _ _ _ _ _ h
    · have h := sx_pos c41 h
      exact sv_vret (pc := 60) dX5_interpolate_60 rfl h hP
theorem dX5_alignToReference_0 : decode cX5_alignToReference 0 = .ok (.aload_n 0, 1) := by decide +kernel
theorem dX5_alignToReference_1 : decode cX5_alignToReference 1 = .ok (.iconst 1, 1) := by decide +kernel
theorem dX5_alignToReference_2 : decode cX5_alignToReference 2 = .ok (.invokevirtual 255, 3) := by decide +kernel
theorem dX5_alignToReference_5 : decode cX5_alignToReference 5 = .ok (.astore_n 1, 1) := by decide +kernel
theorem dX5_alignToReference_6 : decode cX5_alignToReference 6 = .ok (.aload_n 0, 1) := by decide +kernel
theorem dX5_alignToReference_7 : decode cX5_alignToReference 7 = .ok (.iconst 0, 1) := by decide +kernel
theorem dX5_alignToReference_8 : decode cX5_alignToReference 8 = .ok (.invokevirtual 255, 3) := by decide +kernel
theorem dX5_alignToReference_11 : decode cX5_alignToReference 11 = .ok (.astore_n 2, 1) := by decide +kernel
theorem dX5_alignToReference_12 : decode cX5_alignToReference 12 = .ok (.aload_n 0, 1) := by decide +kernel
theorem dX5_alignToReference_13 : decode cX5_alignToReference 13 = .ok (.getfield 12, 3) := by decide +kernel
theorem dX5_alignToReference_16 : decode cX5_alignToReference 16 = .ok (.getfield 275, 3) := by decide +kernel
theorem dX5_alignToReference_19 : decode cX5_alignToReference 19 = .ok (.iconst 0, 1) := by decide +kernel
theorem dX5_alignToReference_20 : decode cX5_alignToReference 20 = .ok (.iaload, 1) := by decide +kernel
theorem dX5_alignToReference_21 : decode cX5_alignToReference 21 = .ok (.istore_n 3, 1) := by decide +kernel
theorem dX5_alignToReference_22 : decode cX5_alignToReference 22 = .ok (.aload_n 0, 1) := by decide +kernel
theorem dX5_alignToReference_23 : decode cX5_alignToReference 23 = .ok (.aload_n 2, 1) := by decide +kernel
theorem dX5_alignToReference_24 : decode cX5_alignToReference 24 = .ok (.iload_n 3, 1) := by decide +kernel
theorem dX5_alignToReference_25 : decode cX5_alignToReference 25 = .ok (.invokevirtual 259, 3) := by decide +kernel
theorem dX5_alignToReference_28 : decode cX5_alignToReference 28 = .ok (.ifCond .ne 4, 3) := by decide +kernel
theorem dX5_alignToReference_31 : decode cX5_alignToReference 31 = .ok (.return_, 1) := by decide +kernel
theorem dX5_alignToReference_32 : decode cX5_alignToReference 32 = .ok (.iconst 0, 1) := by decide +kernel
theorem dX5_alignToReference_33 : decode cX5_alignToReference 33 = .ok (.istore 4, 2) := by decide +kernel
theorem dX5_alignToReference_35 : decode cX5_alignToReference 35 = .ok (.iload 4, 2) := by decide +kernel
theorem dX5_alignToReference_37 : decode cX5_alignToReference 37 = .ok (.aload_n 0, 1) := by decide +kernel
theorem dX5_alignToReference_38 : decode cX5_alignToReference 38 = .ok (.getfield 12, 3) := by decide +kernel
theorem dX5_alignToReference_41 : decode cX5_alignToReference 41 = .ok (.getfield 163, 3) := by decide +kernel
theorem dX5_alignToReference_44 : decode cX5_alignToReference 44 = .ok (.if_icmp .ge 43, 3) := by decide +kernel
theorem dX5_alignToReference_47 : decode cX5_alignToReference 47 = .ok (.aload_n 0, 1) := by decide +kernel
theorem dX5_alignToReference_48 : decode cX5_alignToReference 48 = .ok (.invokevirtual 242, 3) := by decide +kernel
theorem dX5_alignToReference_51 : decode cX5_alignToReference 51 = .ok (.istore 5, 2) := by decide +kernel
theorem dX5_alignToReference_53 : decode cX5_alignToReference 53 = .ok (.aload_n 0, 1) := by decide +kernel
theorem dX5_alignToReference_54 : decode cX5_alignToReference 54 = .ok (.aload_n 1, 1) := by decide +kernel
theorem dX5_alignToReference_55 : decode cX5_alignToReference 55 = .ok (.iload 5, 2) := by decide +kernel
theorem dX5_alignToReference_57 : decode cX5_alignToReference 57 = .ok (.invokevirtual 259, 3) := by decide +kernel
theorem dX5_alignToReference_60 : decode cX5_alignToReference 60 = .ok (.ifCond .ne 4, 3) := by decide +kernel
theorem dX5_alignToReference_63 : decode cX5_alignToReference 63 = .ok (.return_, 1) := by decide +kernel
theorem dX5_alignToReference_64 : decode cX5_alignToReference 64 = .ok (.aload_n 0, 1) := by decide +kernel
theorem dX5_alignToReference_65 : decode cX5_alignToReference 65 = .ok (.aload_n 1, 1) := by decide +kernel
theorem dX5_alignToReference_66 : decode cX5_alignToReference 66 = .ok (.iload 5, 2) := by decide +kernel
theorem dX5_alignToReference_68 : decode cX5_alignToReference 68 = .ok (.aload_n 0, 1) := by decide +kernel
theorem dX5_alignToReference_69 : decode cX5_alignToReference 69 = .ok (.aload_n 1, 1) := by decide +kernel
theorem dX5_alignToReference_70 : decode cX5_alignToReference 70 = .ok (.iload 5, 2) := by decide +kernel
theorem dX5_alignToReference_72 : decode cX5_alignToReference 72 = .ok (.aload_n 2, 1) := by decide +kernel
theorem dX5_alignToReference_73 : decode cX5_alignToReference 73 = .ok (.iload_n 3, 1) := by decide +kernel
theorem dX5_alignToReference_74 : decode cX5_alignToReference 74 = .ok (.invokevirtual 455, 3) := by decide +kernel
theorem dX5_alignToReference_77 : decode cX5_alignToReference 77 = .ok (.lneg, 1) := by decide +kernel
theorem dX5_alignToReference_78 : decode cX5_alignToReference 78 = .ok (.invokevirtual 461, 3) := by decide +kernel
theorem dX5_alignToReference_81 : decode cX5_alignToReference 81 = .ok (.iinc 4 1, 3) := by decide +kernel
theorem dX5_alignToReference_84 : decode cX5_alignToReference 84 = .ok (.goto (-49), 3) := by decide +kernel
theorem dX5_alignToReference_87 : decode cX5_alignToReference 87 = .ok (.aload_n 0, 1) := by decide +kernel
theorem dX5_alignToReference_88 : decode cX5_alignToReference 88 = .ok (.getfield 12, 3) := by decide +kernel
theorem dX5_alignToReference_91 : decode cX5_alignToReference 91 = .ok (.iconst 1, 1) := by decide +kernel
theorem dX5_alignToReference_92 : decode cX5_alignToReference 92 = .ok (.putfield 163, 3) := by decide +kernel
theorem dX5_alignToReference_95 : decode cX5_alignToReference 95 = .ok (.return_, 1) := by decide +kernel
def B_X5_alignToReference_35 (N : Nat) (k35 : Nat → Nat → Int32 → Int32 → sv_V → Option sv_V) (l1 : Nat) (l2 : Nat) (l3 : Int32) (l4 : Int32) (V : sv_V) : Option sv_V := if (V.1 70 8) ≤ l4 then (sx_let (sv_I V 70 8 (1 : Int32)) (fun V2 => some V2)) else ((F_X5_pop  V).bind (fun (x5, V3) => (F_X5_isThere l1 x5 V3).bind (fun (x8, V6) => if x8 = 0 then (some V6) else ((F_X5_longBetween l1 x5 l2 l3 V6).bind (fun (x12, V10) => (F_X5_move l1 x5 (-x12) V10).bind (fun V13 => sx_let (l4 + 1) (fun x15 => k35 l1 l2 l3 x15 V13)))))))
set_option maxRecDepth 20000 in
theorem tB_X5_alignToReference_35 {g : sx_G} (hG : sx_Go g) {P : Option Value → sv_V → Prop} {Vr : sv_V} (hP : P none Vr) {N : Nat} {k35 : Nat → Nat → Int32 → Int32 → sv_V → Option sv_V} (hk35 : ∀ (l1 : Nat) (l2 : Nat) (l3 : Int32) (l4 : Int32) (V : sv_V), k35 l1 l2 l3 l4 V = some Vr → sv_N g qX5_alignToReference 2 35 [(0, .ref 69), (1, .ref l1), (2, .ref l2), (3, .int l3), (4, .int l4)] [] V P) {l1 : Nat} {l2 : Nat} {l3 : Int32} {l4 : Int32} {V : sv_V} (h : B_X5_alignToReference_35 N k35 l1 l2 l3 l4 V = some Vr) : sv_N g qX5_alignToReference 2 35 [(0, .ref 69), (1, .ref l1), (2, .ref l2), (3, .int l3), (4, .int l4)] [] V P := by
  unfold B_X5_alignToReference_35 at h
  refine sx_iload (pc := 35) dX5_alignToReference_35 sx_m4 ?_
  refine sx_aload_n (pc := 37) dX5_alignToReference_37 sx_m0 ?_
  refine sv_getO (pc := 38) hG dX5_alignToReference_38 f_5_12 lay_69 rfl cr_69_1 ?_
  refine sv_getI (pc := 41) hG dX5_alignToReference_41 f_5_163 lay_70 rfl ?_
  refine sx_icmp_ge (pc := 44) (tgt := 87) dX5_alignToReference_44 (by decide) (fun c1 => ?_) (fun c1 => ?_)
  · have h := sx_pos c1 h
    refine sx_aload_n (pc := 87) dX5_alignToReference_87 sx_m0 ?_
    refine sv_getO (pc := 88) hG dX5_alignToReference_88 f_5_12 lay_69 rfl cr_69_1 ?_
    refine sx_iconst (pc := 91) (v := 1) dX5_alignToReference_91 (by decide) ?_
    obtain ⟨V2, hV2⟩ : ∃ z : sv_V, z = sv_I V 70 8 (1 : Int32) := ⟨_, rfl⟩
    have h := sx_letE hV2 h
    refine sv_putI (pc := 92) hG dX5_alignToReference_92 f_5_163 lay_70 rfl hV2 ?_
    exact sv_vret (pc := 95) dX5_alignToReference_95 rfl h hP
  · have h := sx_neg c1 h
    refine sx_aload_n (pc := 47) dX5_alignToReference_47 sx_m0 ?_
    obtain ⟨⟨x5, V3⟩, g4, h⟩ := sx_bnd h
    refine sv_cV (pc := 48) (y := qX5_pop) (o := (some (.int x5))) (as := []) (V1 := V3) hG dX5_alignToReference_48 l_X5_242 y0X5_pop yvX5_pop rfl (Nat.le_of_ble_eq_true rfl) lay_69 kr_5 (by decide) (Nat.le_of_ble_eq_true rfl) rfl rfl rfl (t_X5_pop hG ⟨rfl, rfl⟩ g4) ?_
    refine sx_istore (pc := 51) (lo' := [(5, .int x5), (0, .ref 69), (1, .ref l1), (2, .ref l2), (3, .int l3), (4, .int l4)]) dX5_alignToReference_51 (by decide) rfl ?_
    refine sx_aload_n (pc := 53) dX5_alignToReference_53 sx_m1 ?_
    refine sx_aload_n (pc := 54) dX5_alignToReference_54 sx_m2 ?_
    refine sx_iload (pc := 55) dX5_alignToReference_55 sx_m0 ?_
    obtain ⟨⟨x8, V6⟩, g7, h⟩ := sx_bnd h
    refine sv_cV (pc := 57) (y := qX5_isThere) (o := (some (.int x8))) (as := [.ref l1, .int x5]) (V1 := V6) hG dX5_alignToReference_57 l_X5_259 y0X5_isThere yvX5_isThere rfl (Nat.le_of_ble_eq_true rfl) lay_69 kr_5 (by decide) (Nat.le_of_ble_eq_true rfl) rfl rfl rfl (t_X5_isThere hG ⟨rfl, rfl⟩ g7) ?_
    refine sx_if_ne (pc := 60) (tgt := 64) dX5_alignToReference_60 (by decide) (fun c9 => ?_) (fun c9 => ?_)
    · have h := sx_neg c9 h
      refine sx_aload_n (pc := 64) dX5_alignToReference_64 sx_m1 ?_
      refine sx_aload_n (pc := 65) dX5_alignToReference_65 sx_m2 ?_
      refine sx_iload (pc := 66) dX5_alignToReference_66 sx_m0 ?_
      refine sx_aload_n (pc := 68) dX5_alignToReference_68 sx_m1 ?_
      refine sx_aload_n (pc := 69) dX5_alignToReference_69 sx_m2 ?_
      refine sx_iload (pc := 70) dX5_alignToReference_70 sx_m0 ?_
      refine sx_aload_n (pc := 72) dX5_alignToReference_72 sx_m3 ?_
      refine sx_iload_n (pc := 73) dX5_alignToReference_73 sx_m4 ?_
      obtain ⟨⟨x12, V10⟩, g11, h⟩ := sx_bnd h
      refine sv_cV (pc := 74) (y := qX5_longBetween) (o := (some (.long x12))) (as := [.ref l1, .int x5, .ref l2, .int l3]) (V1 := V10) hG dX5_alignToReference_74 l_X5_455 y0X5_longBetween yvX5_longBetween rfl (Nat.le_of_ble_eq_true rfl) lay_69 kr_5 (by decide) (Nat.le_of_ble_eq_true rfl) rfl rfl rfl (t_X5_longBetween hG ⟨rfl, rfl⟩ g11) ?_
      refine sx_lneg (pc := 77) dX5_alignToReference_77 ?_
      obtain ⟨V13, g14, h⟩ := sx_bnd h
      refine sv_cV (pc := 78) (y := qX5_move) (o := none) (as := [.ref l1, .int x5, .long (-x12)]) (V1 := V13) hG dX5_alignToReference_78 l_X5_461 y0X5_move yvX5_move rfl (Nat.le_of_ble_eq_true rfl) lay_69 kr_5 (by decide) (Nat.le_of_ble_eq_true rfl) rfl rfl rfl (t_X5_move hG ⟨rfl, rfl⟩ g14) ?_
      obtain ⟨x15, hx15⟩ : ∃ z : Int32, z = l4 + 1 := ⟨_, rfl⟩
      have h := sx_letE hx15 h
      refine sx_iinc (pc := 81) (v := x15) (lo' := [(4, .int x15), (5, .int x5), (0, .ref 69), (1, .ref l1), (2, .ref l2), (3, .int l3)]) dX5_alignToReference_81 sx_m5 (by rw [hx15]; rfl) (by decide) rfl ?_
      refine sx_goto (pc := 84) (tgt := 35) dX5_alignToReference_84 (by decide) ?_
      refine sx_wk (sx_s1 sx_m2 (sx_s1 sx_m3 (sx_s1 sx_m4 (sx_s1 sx_m5 (sx_s1 sx_m0 sx_s0))))) ?_
      exact hk35 _ _ _ _ _ h
    · have h := sx_pos c9 h
      exact sv_vret (pc := 63) dX5_alignToReference_63 rfl h hP
theorem tL_X5_alignToReference_35 {g : sx_G} (hG : sx_Go g) {P : Option Value → sv_V → Prop} {Vr : sv_V} (hP : P none Vr) {N : Nat}   : ∀ (n : Nat) (l1 : Nat) (l2 : Nat) (l3 : Int32) (l4 : Int32) (V : sv_V), sx_lp5 (B_X5_alignToReference_35 N ) n l1 l2 l3 l4 V = some Vr → sv_N g qX5_alignToReference 2 35 [(0, .ref 69), (1, .ref l1), (2, .ref l2), (3, .int l3), (4, .int l4)] [] V P :=
  sx_lp5_ind (fun k0 ih _ _ _ _ V h => tB_X5_alignToReference_35 hG hP ih h)
def F_X5_alignToReference (N : Nat)  (V : sv_V) : Option sv_V := (F_X5_zone (1 : Int32) V).bind (fun (x18, V16) => (F_X5_zone (0 : Int32) V16).bind (fun (x21, V19) => sx_let (V19.1 71 (0 : Int32).toNatClampNeg) (fun x22 => (F_X5_isThere x21 x22 V19).bind (fun (x25, V23) => if x25 = 0 then (some V23) else (sx_lp5 (B_X5_alignToReference_35 N ) N x18 x21 x22 (0 : Int32) V23)))))
set_option maxRecDepth 20000 in
theorem t_X5_alignToReference {g : sx_G} (hG : sx_Go g) {P : Option Value → sv_V → Prop} {Vr : sv_V} (hP : P none Vr) {N : Nat}  {V : sv_V} (h : F_X5_alignToReference N  V = some Vr) : sv_N g qX5_alignToReference 2 0 [(0, .ref 69)] [] V P := by
  unfold F_X5_alignToReference at h
  refine sx_aload_n (pc := 0) dX5_alignToReference_0 sx_m0 ?_
  refine sx_iconst (pc := 1) (v := 1) dX5_alignToReference_1 (by decide) ?_
  obtain ⟨⟨x18, V16⟩, g17, h⟩ := sx_bnd h
  refine sv_cV (pc := 2) (y := qX5_zone) (o := (some (.ref x18))) (as := [.int (1 : Int32)]) (V1 := V16) hG dX5_alignToReference_2 l_X5_255 y0X5_zone yvX5_zone rfl (Nat.le_of_ble_eq_true rfl) lay_69 kr_5 (by decide) (Nat.le_of_ble_eq_true rfl) rfl rfl rfl (t_X5_zone hG ⟨rfl, rfl⟩ g17) ?_
  refine sx_astore_n (pc := 5) (lo' := [(1, .ref x18), (0, .ref 69)]) dX5_alignToReference_5 (by decide) rfl ?_
  refine sx_aload_n (pc := 6) dX5_alignToReference_6 sx_m1 ?_
  refine sx_iconst (pc := 7) (v := 0) dX5_alignToReference_7 (by decide) ?_
  obtain ⟨⟨x21, V19⟩, g20, h⟩ := sx_bnd h
  refine sv_cV (pc := 8) (y := qX5_zone) (o := (some (.ref x21))) (as := [.int (0 : Int32)]) (V1 := V19) hG dX5_alignToReference_8 l_X5_255 y0X5_zone yvX5_zone rfl (Nat.le_of_ble_eq_true rfl) lay_69 kr_5 (by decide) (Nat.le_of_ble_eq_true rfl) rfl rfl rfl (t_X5_zone hG ⟨rfl, rfl⟩ g20) ?_
  refine sx_astore_n (pc := 11) (lo' := [(2, .ref x21), (1, .ref x18), (0, .ref 69)]) dX5_alignToReference_11 (by decide) rfl ?_
  refine sx_aload_n (pc := 12) dX5_alignToReference_12 sx_m2 ?_
  refine sv_getO (pc := 13) hG dX5_alignToReference_13 f_5_12 lay_69 rfl cr_69_1 ?_
  refine sv_getA (pc := 16) hG dX5_alignToReference_16 f_5_275 lay_70 rfl cr_70_6 ?_
  refine sx_iconst (pc := 19) (v := 0) dX5_alignToReference_19 (by decide) ?_
  refine sv_iald (pc := 20) hG dX5_alignToReference_20 lay_71 (by decide) ?_
  refine sv_tI (fun x22 hx22 => ?_)
  have h := sx_letE hx22 h
  refine sx_istore_n (pc := 21) (lo' := [(3, .int x22), (2, .ref x21), (1, .ref x18), (0, .ref 69)]) dX5_alignToReference_21 (by decide) rfl ?_
  refine sx_aload_n (pc := 22) dX5_alignToReference_22 sx_m3 ?_
  refine sx_aload_n (pc := 23) dX5_alignToReference_23 sx_m1 ?_
  refine sx_iload_n (pc := 24) dX5_alignToReference_24 sx_m0 ?_
  obtain ⟨⟨x25, V23⟩, g24, h⟩ := sx_bnd h
  refine sv_cV (pc := 25) (y := qX5_isThere) (o := (some (.int x25))) (as := [.ref x21, .int x22]) (V1 := V23) hG dX5_alignToReference_25 l_X5_259 y0X5_isThere yvX5_isThere rfl (Nat.le_of_ble_eq_true rfl) lay_69 kr_5 (by decide) (Nat.le_of_ble_eq_true rfl) rfl rfl rfl (t_X5_isThere hG ⟨rfl, rfl⟩ g24) ?_
  refine sx_if_ne (pc := 28) (tgt := 32) dX5_alignToReference_28 (by decide) (fun c26 => ?_) (fun c26 => ?_)
  · have h := sx_neg c26 h
    refine sx_iconst (pc := 32) (v := 0) dX5_alignToReference_32 (by decide) ?_
    refine sx_istore (pc := 33) (lo' := [(4, .int (0 : Int32)), (3, .int x22), (2, .ref x21), (1, .ref x18), (0, .ref 69)]) dX5_alignToReference_33 (by decide) rfl ?_
    refine sx_wk (sx_s1 sx_m4 (sx_s1 sx_m3 (sx_s1 sx_m2 (sx_s1 sx_m1 (sx_s1 sx_m0 sx_s0))))) ?_
    exact tL_X5_alignToReference_35 hG hP  N _ _ _ _ _ h
  · have h := sx_pos c26 h
    exact sv_vret (pc := 31) dX5_alignToReference_31 rfl h hP
theorem dX5_plant_0 : decode cX5_plant 0 = .ok (.aload_n 1, 1) := by decide +kernel
theorem dX5_plant_1 : decode cX5_plant 1 = .ok (.getfield 204, 3) := by decide +kernel
theorem dX5_plant_4 : decode cX5_plant 4 = .ok (.iload_n 2, 1) := by decide +kernel
theorem dX5_plant_5 : decode cX5_plant 5 = .ok (.iload_n 3, 1) := by decide +kernel
theorem dX5_plant_6 : decode cX5_plant 6 = .ok (.lload 5, 2) := by decide +kernel
theorem dX5_plant_8 : decode cX5_plant 8 = .ok (.aload_n 0, 1) := by decide +kernel
theorem dX5_plant_9 : decode cX5_plant 9 = .ok (.getfield 12, 3) := by decide +kernel
theorem dX5_plant_12 : decode cX5_plant 12 = .ok (.getfield 210, 3) := by decide +kernel
theorem dX5_plant_15 : decode cX5_plant 15 = .ok (.i2l, 1) := by decide +kernel
theorem dX5_plant_16 : decode cX5_plant 16 = .ok (.lmul, 1) := by decide +kernel
theorem dX5_plant_17 : decode cX5_plant 17 = .ok (.ldc2_w 190, 3) := by decide +kernel
theorem dX5_plant_20 : decode cX5_plant 20 = .ok (.invokestatic 75, 3) := by decide +kernel
theorem dX5_plant_23 : decode cX5_plant 23 = .ok (.l2i, 1) := by decide +kernel
theorem dX5_plant_24 : decode cX5_plant 24 = .ok (.iadd, 1) := by decide +kernel
theorem dX5_plant_25 : decode cX5_plant 25 = .ok (.iastore, 1) := by decide +kernel
theorem dX5_plant_26 : decode cX5_plant 26 = .ok (.aload_n 1, 1) := by decide +kernel
theorem dX5_plant_27 : decode cX5_plant 27 = .ok (.getfield 207, 3) := by decide +kernel
theorem dX5_plant_30 : decode cX5_plant 30 = .ok (.iload_n 2, 1) := by decide +kernel
theorem dX5_plant_31 : decode cX5_plant 31 = .ok (.iload 4, 2) := by decide +kernel
theorem dX5_plant_33 : decode cX5_plant 33 = .ok (.lload 5, 2) := by decide +kernel
theorem dX5_plant_35 : decode cX5_plant 35 = .ok (.aload_n 0, 1) := by decide +kernel
theorem dX5_plant_36 : decode cX5_plant 36 = .ok (.getfield 12, 3) := by decide +kernel
theorem dX5_plant_39 : decode cX5_plant 39 = .ok (.getfield 213, 3) := by decide +kernel
theorem dX5_plant_42 : decode cX5_plant 42 = .ok (.i2l, 1) := by decide +kernel
theorem dX5_plant_43 : decode cX5_plant 43 = .ok (.lmul, 1) := by decide +kernel
theorem dX5_plant_44 : decode cX5_plant 44 = .ok (.ldc2_w 190, 3) := by decide +kernel
theorem dX5_plant_47 : decode cX5_plant 47 = .ok (.invokestatic 75, 3) := by decide +kernel
theorem dX5_plant_50 : decode cX5_plant 50 = .ok (.l2i, 1) := by decide +kernel
theorem dX5_plant_51 : decode cX5_plant 51 = .ok (.iadd, 1) := by decide +kernel
theorem dX5_plant_52 : decode cX5_plant 52 = .ok (.iastore, 1) := by decide +kernel
theorem dX5_plant_53 : decode cX5_plant 53 = .ok (.aload_n 1, 1) := by decide +kernel
theorem dX5_plant_54 : decode cX5_plant 54 = .ok (.getfield 198, 3) := by decide +kernel
theorem dX5_plant_57 : decode cX5_plant 57 = .ok (.iload_n 2, 1) := by decide +kernel
theorem dX5_plant_58 : decode cX5_plant 58 = .ok (.aload_n 1, 1) := by decide +kernel
theorem dX5_plant_59 : decode cX5_plant 59 = .ok (.getfield 204, 3) := by decide +kernel
theorem dX5_plant_62 : decode cX5_plant 62 = .ok (.iload_n 2, 1) := by decide +kernel
theorem dX5_plant_63 : decode cX5_plant 63 = .ok (.iaload, 1) := by decide +kernel
theorem dX5_plant_64 : decode cX5_plant 64 = .ok (.iastore, 1) := by decide +kernel
theorem dX5_plant_65 : decode cX5_plant 65 = .ok (.aload_n 1, 1) := by decide +kernel
theorem dX5_plant_66 : decode cX5_plant 66 = .ok (.getfield 201, 3) := by decide +kernel
theorem dX5_plant_69 : decode cX5_plant 69 = .ok (.iload_n 2, 1) := by decide +kernel
theorem dX5_plant_70 : decode cX5_plant 70 = .ok (.aload_n 1, 1) := by decide +kernel
theorem dX5_plant_71 : decode cX5_plant 71 = .ok (.getfield 207, 3) := by decide +kernel
theorem dX5_plant_74 : decode cX5_plant 74 = .ok (.iload_n 2, 1) := by decide +kernel
theorem dX5_plant_75 : decode cX5_plant 75 = .ok (.iaload, 1) := by decide +kernel
theorem dX5_plant_76 : decode cX5_plant 76 = .ok (.iastore, 1) := by decide +kernel
theorem dX5_plant_77 : decode cX5_plant 77 = .ok (.return_, 1) := by decide +kernel
def F_X5_plant (l1 : Nat) (l2 : Int32) (l3 : Int32) (l4 : Int32) (l5 : Int64) (V : sv_V) : Option sv_V := if lay l1 = .inl 8 then (cr l1 2).bind (fun b2 => (F_X11_nearest (l5 * ((V.1 70 0).toInt64)) (16384 : Int64) V).bind (fun (x6, V4) => (sv_len 0 b2).bind (fun n7 => if sx_in l2 n7 = true then sx_let (sv_I V4 b2 l2.toNatClampNeg (l3 + x6.toInt32)) (fun V10 => (cr l1 3).bind (fun b11 => (F_X11_nearest (l5 * ((V10.1 70 1).toInt64)) (16384 : Int64) V10).bind (fun (x15, V13) => (sv_len 0 b11).bind (fun n16 => if sx_in l2 n16 = true then sx_let (sv_I V13 b11 l2.toNatClampNeg (l4 + x15.toInt32)) (fun V19 => (cr l1 0).bind (fun b20 => if sx_in l2 n7 = true then (sv_len 0 b20).bind (fun n23 => if sx_in l2 n23 = true then sx_let (sv_I V19 b20 l2.toNatClampNeg (V19.1 b2 l2.toNatClampNeg)) (fun V26 => (cr l1 1).bind (fun b27 => if sx_in l2 n16 = true then (sv_len 0 b27).bind (fun n30 => if sx_in l2 n30 = true then sx_let (sv_I V26 b27 l2.toNatClampNeg (V26.1 b11 l2.toNatClampNeg)) (fun V33 => some V33) else none) else none)) else none) else none)) else none)))) else none))) else none
set_option maxRecDepth 20000 in
theorem t_X5_plant {g : sx_G} (hG : sx_Go g) {P : Option Value → sv_V → Prop} {Vr : sv_V} (hP : P none Vr) {l1 : Nat} {l2 : Int32} {l3 : Int32} {l4 : Int32} {l5 : Int64} {V : sv_V} (h : F_X5_plant l1 l2 l3 l4 l5 V = some Vr) : sv_N g qX5_plant 1 0 [(0, .ref 69), (1, .ref l1), (2, .int l2), (3, .int l3), (4, .int l4), (5, .long l5)] [] V P := by
  unfold F_X5_plant at h
  refine sx_aload_n (pc := 0) dX5_plant_0 sx_m1 ?_
  obtain ⟨g1, h⟩ := sx_grd h
  obtain ⟨b2, g3, h⟩ := sx_bnd h
  refine sv_getA (pc := 1) hG dX5_plant_1 f_5_204 g1 rfl g3 ?_
  refine sx_iload_n (pc := 4) dX5_plant_4 sx_m2 ?_
  refine sx_iload_n (pc := 5) dX5_plant_5 sx_m3 ?_
  refine sx_lload (pc := 6) dX5_plant_6 sx_m5 ?_
  refine sx_aload_n (pc := 8) dX5_plant_8 sx_m0 ?_
  refine sv_getO (pc := 9) hG dX5_plant_9 f_5_12 lay_69 rfl cr_69_1 ?_
  refine sv_getI (pc := 12) hG dX5_plant_12 f_5_210 lay_70 rfl ?_
  refine sx_i2l (pc := 15) dX5_plant_15 ?_
  refine sx_lmul (pc := 16) dX5_plant_16 ?_
  refine sx_ldc2 (pc := 17) dX5_plant_17 k_X5_190 ?_
  obtain ⟨⟨x6, V4⟩, g5, h⟩ := sx_bnd h
  refine sv_cN (pc := 20) (y := qX11_nearest) (o := (some (.long x6))) (as := [.long (l5 * ((V.1 70 0).toInt64)), .long (16384 : Int64)]) (V1 := V4) dX5_plant_20 n_X5_75 y0X11_nearest ysX11_nearest rfl (Nat.le_of_ble_eq_true rfl) (by decide) (Nat.le_of_ble_eq_true rfl) rfl rfl rfl (t_X11_nearest hG ⟨rfl, rfl⟩ g5) ?_
  refine sx_l2i (pc := 23) dX5_plant_23 ?_
  refine sx_iadd (pc := 24) dX5_plant_24 ?_
  obtain ⟨n7, g8, h⟩ := sx_bnd h
  obtain ⟨g9, h⟩ := sx_grd h
  obtain ⟨V10, hV10⟩ : ∃ z : sv_V, z = sv_I V4 b2 l2.toNatClampNeg (l3 + x6.toInt32) := ⟨_, rfl⟩
  have h := sx_letE hV10 h
  refine sv_iast (pc := 25) hG dX5_plant_25 (sv_len_e g8) g9 hV10 ?_
  refine sx_aload_n (pc := 26) dX5_plant_26 sx_m1 ?_
  obtain ⟨b11, g12, h⟩ := sx_bnd h
  refine sv_getA (pc := 27) hG dX5_plant_27 f_5_207 g1 rfl g12 ?_
  refine sx_iload_n (pc := 30) dX5_plant_30 sx_m2 ?_
  refine sx_iload (pc := 31) dX5_plant_31 sx_m4 ?_
  refine sx_lload (pc := 33) dX5_plant_33 sx_m5 ?_
  refine sx_aload_n (pc := 35) dX5_plant_35 sx_m0 ?_
  refine sv_getO (pc := 36) hG dX5_plant_36 f_5_12 lay_69 rfl cr_69_1 ?_
  refine sv_getI (pc := 39) hG dX5_plant_39 f_5_213 lay_70 rfl ?_
  refine sx_i2l (pc := 42) dX5_plant_42 ?_
  refine sx_lmul (pc := 43) dX5_plant_43 ?_
  refine sx_ldc2 (pc := 44) dX5_plant_44 k_X5_190 ?_
  obtain ⟨⟨x15, V13⟩, g14, h⟩ := sx_bnd h
  refine sv_cN (pc := 47) (y := qX11_nearest) (o := (some (.long x15))) (as := [.long (l5 * ((V10.1 70 1).toInt64)), .long (16384 : Int64)]) (V1 := V13) dX5_plant_47 n_X5_75 y0X11_nearest ysX11_nearest rfl (Nat.le_of_ble_eq_true rfl) (by decide) (Nat.le_of_ble_eq_true rfl) rfl rfl rfl (t_X11_nearest hG ⟨rfl, rfl⟩ g14) ?_
  refine sx_l2i (pc := 50) dX5_plant_50 ?_
  refine sx_iadd (pc := 51) dX5_plant_51 ?_
  obtain ⟨n16, g17, h⟩ := sx_bnd h
  obtain ⟨g18, h⟩ := sx_grd h
  obtain ⟨V19, hV19⟩ : ∃ z : sv_V, z = sv_I V13 b11 l2.toNatClampNeg (l4 + x15.toInt32) := ⟨_, rfl⟩
  have h := sx_letE hV19 h
  refine sv_iast (pc := 52) hG dX5_plant_52 (sv_len_e g17) g18 hV19 ?_
  refine sx_aload_n (pc := 53) dX5_plant_53 sx_m1 ?_
  obtain ⟨b20, g21, h⟩ := sx_bnd h
  refine sv_getA (pc := 54) hG dX5_plant_54 f_5_198 g1 rfl g21 ?_
  refine sx_iload_n (pc := 57) dX5_plant_57 sx_m2 ?_
  refine sx_aload_n (pc := 58) dX5_plant_58 sx_m1 ?_
  refine sv_getA (pc := 59) hG dX5_plant_59 f_5_204 g1 rfl g3 ?_
  refine sx_iload_n (pc := 62) dX5_plant_62 sx_m2 ?_
  obtain ⟨g22, h⟩ := sx_grd h
  refine sv_iald (pc := 63) hG dX5_plant_63 (sv_len_e g8) g22 ?_
  obtain ⟨n23, g24, h⟩ := sx_bnd h
  obtain ⟨g25, h⟩ := sx_grd h
  obtain ⟨V26, hV26⟩ : ∃ z : sv_V, z = sv_I V19 b20 l2.toNatClampNeg (V19.1 b2 l2.toNatClampNeg) := ⟨_, rfl⟩
  have h := sx_letE hV26 h
  refine sv_iast (pc := 64) hG dX5_plant_64 (sv_len_e g24) g25 hV26 ?_
  refine sx_aload_n (pc := 65) dX5_plant_65 sx_m1 ?_
  obtain ⟨b27, g28, h⟩ := sx_bnd h
  refine sv_getA (pc := 66) hG dX5_plant_66 f_5_201 g1 rfl g28 ?_
  refine sx_iload_n (pc := 69) dX5_plant_69 sx_m2 ?_
  refine sx_aload_n (pc := 70) dX5_plant_70 sx_m1 ?_
  refine sv_getA (pc := 71) hG dX5_plant_71 f_5_207 g1 rfl g12 ?_
  refine sx_iload_n (pc := 74) dX5_plant_74 sx_m2 ?_
  obtain ⟨g29, h⟩ := sx_grd h
  refine sv_iald (pc := 75) hG dX5_plant_75 (sv_len_e g17) g29 ?_
  obtain ⟨n30, g31, h⟩ := sx_bnd h
  obtain ⟨g32, h⟩ := sx_grd h
  obtain ⟨V33, hV33⟩ : ∃ z : sv_V, z = sv_I V26 b27 l2.toNatClampNeg (V26.1 b11 l2.toNatClampNeg) := ⟨_, rfl⟩
  have h := sx_letE hV33 h
  refine sv_iast (pc := 76) hG dX5_plant_76 (sv_len_e g31) g32 hV33 ?_
  exact sv_vret (pc := 77) dX5_plant_77 rfl h hP
theorem dX5_moveFromReference_0 : decode cX5_moveFromReference 0 = .ok (.aload_n 0, 1) := by decide +kernel
theorem dX5_moveFromReference_1 : decode cX5_moveFromReference 1 = .ok (.invokevirtual 242, 3) := by decide +kernel
theorem dX5_moveFromReference_4 : decode cX5_moveFromReference 4 = .ok (.istore_n 2, 1) := by decide +kernel
theorem dX5_moveFromReference_5 : decode cX5_moveFromReference 5 = .ok (.aload_n 0, 1) := by decide +kernel
theorem dX5_moveFromReference_6 : decode cX5_moveFromReference 6 = .ok (.invokevirtual 242, 3) := by decide +kernel
theorem dX5_moveFromReference_9 : decode cX5_moveFromReference 9 = .ok (.istore_n 3, 1) := by decide +kernel
theorem dX5_moveFromReference_10 : decode cX5_moveFromReference 10 = .ok (.aload_n 0, 1) := by decide +kernel
theorem dX5_moveFromReference_11 : decode cX5_moveFromReference 11 = .ok (.iconst 1, 1) := by decide +kernel
theorem dX5_moveFromReference_12 : decode cX5_moveFromReference 12 = .ok (.invokevirtual 255, 3) := by decide +kernel
theorem dX5_moveFromReference_15 : decode cX5_moveFromReference 15 = .ok (.astore 4, 2) := by decide +kernel
theorem dX5_moveFromReference_17 : decode cX5_moveFromReference 17 = .ok (.aload_n 0, 1) := by decide +kernel
theorem dX5_moveFromReference_18 : decode cX5_moveFromReference 18 = .ok (.iconst 0, 1) := by decide +kernel
theorem dX5_moveFromReference_19 : decode cX5_moveFromReference 19 = .ok (.invokevirtual 255, 3) := by decide +kernel
theorem dX5_moveFromReference_22 : decode cX5_moveFromReference 22 = .ok (.astore 5, 2) := by decide +kernel
theorem dX5_moveFromReference_24 : decode cX5_moveFromReference 24 = .ok (.aload_n 0, 1) := by decide +kernel
theorem dX5_moveFromReference_25 : decode cX5_moveFromReference 25 = .ok (.getfield 12, 3) := by decide +kernel
theorem dX5_moveFromReference_28 : decode cX5_moveFromReference 28 = .ok (.getfield 275, 3) := by decide +kernel
theorem dX5_moveFromReference_31 : decode cX5_moveFromReference 31 = .ok (.iconst 0, 1) := by decide +kernel
theorem dX5_moveFromReference_32 : decode cX5_moveFromReference 32 = .ok (.iaload, 1) := by decide +kernel
theorem dX5_moveFromReference_33 : decode cX5_moveFromReference 33 = .ok (.istore 6, 2) := by decide +kernel
theorem dX5_moveFromReference_35 : decode cX5_moveFromReference 35 = .ok (.aload_n 0, 1) := by decide +kernel
theorem dX5_moveFromReference_36 : decode cX5_moveFromReference 36 = .ok (.aload 4, 2) := by decide +kernel
theorem dX5_moveFromReference_38 : decode cX5_moveFromReference 38 = .ok (.iload_n 3, 1) := by decide +kernel
theorem dX5_moveFromReference_39 : decode cX5_moveFromReference 39 = .ok (.invokevirtual 259, 3) := by decide +kernel
theorem dX5_moveFromReference_42 : decode cX5_moveFromReference 42 = .ok (.ifCond .eq 14, 3) := by decide +kernel
theorem dX5_moveFromReference_45 : decode cX5_moveFromReference 45 = .ok (.aload_n 0, 1) := by decide +kernel
theorem dX5_moveFromReference_46 : decode cX5_moveFromReference 46 = .ok (.aload 5, 2) := by decide +kernel
theorem dX5_moveFromReference_48 : decode cX5_moveFromReference 48 = .ok (.iload 6, 2) := by decide +kernel
theorem dX5_moveFromReference_50 : decode cX5_moveFromReference 50 = .ok (.invokevirtual 259, 3) := by decide +kernel
theorem dX5_moveFromReference_53 : decode cX5_moveFromReference 53 = .ok (.ifCond .ne 4, 3) := by decide +kernel
theorem dX5_moveFromReference_56 : decode cX5_moveFromReference 56 = .ok (.return_, 1) := by decide +kernel
theorem dX5_moveFromReference_57 : decode cX5_moveFromReference 57 = .ok (.aload_n 0, 1) := by decide +kernel
theorem dX5_moveFromReference_58 : decode cX5_moveFromReference 58 = .ok (.getfield 12, 3) := by decide +kernel
theorem dX5_moveFromReference_61 : decode cX5_moveFromReference 61 = .ok (.getfield 172, 3) := by decide +kernel
theorem dX5_moveFromReference_64 : decode cX5_moveFromReference 64 = .ok (.iconst 1, 1) := by decide +kernel
theorem dX5_moveFromReference_65 : decode cX5_moveFromReference 65 = .ok (.iaload, 1) := by decide +kernel
theorem dX5_moveFromReference_66 : decode cX5_moveFromReference 66 = .ok (.ifCond .ne 28, 3) := by decide +kernel
theorem dX5_moveFromReference_69 : decode cX5_moveFromReference 69 = .ok (.aload_n 0, 1) := by decide +kernel
theorem dX5_moveFromReference_70 : decode cX5_moveFromReference 70 = .ok (.aload 4, 2) := by decide +kernel
theorem dX5_moveFromReference_72 : decode cX5_moveFromReference 72 = .ok (.iload_n 3, 1) := by decide +kernel
theorem dX5_moveFromReference_73 : decode cX5_moveFromReference 73 = .ok (.aload 5, 2) := by decide +kernel
theorem dX5_moveFromReference_75 : decode cX5_moveFromReference 75 = .ok (.getfield 204, 3) := by decide +kernel
theorem dX5_moveFromReference_78 : decode cX5_moveFromReference 78 = .ok (.iload 6, 2) := by decide +kernel
theorem dX5_moveFromReference_80 : decode cX5_moveFromReference 80 = .ok (.iaload, 1) := by decide +kernel
theorem dX5_moveFromReference_81 : decode cX5_moveFromReference 81 = .ok (.aload 5, 2) := by decide +kernel
theorem dX5_moveFromReference_83 : decode cX5_moveFromReference 83 = .ok (.getfield 207, 3) := by decide +kernel
theorem dX5_moveFromReference_86 : decode cX5_moveFromReference 86 = .ok (.iload 6, 2) := by decide +kernel
theorem dX5_moveFromReference_88 : decode cX5_moveFromReference 88 = .ok (.iaload, 1) := by decide +kernel
theorem dX5_moveFromReference_89 : decode cX5_moveFromReference 89 = .ok (.iload_n 2, 1) := by decide +kernel
theorem dX5_moveFromReference_90 : decode cX5_moveFromReference 90 = .ok (.i2l, 1) := by decide +kernel
theorem dX5_moveFromReference_91 : decode cX5_moveFromReference 91 = .ok (.invokevirtual 530, 3) := by decide +kernel
theorem dX5_moveFromReference_94 : decode cX5_moveFromReference 94 = .ok (.aload_n 0, 1) := by decide +kernel
theorem dX5_moveFromReference_95 : decode cX5_moveFromReference 95 = .ok (.aload 4, 2) := by decide +kernel
theorem dX5_moveFromReference_97 : decode cX5_moveFromReference 97 = .ok (.iload_n 3, 1) := by decide +kernel
theorem dX5_moveFromReference_98 : decode cX5_moveFromReference 98 = .ok (.iload_n 2, 1) := by decide +kernel
theorem dX5_moveFromReference_99 : decode cX5_moveFromReference 99 = .ok (.i2l, 1) := by decide +kernel
theorem dX5_moveFromReference_100 : decode cX5_moveFromReference 100 = .ok (.aload_n 0, 1) := by decide +kernel
theorem dX5_moveFromReference_101 : decode cX5_moveFromReference 101 = .ok (.aload 4, 2) := by decide +kernel
theorem dX5_moveFromReference_103 : decode cX5_moveFromReference 103 = .ok (.iload_n 3, 1) := by decide +kernel
theorem dX5_moveFromReference_104 : decode cX5_moveFromReference 104 = .ok (.aload 5, 2) := by decide +kernel
theorem dX5_moveFromReference_106 : decode cX5_moveFromReference 106 = .ok (.iload 6, 2) := by decide +kernel
theorem dX5_moveFromReference_108 : decode cX5_moveFromReference 108 = .ok (.invokevirtual 455, 3) := by decide +kernel
theorem dX5_moveFromReference_111 : decode cX5_moveFromReference 111 = .ok (.lsub, 1) := by decide +kernel
theorem dX5_moveFromReference_112 : decode cX5_moveFromReference 112 = .ok (.invokevirtual 461, 3) := by decide +kernel
theorem dX5_moveFromReference_115 : decode cX5_moveFromReference 115 = .ok (.aload_n 0, 1) := by decide +kernel
theorem dX5_moveFromReference_116 : decode cX5_moveFromReference 116 = .ok (.iload_n 3, 1) := by decide +kernel
theorem dX5_moveFromReference_117 : decode cX5_moveFromReference 117 = .ok (.iload_n 1, 1) := by decide +kernel
theorem dX5_moveFromReference_118 : decode cX5_moveFromReference 118 = .ok (.bipush 59, 2) := by decide +kernel
theorem dX5_moveFromReference_120 : decode cX5_moveFromReference 120 = .ok (.if_icmp .ne 7, 3) := by decide +kernel
theorem dX5_moveFromReference_123 : decode cX5_moveFromReference 123 = .ok (.iconst 1, 1) := by decide +kernel
theorem dX5_moveFromReference_124 : decode cX5_moveFromReference 124 = .ok (.goto 4, 3) := by decide +kernel
theorem dX5_moveFromReference_127 : decode cX5_moveFromReference 127 = .ok (.iconst 0, 1) := by decide +kernel
theorem dX5_moveFromReference_128 : decode cX5_moveFromReference 128 = .ok (.invokevirtual 534, 3) := by decide +kernel
theorem dX5_moveFromReference_131 : decode cX5_moveFromReference 131 = .ok (.return_, 1) := by decide +kernel
def B_X5_moveFromReference_128  (s1 : Int32) (s2 : Int32) (V : sv_V) : Option sv_V := (F_X5_noteReferences s1 s2 V).bind (fun V1 => some V1)
set_option maxRecDepth 20000 in
theorem tB_X5_moveFromReference_128 {g : sx_G} (hG : sx_Go g) {P : Option Value → sv_V → Prop} {Vr : sv_V} (hP : P none Vr)   {s1 : Int32} {s2 : Int32} {V : sv_V} (h : B_X5_moveFromReference_128  s1 s2 V = some Vr) : sv_N g qX5_moveFromReference 2 128 [] [.int s2, .int s1, .ref 69] V P := by
  unfold B_X5_moveFromReference_128 at h
  obtain ⟨V1, g2, h⟩ := sx_bnd h
  refine sv_cV (pc := 128) (y := qX5_noteReferences) (o := none) (as := [.int s1, .int s2]) (V1 := V1) hG dX5_moveFromReference_128 l_X5_534 y0X5_noteReferences yvX5_noteReferences rfl (Nat.le_of_ble_eq_true rfl) lay_69 kr_5 (by decide) (Nat.le_of_ble_eq_true rfl) rfl rfl rfl (t_X5_noteReferences hG ⟨rfl, rfl⟩ g2) ?_
  exact sv_vret (pc := 131) dX5_moveFromReference_131 rfl h hP
def B_X5_moveFromReference_94  (l1 : Int32) (l2 : Int32) (l3 : Int32) (l4 : Nat) (l5 : Nat) (l6 : Int32) (V : sv_V) : Option sv_V := (F_X5_longBetween l4 l3 l5 l6 V).bind (fun (x5, V3) => (F_X5_move l4 l3 (l2.toInt64 - x5) V3).bind (fun V6 => if l1 = (59 : Int32) then (B_X5_moveFromReference_128  l3 (1 : Int32) V6) else (B_X5_moveFromReference_128  l3 (0 : Int32) V6)))
set_option maxRecDepth 20000 in
theorem tB_X5_moveFromReference_94 {g : sx_G} (hG : sx_Go g) {P : Option Value → sv_V → Prop} {Vr : sv_V} (hP : P none Vr)   {l1 : Int32} {l2 : Int32} {l3 : Int32} {l4 : Nat} {l5 : Nat} {l6 : Int32} {V : sv_V} (h : B_X5_moveFromReference_94  l1 l2 l3 l4 l5 l6 V = some Vr) : sv_N g qX5_moveFromReference 2 94 [(0, .ref 69), (1, .int l1), (2, .int l2), (3, .int l3), (4, .ref l4), (5, .ref l5), (6, .int l6)] [] V P := by
  unfold B_X5_moveFromReference_94 at h
  refine sx_aload_n (pc := 94) dX5_moveFromReference_94 sx_m0 ?_
  refine sx_aload (pc := 95) dX5_moveFromReference_95 sx_m4 ?_
  refine sx_iload_n (pc := 97) dX5_moveFromReference_97 sx_m3 ?_
  refine sx_iload_n (pc := 98) dX5_moveFromReference_98 sx_m2 ?_
  refine sx_i2l (pc := 99) dX5_moveFromReference_99 ?_
  refine sx_aload_n (pc := 100) dX5_moveFromReference_100 sx_m0 ?_
  refine sx_aload (pc := 101) dX5_moveFromReference_101 sx_m4 ?_
  refine sx_iload_n (pc := 103) dX5_moveFromReference_103 sx_m3 ?_
  refine sx_aload (pc := 104) dX5_moveFromReference_104 sx_m5 ?_
  refine sx_iload (pc := 106) dX5_moveFromReference_106 sx_m6 ?_
  obtain ⟨⟨x5, V3⟩, g4, h⟩ := sx_bnd h
  refine sv_cV (pc := 108) (y := qX5_longBetween) (o := (some (.long x5))) (as := [.ref l4, .int l3, .ref l5, .int l6]) (V1 := V3) hG dX5_moveFromReference_108 l_X5_455 y0X5_longBetween yvX5_longBetween rfl (Nat.le_of_ble_eq_true rfl) lay_69 kr_5 (by decide) (Nat.le_of_ble_eq_true rfl) rfl rfl rfl (t_X5_longBetween hG ⟨rfl, rfl⟩ g4) ?_
  refine sx_lsub (pc := 111) dX5_moveFromReference_111 ?_
  obtain ⟨V6, g7, h⟩ := sx_bnd h
  refine sv_cV (pc := 112) (y := qX5_move) (o := none) (as := [.ref l4, .int l3, .long (l2.toInt64 - x5)]) (V1 := V6) hG dX5_moveFromReference_112 l_X5_461 y0X5_move yvX5_move rfl (Nat.le_of_ble_eq_true rfl) lay_69 kr_5 (by decide) (Nat.le_of_ble_eq_true rfl) rfl rfl rfl (t_X5_move hG ⟨rfl, rfl⟩ g7) ?_
  refine sx_aload_n (pc := 115) dX5_moveFromReference_115 sx_m0 ?_
  refine sx_iload_n (pc := 116) dX5_moveFromReference_116 sx_m3 ?_
  refine sx_iload_n (pc := 117) dX5_moveFromReference_117 sx_m1 ?_
  refine sx_bipush (pc := 118) (v := 59) dX5_moveFromReference_118 (by decide) ?_
  refine sx_icmp_ne (pc := 120) (tgt := 127) dX5_moveFromReference_120 (by decide) (fun c8 => ?_) (fun c8 => ?_)
  · have h := sx_neg c8 h
    refine sx_iconst (pc := 127) (v := 0) dX5_moveFromReference_127 (by decide) ?_
    refine sx_wk sx_s0 ?_
    exact tB_X5_moveFromReference_128 hG hP  h
  · have h := sx_pos c8 h
    refine sx_iconst (pc := 123) (v := 1) dX5_moveFromReference_123 (by decide) ?_
    refine sx_goto (pc := 124) (tgt := 128) dX5_moveFromReference_124 (by decide) ?_
    refine sx_wk sx_s0 ?_
    exact tB_X5_moveFromReference_128 hG hP  h
def F_X5_moveFromReference (l1 : Int32) (V : sv_V) : Option sv_V := (F_X5_pop  V).bind (fun (x11, V9) => (F_X5_pop  V9).bind (fun (x14, V12) => (F_X5_zone (1 : Int32) V12).bind (fun (x17, V15) => (F_X5_zone (0 : Int32) V15).bind (fun (x20, V18) => sx_let (V18.1 71 (0 : Int32).toNatClampNeg) (fun x21 => (F_X5_isThere x17 x14 V18).bind (fun (x24, V22) => if x24 = 0 then (some V22) else ((F_X5_isThere x20 x21 V22).bind (fun (x28, V26) => if x28 = 0 then (some V26) else (if (V26.1 72 (1 : Int32).toNatClampNeg) = 0 then (if lay x20 = .inl 8 then (cr x20 2).bind (fun b32 => (sv_len 0 b32).bind (fun n34 => if sx_in x21 n34 = true then (cr x20 3).bind (fun b37 => (sv_len 0 b37).bind (fun n39 => if sx_in x21 n39 = true then (F_X5_plant x17 x14 (V26.1 b32 x21.toNatClampNeg) (V26.1 b37 x21.toNatClampNeg) x11.toInt64 V26).bind (fun V42 => B_X5_moveFromReference_94  l1 x11 x14 x17 x20 x21 V42) else none)) else none)) else none) else (B_X5_moveFromReference_94  l1 x11 x14 x17 x20 x21 V26))))))))))
set_option maxRecDepth 20000 in
theorem t_X5_moveFromReference {g : sx_G} (hG : sx_Go g) {P : Option Value → sv_V → Prop} {Vr : sv_V} (hP : P none Vr) {l1 : Int32} {V : sv_V} (h : F_X5_moveFromReference l1 V = some Vr) : sv_N g qX5_moveFromReference 2 0 [(0, .ref 69), (1, .int l1)] [] V P := by
  unfold F_X5_moveFromReference at h
  refine sx_aload_n (pc := 0) dX5_moveFromReference_0 sx_m0 ?_
  obtain ⟨⟨x11, V9⟩, g10, h⟩ := sx_bnd h
  refine sv_cV (pc := 1) (y := qX5_pop) (o := (some (.int x11))) (as := []) (V1 := V9) hG dX5_moveFromReference_1 l_X5_242 y0X5_pop yvX5_pop rfl (Nat.le_of_ble_eq_true rfl) lay_69 kr_5 (by decide) (Nat.le_of_ble_eq_true rfl) rfl rfl rfl (t_X5_pop hG ⟨rfl, rfl⟩ g10) ?_
  refine sx_istore_n (pc := 4) (lo' := [(2, .int x11), (0, .ref 69), (1, .int l1)]) dX5_moveFromReference_4 (by decide) rfl ?_
  refine sx_aload_n (pc := 5) dX5_moveFromReference_5 sx_m1 ?_
  obtain ⟨⟨x14, V12⟩, g13, h⟩ := sx_bnd h
  refine sv_cV (pc := 6) (y := qX5_pop) (o := (some (.int x14))) (as := []) (V1 := V12) hG dX5_moveFromReference_6 l_X5_242 y0X5_pop yvX5_pop rfl (Nat.le_of_ble_eq_true rfl) lay_69 kr_5 (by decide) (Nat.le_of_ble_eq_true rfl) rfl rfl rfl (t_X5_pop hG ⟨rfl, rfl⟩ g13) ?_
  refine sx_istore_n (pc := 9) (lo' := [(3, .int x14), (2, .int x11), (0, .ref 69), (1, .int l1)]) dX5_moveFromReference_9 (by decide) rfl ?_
  refine sx_aload_n (pc := 10) dX5_moveFromReference_10 sx_m2 ?_
  refine sx_iconst (pc := 11) (v := 1) dX5_moveFromReference_11 (by decide) ?_
  obtain ⟨⟨x17, V15⟩, g16, h⟩ := sx_bnd h
  refine sv_cV (pc := 12) (y := qX5_zone) (o := (some (.ref x17))) (as := [.int (1 : Int32)]) (V1 := V15) hG dX5_moveFromReference_12 l_X5_255 y0X5_zone yvX5_zone rfl (Nat.le_of_ble_eq_true rfl) lay_69 kr_5 (by decide) (Nat.le_of_ble_eq_true rfl) rfl rfl rfl (t_X5_zone hG ⟨rfl, rfl⟩ g16) ?_
  refine sx_astore (pc := 15) (lo' := [(4, .ref x17), (3, .int x14), (2, .int x11), (0, .ref 69), (1, .int l1)]) dX5_moveFromReference_15 (by decide) rfl ?_
  refine sx_aload_n (pc := 17) dX5_moveFromReference_17 sx_m3 ?_
  refine sx_iconst (pc := 18) (v := 0) dX5_moveFromReference_18 (by decide) ?_
  obtain ⟨⟨x20, V18⟩, g19, h⟩ := sx_bnd h
  refine sv_cV (pc := 19) (y := qX5_zone) (o := (some (.ref x20))) (as := [.int (0 : Int32)]) (V1 := V18) hG dX5_moveFromReference_19 l_X5_255 y0X5_zone yvX5_zone rfl (Nat.le_of_ble_eq_true rfl) lay_69 kr_5 (by decide) (Nat.le_of_ble_eq_true rfl) rfl rfl rfl (t_X5_zone hG ⟨rfl, rfl⟩ g19) ?_
  refine sx_astore (pc := 22) (lo' := [(5, .ref x20), (4, .ref x17), (3, .int x14), (2, .int x11), (0, .ref 69), (1, .int l1)]) dX5_moveFromReference_22 (by decide) rfl ?_
  refine sx_aload_n (pc := 24) dX5_moveFromReference_24 sx_m4 ?_
  refine sv_getO (pc := 25) hG dX5_moveFromReference_25 f_5_12 lay_69 rfl cr_69_1 ?_
  refine sv_getA (pc := 28) hG dX5_moveFromReference_28 f_5_275 lay_70 rfl cr_70_6 ?_
  refine sx_iconst (pc := 31) (v := 0) dX5_moveFromReference_31 (by decide) ?_
  refine sv_iald (pc := 32) hG dX5_moveFromReference_32 lay_71 (by decide) ?_
  refine sv_tI (fun x21 hx21 => ?_)
  have h := sx_letE hx21 h
  refine sx_istore (pc := 33) (lo' := [(6, .int x21), (5, .ref x20), (4, .ref x17), (3, .int x14), (2, .int x11), (0, .ref 69), (1, .int l1)]) dX5_moveFromReference_33 (by decide) rfl ?_
  refine sx_aload_n (pc := 35) dX5_moveFromReference_35 sx_m5 ?_
  refine sx_aload (pc := 36) dX5_moveFromReference_36 sx_m2 ?_
  refine sx_iload_n (pc := 38) dX5_moveFromReference_38 sx_m3 ?_
  obtain ⟨⟨x24, V22⟩, g23, h⟩ := sx_bnd h
  refine sv_cV (pc := 39) (y := qX5_isThere) (o := (some (.int x24))) (as := [.ref x17, .int x14]) (V1 := V22) hG dX5_moveFromReference_39 l_X5_259 y0X5_isThere yvX5_isThere rfl (Nat.le_of_ble_eq_true rfl) lay_69 kr_5 (by decide) (Nat.le_of_ble_eq_true rfl) rfl rfl rfl (t_X5_isThere hG ⟨rfl, rfl⟩ g23) ?_
  refine sx_if_eq (pc := 42) (tgt := 56) dX5_moveFromReference_42 (by decide) (fun c25 => ?_) (fun c25 => ?_)
  · have h := sx_pos c25 h
    exact sv_vret (pc := 56) dX5_moveFromReference_56 rfl h hP
  · have h := sx_neg c25 h
    refine sx_aload_n (pc := 45) dX5_moveFromReference_45 sx_m5 ?_
    refine sx_aload (pc := 46) dX5_moveFromReference_46 sx_m1 ?_
    refine sx_iload (pc := 48) dX5_moveFromReference_48 sx_m0 ?_
    obtain ⟨⟨x28, V26⟩, g27, h⟩ := sx_bnd h
    refine sv_cV (pc := 50) (y := qX5_isThere) (o := (some (.int x28))) (as := [.ref x20, .int x21]) (V1 := V26) hG dX5_moveFromReference_50 l_X5_259 y0X5_isThere yvX5_isThere rfl (Nat.le_of_ble_eq_true rfl) lay_69 kr_5 (by decide) (Nat.le_of_ble_eq_true rfl) rfl rfl rfl (t_X5_isThere hG ⟨rfl, rfl⟩ g27) ?_
    refine sx_if_ne (pc := 53) (tgt := 57) dX5_moveFromReference_53 (by decide) (fun c29 => ?_) (fun c29 => ?_)
    · have h := sx_neg c29 h
      refine sx_aload_n (pc := 57) dX5_moveFromReference_57 sx_m5 ?_
      refine sv_getO (pc := 58) hG dX5_moveFromReference_58 f_5_12 lay_69 rfl cr_69_1 ?_
      refine sv_getA (pc := 61) hG dX5_moveFromReference_61 f_5_172 lay_70 rfl cr_70_7 ?_
      refine sx_iconst (pc := 64) (v := 1) dX5_moveFromReference_64 (by decide) ?_
      refine sv_iald (pc := 65) hG dX5_moveFromReference_65 lay_72 (by decide) ?_
      refine sx_if_ne (pc := 66) (tgt := 94) dX5_moveFromReference_66 (by decide) (fun c30 => ?_) (fun c30 => ?_)
      · have h := sx_neg c30 h
        refine sx_wk (sx_s1 sx_m5 (sx_s1 sx_m6 (sx_s1 sx_m4 (sx_s1 sx_m3 (sx_s1 sx_m2 (sx_s1 sx_m1 (sx_s1 sx_m0 sx_s0))))))) ?_
        exact tB_X5_moveFromReference_94 hG hP  h
      · have h := sx_pos c30 h
        refine sx_aload_n (pc := 69) dX5_moveFromReference_69 sx_m5 ?_
        refine sx_aload (pc := 70) dX5_moveFromReference_70 sx_m2 ?_
        refine sx_iload_n (pc := 72) dX5_moveFromReference_72 sx_m3 ?_
        refine sx_aload (pc := 73) dX5_moveFromReference_73 sx_m1 ?_
        obtain ⟨g31, h⟩ := sx_grd h
        obtain ⟨b32, g33, h⟩ := sx_bnd h
        refine sv_getA (pc := 75) hG dX5_moveFromReference_75 f_5_204 g31 rfl g33 ?_
        refine sx_iload (pc := 78) dX5_moveFromReference_78 sx_m0 ?_
        obtain ⟨n34, g35, h⟩ := sx_bnd h
        obtain ⟨g36, h⟩ := sx_grd h
        refine sv_iald (pc := 80) hG dX5_moveFromReference_80 (sv_len_e g35) g36 ?_
        refine sx_aload (pc := 81) dX5_moveFromReference_81 sx_m1 ?_
        obtain ⟨b37, g38, h⟩ := sx_bnd h
        refine sv_getA (pc := 83) hG dX5_moveFromReference_83 f_5_207 g31 rfl g38 ?_
        refine sx_iload (pc := 86) dX5_moveFromReference_86 sx_m0 ?_
        obtain ⟨n39, g40, h⟩ := sx_bnd h
        obtain ⟨g41, h⟩ := sx_grd h
        refine sv_iald (pc := 88) hG dX5_moveFromReference_88 (sv_len_e g40) g41 ?_
        refine sx_iload_n (pc := 89) dX5_moveFromReference_89 sx_m4 ?_
        refine sx_i2l (pc := 90) dX5_moveFromReference_90 ?_
        obtain ⟨V42, g43, h⟩ := sx_bnd h
        refine sv_cV (pc := 91) (y := qX5_plant) (o := none) (as := [.ref x17, .int x14, .int (V26.1 b32 x21.toNatClampNeg), .int (V26.1 b37 x21.toNatClampNeg), .long x11.toInt64]) (V1 := V42) hG dX5_moveFromReference_91 l_X5_530 y0X5_plant yvX5_plant rfl (Nat.le_of_ble_eq_true rfl) lay_69 kr_5 (by decide) (Nat.le_of_ble_eq_true rfl) rfl rfl rfl (t_X5_plant hG ⟨rfl, rfl⟩ g43) ?_
        refine sx_wk (sx_s1 sx_m5 (sx_s1 sx_m6 (sx_s1 sx_m4 (sx_s1 sx_m3 (sx_s1 sx_m2 (sx_s1 sx_m1 (sx_s1 sx_m0 sx_s0))))))) ?_
        exact tB_X5_moveFromReference_94 hG hP  h
    · have h := sx_pos c29 h
      exact sv_vret (pc := 56) dX5_moveFromReference_56 rfl h hP
theorem dX5_orSingle_0 : decode cX5_orSingle 0 = .ok (.aload_n 0, 1) := by decide +kernel
theorem dX5_orSingle_1 : decode cX5_orSingle 1 = .ok (.getfield 49, 3) := by decide +kernel
theorem dX5_orSingle_4 : decode cX5_orSingle 4 = .ok (.getfield 272, 3) := by decide +kernel
theorem dX5_orSingle_7 : decode cX5_orSingle 7 = .ok (.iconst 1, 1) := by decide +kernel
theorem dX5_orSingle_8 : decode cX5_orSingle 8 = .ok (.iaload, 1) := by decide +kernel
theorem dX5_orSingle_9 : decode cX5_orSingle 9 = .ok (.i2l, 1) := by decide +kernel
theorem dX5_orSingle_10 : decode cX5_orSingle 10 = .ok (.invokestatic 538, 3) := by decide +kernel
theorem dX5_orSingle_13 : decode cX5_orSingle 13 = .ok (.lstore_n 3, 1) := by decide +kernel
theorem dX5_orSingle_14 : decode cX5_orSingle 14 = .ok (.lload_n 1, 1) := by decide +kernel
theorem dX5_orSingle_15 : decode cX5_orSingle 15 = .ok (.invokestatic 538, 3) := by decide +kernel
theorem dX5_orSingle_18 : decode cX5_orSingle 18 = .ok (.lload_n 3, 1) := by decide +kernel
theorem dX5_orSingle_19 : decode cX5_orSingle 19 = .ok (.lsub, 1) := by decide +kernel
theorem dX5_orSingle_20 : decode cX5_orSingle 20 = .ok (.invokestatic 538, 3) := by decide +kernel
theorem dX5_orSingle_23 : decode cX5_orSingle 23 = .ok (.aload_n 0, 1) := by decide +kernel
theorem dX5_orSingle_24 : decode cX5_orSingle 24 = .ok (.getfield 49, 3) := by decide +kernel
theorem dX5_orSingle_27 : decode cX5_orSingle 27 = .ok (.getfield 272, 3) := by decide +kernel
theorem dX5_orSingle_30 : decode cX5_orSingle 30 = .ok (.iconst 2, 1) := by decide +kernel
theorem dX5_orSingle_31 : decode cX5_orSingle 31 = .ok (.iaload, 1) := by decide +kernel
theorem dX5_orSingle_32 : decode cX5_orSingle 32 = .ok (.i2l, 1) := by decide +kernel
theorem dX5_orSingle_33 : decode cX5_orSingle 33 = .ok (.lcmp, 1) := by decide +kernel
theorem dX5_orSingle_34 : decode cX5_orSingle 34 = .ok (.ifCond .ge 16, 3) := by decide +kernel
theorem dX5_orSingle_37 : decode cX5_orSingle 37 = .ok (.lload_n 1, 1) := by decide +kernel
theorem dX5_orSingle_38 : decode cX5_orSingle 38 = .ok (.lconst 0, 1) := by decide +kernel
theorem dX5_orSingle_39 : decode cX5_orSingle 39 = .ok (.lcmp, 1) := by decide +kernel
theorem dX5_orSingle_40 : decode cX5_orSingle 40 = .ok (.ifCond .ge 8, 3) := by decide +kernel
theorem dX5_orSingle_43 : decode cX5_orSingle 43 = .ok (.lload_n 3, 1) := by decide +kernel
theorem dX5_orSingle_44 : decode cX5_orSingle 44 = .ok (.lneg, 1) := by decide +kernel
theorem dX5_orSingle_45 : decode cX5_orSingle 45 = .ok (.goto 4, 3) := by decide +kernel
theorem dX5_orSingle_48 : decode cX5_orSingle 48 = .ok (.lload_n 3, 1) := by decide +kernel
theorem dX5_orSingle_49 : decode cX5_orSingle 49 = .ok (.lreturn, 1) := by decide +kernel
theorem dX5_orSingle_50 : decode cX5_orSingle 50 = .ok (.lload_n 1, 1) := by decide +kernel
theorem dX5_orSingle_51 : decode cX5_orSingle 51 = .ok (.lreturn, 1) := by decide +kernel
def F_X5_orSingle (l1 : Int64) (V : sv_V) : Option (Int64 × sv_V) := (V.2.2 69 6).bind (fun b1 => if lay b1 = .inl 7 then (cr b1 5).bind (fun b4 => (sv_len 0 b4).bind (fun n6 => if sx_in (1 : Int32) n6 = true then (F_J9_abs_067f4 ((V.1 b4 (1 : Int32).toNatClampNeg).toInt64) V).bind (fun (x11, V9) => (F_J9_abs_067f4 l1 V9).bind (fun (x14, V12) => (F_J9_abs_067f4 (x14 - x11) V12).bind (fun (x17, V15) => (V15.2.2 69 6).bind (fun b18 => if lay b18 = .inl 7 then (cr b18 5).bind (fun b21 => (sv_len 0 b21).bind (fun n23 => if sx_in (2 : Int32) n23 = true then if 0 ≤ (lg_cmp x17 ((V15.1 b21 (2 : Int32).toNatClampNeg).toInt64)) then (some (l1, V15)) else (if 0 ≤ (lg_cmp l1 (0 : Int64)) then (some (x11, V15)) else (some (-x11, V15))) else none)) else none)))) else none)) else none)
set_option maxRecDepth 20000 in
theorem t_X5_orSingle {g : sx_G} (hG : sx_Go g) {P : Option Value → sv_V → Prop} {r : Int64} {Vr : sv_V} (hP : P (some (.long r)) Vr) {l1 : Int64} {V : sv_V} (h : F_X5_orSingle l1 V = some (r, Vr)) : sv_N g qX5_orSingle 1 0 [(0, .ref 69), (1, .long l1)] [] V P := by
  unfold F_X5_orSingle at h
  refine sx_aload_n (pc := 0) dX5_orSingle_0 sx_m0 ?_
  obtain ⟨b1, g2, h⟩ := sx_bnd h
  refine sv_getV (pc := 1) hG dX5_orSingle_1 f_5_49 lay_69 rfl rfl g2 ?_
  obtain ⟨g3, h⟩ := sx_grd h
  obtain ⟨b4, g5, h⟩ := sx_bnd h
  refine sv_getA (pc := 4) hG dX5_orSingle_4 f_5_272 g3 rfl g5 ?_
  refine sx_iconst (pc := 7) (v := 1) dX5_orSingle_7 (by decide) ?_
  obtain ⟨n6, g7, h⟩ := sx_bnd h
  obtain ⟨g8, h⟩ := sx_grd h
  refine sv_iald (pc := 8) hG dX5_orSingle_8 (sv_len_e g7) g8 ?_
  refine sx_i2l (pc := 9) dX5_orSingle_9 ?_
  obtain ⟨⟨x11, V9⟩, g10, h⟩ := sx_bnd h
  refine sv_cS (pc := 10) (y := qJ9_abs_067f4) (o := (some (.long x11))) (as := [.long ((V.1 b4 (1 : Int32).toNatClampNeg).toInt64)]) (V1 := V9) dX5_orSingle_10 l_X5_538 y0J9_abs_067f4 ysJ9_abs_067f4 rfl (Nat.le_of_ble_eq_true rfl) (by decide) (Nat.le_of_ble_eq_true rfl) rfl rfl rfl (t_J9_abs_067f4 hG ⟨rfl, rfl⟩ g10) ?_
  refine sx_lstore_n (pc := 13) (lo' := [(3, .long x11), (0, .ref 69), (1, .long l1)]) dX5_orSingle_13 (by decide) rfl ?_
  refine sx_lload_n (pc := 14) dX5_orSingle_14 sx_m2 ?_
  obtain ⟨⟨x14, V12⟩, g13, h⟩ := sx_bnd h
  refine sv_cS (pc := 15) (y := qJ9_abs_067f4) (o := (some (.long x14))) (as := [.long l1]) (V1 := V12) dX5_orSingle_15 l_X5_538 y0J9_abs_067f4 ysJ9_abs_067f4 rfl (Nat.le_of_ble_eq_true rfl) (by decide) (Nat.le_of_ble_eq_true rfl) rfl rfl rfl (t_J9_abs_067f4 hG ⟨rfl, rfl⟩ g13) ?_
  refine sx_lload_n (pc := 18) dX5_orSingle_18 sx_m0 ?_
  refine sx_lsub (pc := 19) dX5_orSingle_19 ?_
  obtain ⟨⟨x17, V15⟩, g16, h⟩ := sx_bnd h
  refine sv_cS (pc := 20) (y := qJ9_abs_067f4) (o := (some (.long x17))) (as := [.long (x14 - x11)]) (V1 := V15) dX5_orSingle_20 l_X5_538 y0J9_abs_067f4 ysJ9_abs_067f4 rfl (Nat.le_of_ble_eq_true rfl) (by decide) (Nat.le_of_ble_eq_true rfl) rfl rfl rfl (t_J9_abs_067f4 hG ⟨rfl, rfl⟩ g16) ?_
  refine sx_aload_n (pc := 23) dX5_orSingle_23 sx_m1 ?_
  obtain ⟨b18, g19, h⟩ := sx_bnd h
  refine sv_getV (pc := 24) hG dX5_orSingle_24 f_5_49 lay_69 rfl rfl g19 ?_
  obtain ⟨g20, h⟩ := sx_grd h
  obtain ⟨b21, g22, h⟩ := sx_bnd h
  refine sv_getA (pc := 27) hG dX5_orSingle_27 f_5_272 g20 rfl g22 ?_
  refine sx_iconst (pc := 30) (v := 2) dX5_orSingle_30 (by decide) ?_
  obtain ⟨n23, g24, h⟩ := sx_bnd h
  obtain ⟨g25, h⟩ := sx_grd h
  refine sv_iald (pc := 31) hG dX5_orSingle_31 (sv_len_e g24) g25 ?_
  refine sx_i2l (pc := 32) dX5_orSingle_32 ?_
  refine sx_lcmp (pc := 33) dX5_orSingle_33 ?_
  refine sx_if_ge (pc := 34) (tgt := 50) dX5_orSingle_34 (by decide) (fun c26 => ?_) (fun c26 => ?_)
  · have h := sx_pos c26 h
    refine sx_lload_n (pc := 50) dX5_orSingle_50 sx_m2 ?_
    exact sv_lret (pc := 51) dX5_orSingle_51 rfl h hP
  · have h := sx_neg c26 h
    refine sx_lload_n (pc := 37) dX5_orSingle_37 sx_m2 ?_
    refine sx_lconst (pc := 38) (v := 0) dX5_orSingle_38 rfl ?_
    refine sx_lcmp (pc := 39) dX5_orSingle_39 ?_
    refine sx_if_ge (pc := 40) (tgt := 48) dX5_orSingle_40 (by decide) (fun c27 => ?_) (fun c27 => ?_)
    · have h := sx_pos c27 h
      refine sx_lload_n (pc := 48) dX5_orSingle_48 sx_m0 ?_
      exact sv_lret (pc := 49) dX5_orSingle_49 rfl h hP
    · have h := sx_neg c27 h
      refine sx_lload_n (pc := 43) dX5_orSingle_43 sx_m0 ?_
      refine sx_lneg (pc := 44) dX5_orSingle_44 ?_
      refine sx_goto (pc := 45) (tgt := 49) dX5_orSingle_45 (by decide) ?_
      exact sv_lret (pc := 49) dX5_orSingle_49 rfl h hP
theorem dX5_atLeast_0 : decode cX5_atLeast 0 = .ok (.aload_n 0, 1) := by decide +kernel
theorem dX5_atLeast_1 : decode cX5_atLeast 1 = .ok (.getfield 49, 3) := by decide +kernel
theorem dX5_atLeast_4 : decode cX5_atLeast 4 = .ok (.getfield 272, 3) := by decide +kernel
theorem dX5_atLeast_7 : decode cX5_atLeast 7 = .ok (.iconst 3, 1) := by decide +kernel
theorem dX5_atLeast_8 : decode cX5_atLeast 8 = .ok (.iaload, 1) := by decide +kernel
theorem dX5_atLeast_9 : decode cX5_atLeast 9 = .ok (.i2l, 1) := by decide +kernel
theorem dX5_atLeast_10 : decode cX5_atLeast 10 = .ok (.lstore 5, 2) := by decide +kernel
theorem dX5_atLeast_12 : decode cX5_atLeast 12 = .ok (.lload_n 3, 1) := by decide +kernel
theorem dX5_atLeast_13 : decode cX5_atLeast 13 = .ok (.lconst 0, 1) := by decide +kernel
theorem dX5_atLeast_14 : decode cX5_atLeast 14 = .ok (.lcmp, 1) := by decide +kernel
theorem dX5_atLeast_15 : decode cX5_atLeast 15 = .ok (.ifCond .lt 12, 3) := by decide +kernel
theorem dX5_atLeast_18 : decode cX5_atLeast 18 = .ok (.lload_n 1, 1) := by decide +kernel
theorem dX5_atLeast_19 : decode cX5_atLeast 19 = .ok (.lload 5, 2) := by decide +kernel
theorem dX5_atLeast_21 : decode cX5_atLeast 21 = .ok (.invokestatic 424, 3) := by decide +kernel
theorem dX5_atLeast_24 : decode cX5_atLeast 24 = .ok (.goto 10, 3) := by decide +kernel
theorem dX5_atLeast_27 : decode cX5_atLeast 27 = .ok (.lload_n 1, 1) := by decide +kernel
theorem dX5_atLeast_28 : decode cX5_atLeast 28 = .ok (.lload 5, 2) := by decide +kernel
theorem dX5_atLeast_30 : decode cX5_atLeast 30 = .ok (.lneg, 1) := by decide +kernel
theorem dX5_atLeast_31 : decode cX5_atLeast 31 = .ok (.invokestatic 427, 3) := by decide +kernel
theorem dX5_atLeast_34 : decode cX5_atLeast 34 = .ok (.lreturn, 1) := by decide +kernel
def F_X5_atLeast (l1 : Int64) (l3 : Int64) (V : sv_V) : Option (Int64 × sv_V) := (V.2.2 69 6).bind (fun b1 => if lay b1 = .inl 7 then (cr b1 5).bind (fun b4 => (sv_len 0 b4).bind (fun n6 => if sx_in (3 : Int32) n6 = true then sx_let ((V.1 b4 (3 : Int32).toNatClampNeg).toInt64) (fun x9 => if (lg_cmp l3 (0 : Int64)) < 0 then ((F_J9_min_f86c9 l1 (-x9) V).bind (fun (x13, V11) => some (x13, V11))) else ((F_J9_max_f86c9 l1 x9 V).bind (fun (x16, V14) => some (x16, V14)))) else none)) else none)
set_option maxRecDepth 20000 in
theorem t_X5_atLeast {g : sx_G} (hG : sx_Go g) {P : Option Value → sv_V → Prop} {r : Int64} {Vr : sv_V} (hP : P (some (.long r)) Vr) {l1 : Int64} {l3 : Int64} {V : sv_V} (h : F_X5_atLeast l1 l3 V = some (r, Vr)) : sv_N g qX5_atLeast 1 0 [(0, .ref 69), (1, .long l1), (3, .long l3)] [] V P := by
  unfold F_X5_atLeast at h
  refine sx_aload_n (pc := 0) dX5_atLeast_0 sx_m0 ?_
  obtain ⟨b1, g2, h⟩ := sx_bnd h
  refine sv_getV (pc := 1) hG dX5_atLeast_1 f_5_49 lay_69 rfl rfl g2 ?_
  obtain ⟨g3, h⟩ := sx_grd h
  obtain ⟨b4, g5, h⟩ := sx_bnd h
  refine sv_getA (pc := 4) hG dX5_atLeast_4 f_5_272 g3 rfl g5 ?_
  refine sx_iconst (pc := 7) (v := 3) dX5_atLeast_7 (by decide) ?_
  obtain ⟨n6, g7, h⟩ := sx_bnd h
  obtain ⟨g8, h⟩ := sx_grd h
  refine sv_iald (pc := 8) hG dX5_atLeast_8 (sv_len_e g7) g8 ?_
  refine sx_i2l (pc := 9) dX5_atLeast_9 ?_
  refine sv_tJ (fun x9 hx9 => ?_)
  have h := sx_letE hx9 h
  refine sx_lstore (pc := 10) (lo' := [(5, .long x9), (0, .ref 69), (1, .long l1), (3, .long l3)]) dX5_atLeast_10 (by decide) rfl ?_
  refine sx_lload_n (pc := 12) dX5_atLeast_12 sx_m3 ?_
  refine sx_lconst (pc := 13) (v := 0) dX5_atLeast_13 rfl ?_
  refine sx_lcmp (pc := 14) dX5_atLeast_14 ?_
  refine sx_if_lt (pc := 15) (tgt := 27) dX5_atLeast_15 (by decide) (fun c10 => ?_) (fun c10 => ?_)
  · have h := sx_pos c10 h
    refine sx_lload_n (pc := 27) dX5_atLeast_27 sx_m2 ?_
    refine sx_lload (pc := 28) dX5_atLeast_28 sx_m0 ?_
    refine sx_lneg (pc := 30) dX5_atLeast_30 ?_
    obtain ⟨⟨x13, V11⟩, g12, h⟩ := sx_bnd h
    refine sv_cS (pc := 31) (y := qJ9_min_f86c9) (o := (some (.long x13))) (as := [.long l1, .long (-x9)]) (V1 := V11) dX5_atLeast_31 l_X5_427 y0J9_min_f86c9 ysJ9_min_f86c9 rfl (Nat.le_of_ble_eq_true rfl) (by decide) (Nat.le_of_ble_eq_true rfl) rfl rfl rfl (t_J9_min_f86c9 hG ⟨rfl, rfl⟩ g12) ?_
    exact sv_lret (pc := 34) dX5_atLeast_34 rfl h hP
  · have h := sx_neg c10 h
    refine sx_lload_n (pc := 18) dX5_atLeast_18 sx_m2 ?_
    refine sx_lload (pc := 19) dX5_atLeast_19 sx_m0 ?_
    obtain ⟨⟨x16, V14⟩, g15, h⟩ := sx_bnd h
    refine sv_cS (pc := 21) (y := qJ9_max_f86c9) (o := (some (.long x16))) (as := [.long l1, .long x9]) (V1 := V14) dX5_atLeast_21 l_X5_424 y0J9_max_f86c9 ysJ9_max_f86c9 rfl (Nat.le_of_ble_eq_true rfl) (by decide) (Nat.le_of_ble_eq_true rfl) rfl rfl rfl (t_J9_max_f86c9 hG ⟨rfl, rfl⟩ g15) ?_
    refine sx_goto (pc := 24) (tgt := 34) dX5_atLeast_24 (by decide) ?_
    exact sv_lret (pc := 34) dX5_atLeast_34 rfl h hP
theorem dX5_applyDelta_0 : decode cX5_applyDelta 0 = .ok (.iload_n 1, 1) := by decide +kernel
theorem dX5_applyDelta_1 : decode cX5_applyDelta 1 = .ok (.ifCond .eq 31, 3) := by decide +kernel
theorem dX5_applyDelta_4 : decode cX5_applyDelta 4 = .ok (.aload_n 0, 1) := by decide +kernel
theorem dX5_applyDelta_5 : decode cX5_applyDelta 5 = .ok (.aload_n 0, 1) := by decide +kernel
theorem dX5_applyDelta_6 : decode cX5_applyDelta 6 = .ok (.iconst 0, 1) := by decide +kernel
theorem dX5_applyDelta_7 : decode cX5_applyDelta 7 = .ok (.invokevirtual 255, 3) := by decide +kernel
theorem dX5_applyDelta_10 : decode cX5_applyDelta 10 = .ok (.iload_n 2, 1) := by decide +kernel
theorem dX5_applyDelta_11 : decode cX5_applyDelta 11 = .ok (.invokevirtual 259, 3) := by decide +kernel
theorem dX5_applyDelta_14 : decode cX5_applyDelta 14 = .ok (.ifCond .eq 51, 3) := by decide +kernel
theorem dX5_applyDelta_17 : decode cX5_applyDelta 17 = .ok (.aload_n 0, 1) := by decide +kernel
theorem dX5_applyDelta_18 : decode cX5_applyDelta 18 = .ok (.aload_n 0, 1) := by decide +kernel
theorem dX5_applyDelta_19 : decode cX5_applyDelta 19 = .ok (.iconst 0, 1) := by decide +kernel
theorem dX5_applyDelta_20 : decode cX5_applyDelta 20 = .ok (.invokevirtual 255, 3) := by decide +kernel
theorem dX5_applyDelta_23 : decode cX5_applyDelta 23 = .ok (.iload_n 2, 1) := by decide +kernel
theorem dX5_applyDelta_24 : decode cX5_applyDelta 24 = .ok (.iload_n 3, 1) := by decide +kernel
theorem dX5_applyDelta_25 : decode cX5_applyDelta 25 = .ok (.i2l, 1) := by decide +kernel
theorem dX5_applyDelta_26 : decode cX5_applyDelta 26 = .ok (.invokevirtual 461, 3) := by decide +kernel
theorem dX5_applyDelta_29 : decode cX5_applyDelta 29 = .ok (.goto 36, 3) := by decide +kernel
theorem dX5_applyDelta_32 : decode cX5_applyDelta 32 = .ok (.aload_n 0, 1) := by decide +kernel
theorem dX5_applyDelta_33 : decode cX5_applyDelta 33 = .ok (.getfield 49, 3) := by decide +kernel
theorem dX5_applyDelta_36 : decode cX5_applyDelta 36 = .ok (.iload_n 2, 1) := by decide +kernel
theorem dX5_applyDelta_37 : decode cX5_applyDelta 37 = .ok (.invokevirtual 405, 3) := by decide +kernel
theorem dX5_applyDelta_40 : decode cX5_applyDelta 40 = .ok (.ifCond .eq 19, 3) := by decide +kernel
theorem dX5_applyDelta_43 : decode cX5_applyDelta 43 = .ok (.aload_n 0, 1) := by decide +kernel
theorem dX5_applyDelta_44 : decode cX5_applyDelta 44 = .ok (.getfield 49, 3) := by decide +kernel
theorem dX5_applyDelta_47 : decode cX5_applyDelta 47 = .ok (.getfield 411, 3) := by decide +kernel
theorem dX5_applyDelta_50 : decode cX5_applyDelta 50 = .ok (.iload_n 2, 1) := by decide +kernel
theorem dX5_applyDelta_51 : decode cX5_applyDelta 51 = .ok (.dup2, 1) := by decide +kernel
theorem dX5_applyDelta_52 : decode cX5_applyDelta 52 = .ok (.iaload, 1) := by decide +kernel
theorem dX5_applyDelta_53 : decode cX5_applyDelta 53 = .ok (.iload_n 3, 1) := by decide +kernel
theorem dX5_applyDelta_54 : decode cX5_applyDelta 54 = .ok (.iadd, 1) := by decide +kernel
theorem dX5_applyDelta_55 : decode cX5_applyDelta 55 = .ok (.iastore, 1) := by decide +kernel
theorem dX5_applyDelta_56 : decode cX5_applyDelta 56 = .ok (.goto 9, 3) := by decide +kernel
theorem dX5_applyDelta_59 : decode cX5_applyDelta 59 = .ok (.aload_n 0, 1) := by decide +kernel
theorem dX5_applyDelta_60 : decode cX5_applyDelta 60 = .ok (.bipush 6, 2) := by decide +kernel
theorem dX5_applyDelta_62 : decode cX5_applyDelta 62 = .ok (.putfield 56, 3) := by decide +kernel
theorem dX5_applyDelta_65 : decode cX5_applyDelta 65 = .ok (.return_, 1) := by decide +kernel
def F_X5_applyDelta (l1 : Int32) (l2 : Int32) (l3 : Int32) (V : sv_V) : Option sv_V := if l1 = 0 then ((V.2.2 69 6).bind (fun b2 => (F_X7_hasCvt b2 l2 V).bind (fun (x6, V4) => if lay b2 = .inl 7 then if x6 = 0 then (sx_let (sv_I V4 69 14 (6 : Int32)) (fun V9 => some V9)) else ((V4.2.2 69 6).bind (fun b10 => if lay b10 = .inl 7 then (cr b10 0).bind (fun b13 => (sv_len 0 b13).bind (fun n15 => if sx_in l2 n15 = true then if sx_in l2 n15 = true then sx_let (sv_I V4 b13 l2.toNatClampNeg ((V4.1 b13 l2.toNatClampNeg) + l3)) (fun V19 => some V19) else none else none)) else none)) else none))) else ((F_X5_zone (0 : Int32) V).bind (fun (x22, V20) => (F_X5_isThere x22 l2 V20).bind (fun (x25, V23) => if x25 = 0 then (some V23) else ((F_X5_zone (0 : Int32) V23).bind (fun (x29, V27) => (F_X5_move x29 l2 l3.toInt64 V27).bind (fun V30 => some V30))))))
set_option maxRecDepth 20000 in
theorem t_X5_applyDelta {g : sx_G} (hG : sx_Go g) {P : Option Value → sv_V → Prop} {Vr : sv_V} (hP : P none Vr) {l1 : Int32} {l2 : Int32} {l3 : Int32} {V : sv_V} (h : F_X5_applyDelta l1 l2 l3 V = some Vr) : sv_N g qX5_applyDelta 2 0 [(0, .ref 69), (1, .int l1), (2, .int l2), (3, .int l3)] [] V P := by
  unfold F_X5_applyDelta at h
  refine sx_iload_n (pc := 0) dX5_applyDelta_0 sx_m1 ?_
  refine sx_if_eq (pc := 1) (tgt := 32) dX5_applyDelta_1 (by decide) (fun c1 => ?_) (fun c1 => ?_)
  · have h := sx_pos c1 h
    refine sx_aload_n (pc := 32) dX5_applyDelta_32 sx_m0 ?_
    obtain ⟨b2, g3, h⟩ := sx_bnd h
    refine sv_getV (pc := 33) hG dX5_applyDelta_33 f_5_49 lay_69 rfl rfl g3 ?_
    refine sx_iload_n (pc := 36) dX5_applyDelta_36 sx_m2 ?_
    obtain ⟨⟨x6, V4⟩, g5, h⟩ := sx_bnd h
    obtain ⟨g7, h⟩ := sx_grd h
    refine sv_cV (pc := 37) (y := qX7_hasCvt) (o := (some (.int x6))) (as := [.int l2]) (V1 := V4) hG dX5_applyDelta_37 l_X5_405 y0X7_hasCvt yvX7_hasCvt rfl (Nat.le_of_ble_eq_true rfl) g7 kr_7 (by decide) (Nat.le_of_ble_eq_true rfl) rfl rfl rfl (t_X7_hasCvt hG ⟨rfl, rfl⟩ g5) ?_
    refine sx_if_eq (pc := 40) (tgt := 59) dX5_applyDelta_40 (by decide) (fun c8 => ?_) (fun c8 => ?_)
    · have h := sx_pos c8 h
      refine sx_aload_n (pc := 59) dX5_applyDelta_59 sx_m0 ?_
      refine sx_bipush (pc := 60) (v := 6) dX5_applyDelta_60 (by decide) ?_
      obtain ⟨V9, hV9⟩ : ∃ z : sv_V, z = sv_I V4 69 14 (6 : Int32) := ⟨_, rfl⟩
      have h := sx_letE hV9 h
      refine sv_putI (pc := 62) hG dX5_applyDelta_62 f_5_56 lay_69 rfl hV9 ?_
      exact sv_vret (pc := 65) dX5_applyDelta_65 rfl h hP
    · have h := sx_neg c8 h
      refine sx_aload_n (pc := 43) dX5_applyDelta_43 sx_m0 ?_
      obtain ⟨b10, g11, h⟩ := sx_bnd h
      refine sv_getV (pc := 44) hG dX5_applyDelta_44 f_5_49 lay_69 rfl rfl g11 ?_
      obtain ⟨g12, h⟩ := sx_grd h
      obtain ⟨b13, g14, h⟩ := sx_bnd h
      refine sv_getA (pc := 47) hG dX5_applyDelta_47 f_5_411 g12 rfl g14 ?_
      refine sx_iload_n (pc := 50) dX5_applyDelta_50 sx_m2 ?_
      refine sx_dup2 (pc := 51) dX5_applyDelta_51 rfl rfl ?_
      obtain ⟨n15, g16, h⟩ := sx_bnd h
      obtain ⟨g17, h⟩ := sx_grd h
      refine sv_iald (pc := 52) hG dX5_applyDelta_52 (sv_len_e g16) g17 ?_
      refine sx_iload_n (pc := 53) dX5_applyDelta_53 sx_m3 ?_
      refine sx_iadd (pc := 54) dX5_applyDelta_54 ?_
      obtain ⟨g18, h⟩ := sx_grd h
      obtain ⟨V19, hV19⟩ : ∃ z : sv_V, z = sv_I V4 b13 l2.toNatClampNeg ((V4.1 b13 l2.toNatClampNeg) + l3) := ⟨_, rfl⟩
      have h := sx_letE hV19 h
      refine sv_iast (pc := 55) hG dX5_applyDelta_55 (sv_len_e g16) g18 hV19 ?_
      refine sx_goto (pc := 56) (tgt := 65) dX5_applyDelta_56 (by decide) ?_
      exact sv_vret (pc := 65) dX5_applyDelta_65 rfl h hP
  · have h := sx_neg c1 h
    refine sx_aload_n (pc := 4) dX5_applyDelta_4 sx_m0 ?_
    refine sx_aload_n (pc := 5) dX5_applyDelta_5 sx_m0 ?_
    refine sx_iconst (pc := 6) (v := 0) dX5_applyDelta_6 (by decide) ?_
    obtain ⟨⟨x22, V20⟩, g21, h⟩ := sx_bnd h
    refine sv_cV (pc := 7) (y := qX5_zone) (o := (some (.ref x22))) (as := [.int (0 : Int32)]) (V1 := V20) hG dX5_applyDelta_7 l_X5_255 y0X5_zone yvX5_zone rfl (Nat.le_of_ble_eq_true rfl) lay_69 kr_5 (by decide) (Nat.le_of_ble_eq_true rfl) rfl rfl rfl (t_X5_zone hG ⟨rfl, rfl⟩ g21) ?_
    refine sx_iload_n (pc := 10) dX5_applyDelta_10 sx_m2 ?_
    obtain ⟨⟨x25, V23⟩, g24, h⟩ := sx_bnd h
    refine sv_cV (pc := 11) (y := qX5_isThere) (o := (some (.int x25))) (as := [.ref x22, .int l2]) (V1 := V23) hG dX5_applyDelta_11 l_X5_259 y0X5_isThere yvX5_isThere rfl (Nat.le_of_ble_eq_true rfl) lay_69 kr_5 (by decide) (Nat.le_of_ble_eq_true rfl) rfl rfl rfl (t_X5_isThere hG ⟨rfl, rfl⟩ g24) ?_
    refine sx_if_eq (pc := 14) (tgt := 65) dX5_applyDelta_14 (by decide) (fun c26 => ?_) (fun c26 => ?_)
    · have h := sx_pos c26 h
      exact sv_vret (pc := 65) dX5_applyDelta_65 rfl h hP
    · have h := sx_neg c26 h
      refine sx_aload_n (pc := 17) dX5_applyDelta_17 sx_m0 ?_
      refine sx_aload_n (pc := 18) dX5_applyDelta_18 sx_m0 ?_
      refine sx_iconst (pc := 19) (v := 0) dX5_applyDelta_19 (by decide) ?_
      obtain ⟨⟨x29, V27⟩, g28, h⟩ := sx_bnd h
      refine sv_cV (pc := 20) (y := qX5_zone) (o := (some (.ref x29))) (as := [.int (0 : Int32)]) (V1 := V27) hG dX5_applyDelta_20 l_X5_255 y0X5_zone yvX5_zone rfl (Nat.le_of_ble_eq_true rfl) lay_69 kr_5 (by decide) (Nat.le_of_ble_eq_true rfl) rfl rfl rfl (t_X5_zone hG ⟨rfl, rfl⟩ g28) ?_
      refine sx_iload_n (pc := 23) dX5_applyDelta_23 sx_m2 ?_
      refine sx_iload_n (pc := 24) dX5_applyDelta_24 sx_m3 ?_
      refine sx_i2l (pc := 25) dX5_applyDelta_25 ?_
      obtain ⟨V30, g31, h⟩ := sx_bnd h
      refine sv_cV (pc := 26) (y := qX5_move) (o := none) (as := [.ref x29, .int l2, .long l3.toInt64]) (V1 := V30) hG dX5_applyDelta_26 l_X5_461 y0X5_move yvX5_move rfl (Nat.le_of_ble_eq_true rfl) lay_69 kr_5 (by decide) (Nat.le_of_ble_eq_true rfl) rfl rfl rfl (t_X5_move hG ⟨rfl, rfl⟩ g31) ?_
      refine sx_goto (pc := 29) (tgt := 65) dX5_applyDelta_29 (by decide) ?_
      exact sv_vret (pc := 65) dX5_applyDelta_65 rfl h hP
