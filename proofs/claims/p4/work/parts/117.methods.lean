/-! methods: X11_isIn, X12_over, X12_isGlyph, X12_areWithin, X12_by, X12_longOf, X12_between, X12_originally, X12_shiftBy, X12_move, X12_scaled, X12_stacks, X12_setCvt -/
theorem dX11_isIn_0 : decode cX11_isIn 0 = .ok (.aload_n 0, 1) := by decide +kernel
theorem dX11_isIn_1 : decode cX11_isIn 1 = .ok (.getfield 37, 3) := by decide +kernel
theorem dX11_isIn_4 : decode cX11_isIn 4 = .ok (.getfield 147, 3) := by decide +kernel
theorem dX11_isIn_7 : decode cX11_isIn 7 = .ok (.ifCond .ne 6, 3) := by decide +kernel
theorem dX11_isIn_10 : decode cX11_isIn 10 = .ok (.bipush (-3), 2) := by decide +kernel
theorem dX11_isIn_12 : decode cX11_isIn 12 = .ok (.ireturn, 1) := by decide +kernel
theorem dX11_isIn_13 : decode cX11_isIn 13 = .ok (.iload_n 1, 1) := by decide +kernel
theorem dX11_isIn_14 : decode cX11_isIn 14 = .ok (.i2l, 1) := by decide +kernel
theorem dX11_isIn_15 : decode cX11_isIn 15 = .ok (.sipush 5000, 3) := by decide +kernel
theorem dX11_isIn_18 : decode cX11_isIn 18 = .ok (.invokestatic 225, 3) := by decide +kernel
theorem dX11_isIn_21 : decode cX11_isIn 21 = .ok (.ifCond .ne 14, 3) := by decide +kernel
theorem dX11_isIn_24 : decode cX11_isIn 24 = .ok (.iload_n 2, 1) := by decide +kernel
theorem dX11_isIn_25 : decode cX11_isIn 25 = .ok (.i2l, 1) := by decide +kernel
theorem dX11_isIn_26 : decode cX11_isIn 26 = .ok (.sipush 5000, 3) := by decide +kernel
theorem dX11_isIn_29 : decode cX11_isIn 29 = .ok (.invokestatic 225, 3) := by decide +kernel
theorem dX11_isIn_32 : decode cX11_isIn 32 = .ok (.ifCond .eq 6, 3) := by decide +kernel
theorem dX11_isIn_35 : decode cX11_isIn 35 = .ok (.bipush (-2), 2) := by decide +kernel
theorem dX11_isIn_37 : decode cX11_isIn 37 = .ok (.ireturn, 1) := by decide +kernel
theorem dX11_isIn_38 : decode cX11_isIn 38 = .ok (.aload_n 0, 1) := by decide +kernel
theorem dX11_isIn_39 : decode cX11_isIn 39 = .ok (.getfield 37, 3) := by decide +kernel
theorem dX11_isIn_42 : decode cX11_isIn 42 = .ok (.getfield 229, 3) := by decide +kernel
theorem dX11_isIn_45 : decode cX11_isIn 45 = .ok (.iconst 2, 1) := by decide +kernel
theorem dX11_isIn_46 : decode cX11_isIn 46 = .ok (.iload_n 2, 1) := by decide +kernel
theorem dX11_isIn_47 : decode cX11_isIn 47 = .ok (.imul, 1) := by decide +kernel
theorem dX11_isIn_48 : decode cX11_isIn 48 = .ok (.invokevirtual 233, 3) := by decide +kernel
theorem dX11_isIn_51 : decode cX11_isIn 51 = .ok (.aload_n 0, 1) := by decide +kernel
theorem dX11_isIn_52 : decode cX11_isIn 52 = .ok (.getfield 37, 3) := by decide +kernel
theorem dX11_isIn_55 : decode cX11_isIn 55 = .ok (.getfield 229, 3) := by decide +kernel
theorem dX11_isIn_58 : decode cX11_isIn 58 = .ok (.iconst 2, 1) := by decide +kernel
theorem dX11_isIn_59 : decode cX11_isIn 59 = .ok (.iload_n 1, 1) := by decide +kernel
theorem dX11_isIn_60 : decode cX11_isIn 60 = .ok (.imul, 1) := by decide +kernel
theorem dX11_isIn_61 : decode cX11_isIn 61 = .ok (.iconst 2, 1) := by decide +kernel
theorem dX11_isIn_62 : decode cX11_isIn 62 = .ok (.iload_n 2, 1) := by decide +kernel
theorem dX11_isIn_63 : decode cX11_isIn 63 = .ok (.imul, 1) := by decide +kernel
theorem dX11_isIn_64 : decode cX11_isIn 64 = .ok (.invokevirtual 239, 3) := by decide +kernel
theorem dX11_isIn_67 : decode cX11_isIn 67 = .ok (.ifCond .eq 7, 3) := by decide +kernel
theorem dX11_isIn_70 : decode cX11_isIn 70 = .ok (.iconst 1, 1) := by decide +kernel
theorem dX11_isIn_71 : decode cX11_isIn 71 = .ok (.goto 4, 3) := by decide +kernel
theorem dX11_isIn_74 : decode cX11_isIn 74 = .ok (.iconst 0, 1) := by decide +kernel
theorem dX11_isIn_75 : decode cX11_isIn 75 = .ok (.ireturn, 1) := by decide +kernel
def F_X11_isIn (N : Nat) (l1 : Int32) (l2 : Int32) (V : sv_V) : Option (Int32 × sv_V) := if (V.1 30 8) = 0 then (some ((-3 : Int32), V)) else ((F_X11_isBeyond l1.toInt64 (5000 : Int32) V).bind (fun (x4, V2) => if x4 = 0 then ((F_X11_isBeyond l2.toInt64 (5000 : Int32) V2).bind (fun (x8, V6) => if x8 = 0 then ((F_X10_chooseRow N ((2 : Int32) * l2) V6).bind (fun V10 => (F_X10_holds N ((2 : Int32) * l1) ((2 : Int32) * l2) V10).bind (fun (x14, V12) => if x14 = 0 then (some ((0 : Int32), V12)) else (some ((1 : Int32), V12))))) else (some ((-2 : Int32), V6)))) else (some ((-2 : Int32), V2))))
set_option maxRecDepth 20000 in
theorem t_X11_isIn {g : sx_G} (hG : sx_Go g) {P : Option Value → sv_V → Prop} {r : Int32} {Vr : sv_V} (hP : P (some (.int r)) Vr) {N : Nat} {l1 : Int32} {l2 : Int32} {V : sv_V} (h : F_X11_isIn N l1 l2 V = some (r, Vr)) : sv_N g qX11_isIn 4 0 [(0, .ref 0), (1, .int l1), (2, .int l2)] [] V P := by
  unfold F_X11_isIn at h
  refine sx_aload_n (pc := 0) dX11_isIn_0 sx_m0 ?_
  refine sv_getO (pc := 1) hG dX11_isIn_1 f_11_37 lay_0 rfl cr_0_4 ?_
  refine sv_getZ (pc := 4) hG dX11_isIn_4 f_11_147 lay_30 rfl ?_
  refine sx_if_ne (pc := 7) (tgt := 13) dX11_isIn_7 (by decide) (fun c1 => ?_) (fun c1 => ?_)
  · have h := sx_neg c1 h
    refine sx_iload_n (pc := 13) dX11_isIn_13 sx_m1 ?_
    refine sx_i2l (pc := 14) dX11_isIn_14 ?_
    refine sx_sipush (pc := 15) (v := 5000) dX11_isIn_15 (by decide) ?_
    obtain ⟨⟨x4, V2⟩, g3, h⟩ := sx_bnd h
    refine sv_cS (pc := 18) (y := qX11_isBeyond) (o := (some (.int x4))) (as := [.long l1.toInt64, .int (5000 : Int32)]) (V1 := V2) dX11_isIn_18 l_X11_225 y0X11_isBeyond ysX11_isBeyond rfl (Nat.le_of_ble_eq_true rfl) (by decide) (Nat.le_of_ble_eq_true rfl) rfl rfl rfl (t_X11_isBeyond hG ⟨rfl, rfl⟩ g3) ?_
    refine sx_if_ne (pc := 21) (tgt := 35) dX11_isIn_21 (by decide) (fun c5 => ?_) (fun c5 => ?_)
    · have h := sx_neg c5 h
      refine sx_bipush (pc := 35) (v := (-2)) dX11_isIn_35 (by decide) ?_
      exact sv_iret (pc := 37) dX11_isIn_37 rfl h hP
    · have h := sx_pos c5 h
      refine sx_iload_n (pc := 24) dX11_isIn_24 sx_m2 ?_
      refine sx_i2l (pc := 25) dX11_isIn_25 ?_
      refine sx_sipush (pc := 26) (v := 5000) dX11_isIn_26 (by decide) ?_
      obtain ⟨⟨x8, V6⟩, g7, h⟩ := sx_bnd h
      refine sv_cS (pc := 29) (y := qX11_isBeyond) (o := (some (.int x8))) (as := [.long l2.toInt64, .int (5000 : Int32)]) (V1 := V6) dX11_isIn_29 l_X11_225 y0X11_isBeyond ysX11_isBeyond rfl (Nat.le_of_ble_eq_true rfl) (by decide) (Nat.le_of_ble_eq_true rfl) rfl rfl rfl (t_X11_isBeyond hG ⟨rfl, rfl⟩ g7) ?_
      refine sx_if_eq (pc := 32) (tgt := 38) dX11_isIn_32 (by decide) (fun c9 => ?_) (fun c9 => ?_)
      · have h := sx_pos c9 h
        refine sx_aload_n (pc := 38) dX11_isIn_38 sx_m0 ?_
        refine sv_getO (pc := 39) hG dX11_isIn_39 f_11_37 lay_0 rfl cr_0_4 ?_
        refine sv_getO (pc := 42) hG dX11_isIn_42 f_11_229 lay_30 rfl cr_30_6 ?_
        refine sx_iconst (pc := 45) (v := 2) dX11_isIn_45 (by decide) ?_
        refine sx_iload_n (pc := 46) dX11_isIn_46 sx_m2 ?_
        refine sx_imul (pc := 47) dX11_isIn_47 ?_
        obtain ⟨V10, g11, h⟩ := sx_bnd h
        refine sv_cV (pc := 48) (y := qX10_chooseRow) (o := none) (as := [.int ((2 : Int32) * l2)]) (V1 := V10) hG dX11_isIn_48 l_X11_233 y0X10_chooseRow yvX10_chooseRow rfl (Nat.le_of_ble_eq_true rfl) lay_60 kr_10 (by decide) (Nat.le_of_ble_eq_true rfl) rfl rfl rfl (t_X10_chooseRow hG ⟨rfl, rfl⟩ g11) ?_
        refine sx_aload_n (pc := 51) dX11_isIn_51 sx_m0 ?_
        refine sv_getO (pc := 52) hG dX11_isIn_52 f_11_37 lay_0 rfl cr_0_4 ?_
        refine sv_getO (pc := 55) hG dX11_isIn_55 f_11_229 lay_30 rfl cr_30_6 ?_
        refine sx_iconst (pc := 58) (v := 2) dX11_isIn_58 (by decide) ?_
        refine sx_iload_n (pc := 59) dX11_isIn_59 sx_m1 ?_
        refine sx_imul (pc := 60) dX11_isIn_60 ?_
        refine sx_iconst (pc := 61) (v := 2) dX11_isIn_61 (by decide) ?_
        refine sx_iload_n (pc := 62) dX11_isIn_62 sx_m2 ?_
        refine sx_imul (pc := 63) dX11_isIn_63 ?_
        obtain ⟨⟨x14, V12⟩, g13, h⟩ := sx_bnd h
        refine sv_cV (pc := 64) (y := qX10_holds) (o := (some (.int x14))) (as := [.int ((2 : Int32) * l1), .int ((2 : Int32) * l2)]) (V1 := V12) hG dX11_isIn_64 l_X11_239 y0X10_holds yvX10_holds rfl (Nat.le_of_ble_eq_true rfl) lay_60 kr_10 (by decide) (Nat.le_of_ble_eq_true rfl) rfl rfl rfl (t_X10_holds hG ⟨rfl, rfl⟩ g13) ?_
        refine sx_if_eq (pc := 67) (tgt := 74) dX11_isIn_67 (by decide) (fun c15 => ?_) (fun c15 => ?_)
        · have h := sx_pos c15 h
          refine sx_iconst (pc := 74) (v := 0) dX11_isIn_74 (by decide) ?_
          exact sv_iret (pc := 75) dX11_isIn_75 rfl h hP
        · have h := sx_neg c15 h
          refine sx_iconst (pc := 70) (v := 1) dX11_isIn_70 (by decide) ?_
          refine sx_goto (pc := 71) (tgt := 75) dX11_isIn_71 (by decide) ?_
          exact sv_iret (pc := 75) dX11_isIn_75 rfl h hP
      · have h := sx_neg c9 h
        refine sx_bipush (pc := 35) (v := (-2)) dX11_isIn_35 (by decide) ?_
        exact sv_iret (pc := 37) dX11_isIn_37 rfl h hP
  · have h := sx_pos c1 h
    refine sx_bipush (pc := 10) (v := (-3)) dX11_isIn_10 (by decide) ?_
    exact sv_iret (pc := 12) dX11_isIn_12 rfl h hP
theorem dX12_over_0 : decode cX12_over 0 = .ok (.lload_n 0, 1) := by decide +kernel
theorem dX12_over_1 : decode cX12_over 1 = .ok (.lload_n 2, 1) := by decide +kernel
theorem dX12_over_2 : decode cX12_over 2 = .ok (.invokestatic 194, 3) := by decide +kernel
theorem dX12_over_5 : decode cX12_over 5 = .ok (.lreturn, 1) := by decide +kernel
def F_X12_over (l0 : Int64) (l2 : Int64) (V : sv_V) : Option (Int64 × sv_V) := (F_X12_nearest l0 l2 V).bind (fun (x3, V1) => some (x3, V1))
set_option maxRecDepth 20000 in
theorem t_X12_over {g : sx_G} (hG : sx_Go g) {P : Option Value → sv_V → Prop} {r : Int64} {Vr : sv_V} (hP : P (some (.long r)) Vr) {l0 : Int64} {l2 : Int64} {V : sv_V} (h : F_X12_over l0 l2 V = some (r, Vr)) : sv_N g qX12_over 2 0 [(0, .long l0), (2, .long l2)] [] V P := by
  unfold F_X12_over at h
  refine sx_lload_n (pc := 0) dX12_over_0 sx_m0 ?_
  refine sx_lload_n (pc := 1) dX12_over_1 sx_m1 ?_
  obtain ⟨⟨x3, V1⟩, g2, h⟩ := sx_bnd h
  refine sv_cS (pc := 2) (y := qX12_nearest) (o := (some (.long x3))) (as := [.long l0, .long l2]) (V1 := V1) dX12_over_2 l_X12_194 y0X12_nearest ysX12_nearest rfl (Nat.le_of_ble_eq_true rfl) (by decide) (Nat.le_of_ble_eq_true rfl) rfl rfl rfl (t_X12_nearest hG ⟨rfl, rfl⟩ g2) ?_
  exact sv_lret (pc := 5) dX12_over_5 rfl h hP
theorem dX12_isGlyph_0 : decode cX12_isGlyph 0 = .ok (.aload_n 0, 1) := by decide +kernel
theorem dX12_isGlyph_1 : decode cX12_isGlyph 1 = .ok (.iload_n 1, 1) := by decide +kernel
theorem dX12_isGlyph_2 : decode cX12_isGlyph 2 = .ok (.invokevirtual 363, 3) := by decide +kernel
theorem dX12_isGlyph_5 : decode cX12_isGlyph 5 = .ok (.aload_n 0, 1) := by decide +kernel
theorem dX12_isGlyph_6 : decode cX12_isGlyph 6 = .ok (.getfield 342, 3) := by decide +kernel
theorem dX12_isGlyph_9 : decode cX12_isGlyph 9 = .ok (.aload_n 0, 1) := by decide +kernel
theorem dX12_isGlyph_10 : decode cX12_isGlyph 10 = .ok (.getfield 345, 3) := by decide +kernel
theorem dX12_isGlyph_13 : decode cX12_isGlyph 13 = .ok (.if_icmp .ne 5, 3) := by decide +kernel
theorem dX12_isGlyph_16 : decode cX12_isGlyph 16 = .ok (.iconst 1, 1) := by decide +kernel
theorem dX12_isGlyph_17 : decode cX12_isGlyph 17 = .ok (.ireturn, 1) := by decide +kernel
theorem dX12_isGlyph_18 : decode cX12_isGlyph 18 = .ok (.aload_n 0, 1) := by decide +kernel
theorem dX12_isGlyph_19 : decode cX12_isGlyph 19 = .ok (.getfield 345, 3) := by decide +kernel
theorem dX12_isGlyph_22 : decode cX12_isGlyph 22 = .ok (.aload_n 0, 1) := by decide +kernel
theorem dX12_isGlyph_23 : decode cX12_isGlyph 23 = .ok (.getfield 342, 3) := by decide +kernel
theorem dX12_isGlyph_26 : decode cX12_isGlyph 26 = .ok (.isub, 1) := by decide +kernel
theorem dX12_isGlyph_27 : decode cX12_isGlyph 27 = .ok (.bipush 10, 2) := by decide +kernel
theorem dX12_isGlyph_29 : decode cX12_isGlyph 29 = .ok (.if_icmp .ge 5, 3) := by decide +kernel
theorem dX12_isGlyph_32 : decode cX12_isGlyph 32 = .ok (.iconst 0, 1) := by decide +kernel
theorem dX12_isGlyph_33 : decode cX12_isGlyph 33 = .ok (.ireturn, 1) := by decide +kernel
theorem dX12_isGlyph_34 : decode cX12_isGlyph 34 = .ok (.aload_n 0, 1) := by decide +kernel
theorem dX12_isGlyph_35 : decode cX12_isGlyph 35 = .ok (.getfield 348, 3) := by decide +kernel
theorem dX12_isGlyph_38 : decode cX12_isGlyph 38 = .ok (.i2l, 1) := by decide +kernel
theorem dX12_isGlyph_39 : decode cX12_isGlyph 39 = .ok (.lconst 0, 1) := by decide +kernel
theorem dX12_isGlyph_40 : decode cX12_isGlyph 40 = .ok (.ldc2_w 230, 3) := by decide +kernel
theorem dX12_isGlyph_43 : decode cX12_isGlyph 43 = .ok (.invokestatic 263, 3) := by decide +kernel
theorem dX12_isGlyph_46 : decode cX12_isGlyph 46 = .ok (.ifCond .eq 10, 3) := by decide +kernel
theorem dX12_isGlyph_49 : decode cX12_isGlyph 49 = .ok (.aload_n 0, 1) := by decide +kernel
theorem dX12_isGlyph_50 : decode cX12_isGlyph 50 = .ok (.invokevirtual 367, 3) := by decide +kernel
theorem dX12_isGlyph_53 : decode cX12_isGlyph 53 = .ok (.goto 23, 3) := by decide +kernel
theorem dX12_isGlyph_56 : decode cX12_isGlyph 56 = .ok (.aload_n 0, 1) := by decide +kernel
theorem dX12_isGlyph_57 : decode cX12_isGlyph 57 = .ok (.getfield 348, 3) := by decide +kernel
theorem dX12_isGlyph_60 : decode cX12_isGlyph 60 = .ok (.iconst (-1), 1) := by decide +kernel
theorem dX12_isGlyph_61 : decode cX12_isGlyph 61 = .ok (.if_icmp .ne 14, 3) := by decide +kernel
theorem dX12_isGlyph_64 : decode cX12_isGlyph 64 = .ok (.aload_n 0, 1) := by decide +kernel
theorem dX12_isGlyph_65 : decode cX12_isGlyph 65 = .ok (.invokevirtual 370, 3) := by decide +kernel
theorem dX12_isGlyph_68 : decode cX12_isGlyph 68 = .ok (.ifCond .eq 7, 3) := by decide +kernel
theorem dX12_isGlyph_71 : decode cX12_isGlyph 71 = .ok (.iconst 1, 1) := by decide +kernel
theorem dX12_isGlyph_72 : decode cX12_isGlyph 72 = .ok (.goto 4, 3) := by decide +kernel
theorem dX12_isGlyph_75 : decode cX12_isGlyph 75 = .ok (.iconst 0, 1) := by decide +kernel
theorem dX12_isGlyph_76 : decode cX12_isGlyph 76 = .ok (.ireturn, 1) := by decide +kernel
def F_X12_isGlyph (N : Nat) (l1 : Int32) (V : sv_V) : Option (Int32 × sv_V) := (F_X12_bytesOf N l1 V).bind (fun V1 => if (V1.1 146 26) = (V1.1 146 27) then (some ((1 : Int32), V1)) else (if (10 : Int32) ≤ ((V1.1 146 27) - (V1.1 146 26)) then ((F_X12_in ((V1.1 146 28).toInt64) (0 : Int64) (12 : Int64) V1).bind (fun (x7, V5) => if x7 = 0 then (if (V5.1 146 28) = (-1 : Int32) then ((F_X12_composed N  V5).bind (fun (x12, V10) => if x12 = 0 then (some ((0 : Int32), V10)) else (some ((1 : Int32), V10)))) else (some ((0 : Int32), V5))) else ((F_X12_simple N  V5).bind (fun (x16, V14) => if sv_bl x16 = true then some (x16, V14) else none)))) else (some ((0 : Int32), V1))))
set_option maxRecDepth 20000 in
theorem t_X12_isGlyph {g : sx_G} (hG : sx_Go g) {P : Option Value → sv_V → Prop} {r : Int32} {Vr : sv_V} (hP : P (some (.int r)) Vr) {N : Nat} {l1 : Int32} {V : sv_V} (h : F_X12_isGlyph N l1 V = some (r, Vr)) : sv_N g qX12_isGlyph 5 0 [(0, .ref 146), (1, .int l1)] [] V P := by
  unfold F_X12_isGlyph at h
  refine sx_aload_n (pc := 0) dX12_isGlyph_0 sx_m0 ?_
  refine sx_iload_n (pc := 1) dX12_isGlyph_1 sx_m1 ?_
  obtain ⟨V1, g2, h⟩ := sx_bnd h
  refine sv_cV (pc := 2) (y := qX12_bytesOf) (o := none) (as := [.int l1]) (V1 := V1) hG dX12_isGlyph_2 l_X12_363 y0X12_bytesOf yvX12_bytesOf rfl (Nat.le_of_ble_eq_true rfl) lay_146 kr_12 (by decide) (Nat.le_of_ble_eq_true rfl) rfl rfl rfl (t_X12_bytesOf hG ⟨rfl, rfl⟩ g2) ?_
  refine sx_aload_n (pc := 5) dX12_isGlyph_5 sx_m0 ?_
  refine sv_getI (pc := 6) hG dX12_isGlyph_6 f_12_342 lay_146 rfl ?_
  refine sx_aload_n (pc := 9) dX12_isGlyph_9 sx_m0 ?_
  refine sv_getI (pc := 10) hG dX12_isGlyph_10 f_12_345 lay_146 rfl ?_
  refine sx_icmp_ne (pc := 13) (tgt := 18) dX12_isGlyph_13 (by decide) (fun c3 => ?_) (fun c3 => ?_)
  · have h := sx_neg c3 h
    refine sx_aload_n (pc := 18) dX12_isGlyph_18 sx_m0 ?_
    refine sv_getI (pc := 19) hG dX12_isGlyph_19 f_12_345 lay_146 rfl ?_
    refine sx_aload_n (pc := 22) dX12_isGlyph_22 sx_m0 ?_
    refine sv_getI (pc := 23) hG dX12_isGlyph_23 f_12_342 lay_146 rfl ?_
    refine sx_isub (pc := 26) dX12_isGlyph_26 ?_
    refine sx_bipush (pc := 27) (v := 10) dX12_isGlyph_27 (by decide) ?_
    refine sx_icmp_ge (pc := 29) (tgt := 34) dX12_isGlyph_29 (by decide) (fun c4 => ?_) (fun c4 => ?_)
    · have h := sx_pos c4 h
      refine sx_aload_n (pc := 34) dX12_isGlyph_34 sx_m0 ?_
      refine sv_getI (pc := 35) hG dX12_isGlyph_35 f_12_348 lay_146 rfl ?_
      refine sx_i2l (pc := 38) dX12_isGlyph_38 ?_
      refine sx_lconst (pc := 39) (v := 0) dX12_isGlyph_39 rfl ?_
      refine sx_ldc2 (pc := 40) dX12_isGlyph_40 k_X12_230 ?_
      obtain ⟨⟨x7, V5⟩, g6, h⟩ := sx_bnd h
      refine sv_cS (pc := 43) (y := qX12_in) (o := (some (.int x7))) (as := [.long ((V1.1 146 28).toInt64), .long (0 : Int64), .long (12 : Int64)]) (V1 := V5) dX12_isGlyph_43 l_X12_263 y0X12_in ysX12_in rfl (Nat.le_of_ble_eq_true rfl) (by decide) (Nat.le_of_ble_eq_true rfl) rfl rfl rfl (t_X12_in hG ⟨rfl, rfl⟩ g6) ?_
      refine sx_if_eq (pc := 46) (tgt := 56) dX12_isGlyph_46 (by decide) (fun c8 => ?_) (fun c8 => ?_)
      · have h := sx_pos c8 h
        refine sx_aload_n (pc := 56) dX12_isGlyph_56 sx_m0 ?_
        refine sv_getI (pc := 57) hG dX12_isGlyph_57 f_12_348 lay_146 rfl ?_
        refine sx_iconst (pc := 60) (v := (-1)) dX12_isGlyph_60 (by decide) ?_
        refine sx_icmp_ne (pc := 61) (tgt := 75) dX12_isGlyph_61 (by decide) (fun c9 => ?_) (fun c9 => ?_)
        · have h := sx_neg c9 h
          refine sx_iconst (pc := 75) (v := 0) dX12_isGlyph_75 (by decide) ?_
          exact sv_zret (pc := 76) dX12_isGlyph_76 rfl rfl h hP
        · have h := sx_pos c9 h
          refine sx_aload_n (pc := 64) dX12_isGlyph_64 sx_m0 ?_
          obtain ⟨⟨x12, V10⟩, g11, h⟩ := sx_bnd h
          refine sv_cV (pc := 65) (y := qX12_composed) (o := (some (.int x12))) (as := []) (V1 := V10) hG dX12_isGlyph_65 l_X12_370 y0X12_composed yvX12_composed rfl (Nat.le_of_ble_eq_true rfl) lay_146 kr_12 (by decide) (Nat.le_of_ble_eq_true rfl) rfl rfl rfl (t_X12_composed hG ⟨rfl, rfl⟩ g11) ?_
          refine sx_if_eq (pc := 68) (tgt := 75) dX12_isGlyph_68 (by decide) (fun c13 => ?_) (fun c13 => ?_)
          · have h := sx_pos c13 h
            refine sx_iconst (pc := 75) (v := 0) dX12_isGlyph_75 (by decide) ?_
            exact sv_zret (pc := 76) dX12_isGlyph_76 rfl rfl h hP
          · have h := sx_neg c13 h
            refine sx_iconst (pc := 71) (v := 1) dX12_isGlyph_71 (by decide) ?_
            refine sx_goto (pc := 72) (tgt := 76) dX12_isGlyph_72 (by decide) ?_
            exact sv_zret (pc := 76) dX12_isGlyph_76 rfl rfl h hP
      · have h := sx_neg c8 h
        refine sx_aload_n (pc := 49) dX12_isGlyph_49 sx_m0 ?_
        obtain ⟨⟨x16, V14⟩, g15, h⟩ := sx_bnd h
        refine sv_cV (pc := 50) (y := qX12_simple) (o := (some (.int x16))) (as := []) (V1 := V14) hG dX12_isGlyph_50 l_X12_367 y0X12_simple yvX12_simple rfl (Nat.le_of_ble_eq_true rfl) lay_146 kr_12 (by decide) (Nat.le_of_ble_eq_true rfl) rfl rfl rfl (t_X12_simple hG ⟨rfl, rfl⟩ g15) ?_
        refine sx_goto (pc := 53) (tgt := 76) dX12_isGlyph_53 (by decide) ?_
        obtain ⟨g17, h⟩ := sx_grd h
        exact sv_zret (pc := 76) dX12_isGlyph_76 rfl g17 h hP
    · have h := sx_neg c4 h
      refine sx_iconst (pc := 32) (v := 0) dX12_isGlyph_32 (by decide) ?_
      exact sv_zret (pc := 33) dX12_isGlyph_33 rfl rfl h hP
  · have h := sx_pos c3 h
    refine sx_iconst (pc := 16) (v := 1) dX12_isGlyph_16 (by decide) ?_
    exact sv_zret (pc := 17) dX12_isGlyph_17 rfl rfl h hP
theorem dX12_areWithin_0 : decode cX12_areWithin 0 = .ok (.iconst 0, 1) := by decide +kernel
theorem dX12_areWithin_1 : decode cX12_areWithin 1 = .ok (.istore_n 1, 1) := by decide +kernel
theorem dX12_areWithin_2 : decode cX12_areWithin 2 = .ok (.iload_n 1, 1) := by decide +kernel
theorem dX12_areWithin_3 : decode cX12_areWithin 3 = .ok (.aload_n 0, 1) := by decide +kernel
theorem dX12_areWithin_4 : decode cX12_areWithin 4 = .ok (.getfield 331, 3) := by decide +kernel
theorem dX12_areWithin_7 : decode cX12_areWithin 7 = .ok (.if_icmp .gt 143, 3) := by decide +kernel
theorem dX12_areWithin_10 : decode cX12_areWithin 10 = .ok (.iconst 0, 1) := by decide +kernel
theorem dX12_areWithin_11 : decode cX12_areWithin 11 = .ok (.istore_n 2, 1) := by decide +kernel
theorem dX12_areWithin_12 : decode cX12_areWithin 12 = .ok (.iload_n 2, 1) := by decide +kernel
theorem dX12_areWithin_13 : decode cX12_areWithin 13 = .ok (.aload_n 0, 1) := by decide +kernel
theorem dX12_areWithin_14 : decode cX12_areWithin 14 = .ok (.getfield 260, 3) := by decide +kernel
theorem dX12_areWithin_17 : decode cX12_areWithin 17 = .ok (.if_icmp .ge 99, 3) := by decide +kernel
theorem dX12_areWithin_20 : decode cX12_areWithin 20 = .ok (.aload_n 0, 1) := by decide +kernel
theorem dX12_areWithin_21 : decode cX12_areWithin 21 = .ok (.iload_n 2, 1) := by decide +kernel
theorem dX12_areWithin_22 : decode cX12_areWithin 22 = .ok (.invokevirtual 278, 3) := by decide +kernel
theorem dX12_areWithin_25 : decode cX12_areWithin 25 = .ok (.istore_n 3, 1) := by decide +kernel
theorem dX12_areWithin_26 : decode cX12_areWithin 26 = .ok (.aload_n 0, 1) := by decide +kernel
theorem dX12_areWithin_27 : decode cX12_areWithin 27 = .ok (.getfield 61, 3) := by decide +kernel
theorem dX12_areWithin_30 : decode cX12_areWithin 30 = .ok (.iload_n 2, 1) := by decide +kernel
theorem dX12_areWithin_31 : decode cX12_areWithin 31 = .ok (.aload_n 0, 1) := by decide +kernel
theorem dX12_areWithin_32 : decode cX12_areWithin 32 = .ok (.getfield 348, 3) := by decide +kernel
theorem dX12_areWithin_35 : decode cX12_areWithin 35 = .ok (.iconst (-1), 1) := by decide +kernel
theorem dX12_areWithin_36 : decode cX12_areWithin 36 = .ok (.if_icmp .ne 7, 3) := by decide +kernel
theorem dX12_areWithin_39 : decode cX12_areWithin 39 = .ok (.iload_n 1, 1) := by decide +kernel
theorem dX12_areWithin_40 : decode cX12_areWithin 40 = .ok (.ifCond .le 7, 3) := by decide +kernel
theorem dX12_areWithin_43 : decode cX12_areWithin 43 = .ok (.iconst 1, 1) := by decide +kernel
theorem dX12_areWithin_44 : decode cX12_areWithin 44 = .ok (.goto 4, 3) := by decide +kernel
theorem dX12_areWithin_47 : decode cX12_areWithin 47 = .ok (.iconst 0, 1) := by decide +kernel
theorem dX12_areWithin_48 : decode cX12_areWithin 48 = .ok (.bastore, 1) := by decide +kernel
theorem dX12_areWithin_49 : decode cX12_areWithin 49 = .ok (.iconst 0, 1) := by decide +kernel
theorem dX12_areWithin_50 : decode cX12_areWithin 50 = .ok (.istore 4, 2) := by decide +kernel
theorem dX12_areWithin_52 : decode cX12_areWithin 52 = .ok (.iload 4, 2) := by decide +kernel
theorem dX12_areWithin_54 : decode cX12_areWithin 54 = .ok (.aload_n 0, 1) := by decide +kernel
theorem dX12_areWithin_55 : decode cX12_areWithin 55 = .ok (.getfield 354, 3) := by decide +kernel
theorem dX12_areWithin_58 : decode cX12_areWithin 58 = .ok (.if_icmp .ge 52, 3) := by decide +kernel
theorem dX12_areWithin_61 : decode cX12_areWithin 61 = .ok (.aload_n 0, 1) := by decide +kernel
theorem dX12_areWithin_62 : decode cX12_areWithin 62 = .ok (.getfield 348, 3) := by decide +kernel
theorem dX12_areWithin_65 : decode cX12_areWithin 65 = .ok (.iconst (-1), 1) := by decide +kernel
theorem dX12_areWithin_66 : decode cX12_areWithin 66 = .ok (.if_icmp .ne 44, 3) := by decide +kernel
theorem dX12_areWithin_69 : decode cX12_areWithin 69 = .ok (.aload_n 0, 1) := by decide +kernel
theorem dX12_areWithin_70 : decode cX12_areWithin 70 = .ok (.getfield 61, 3) := by decide +kernel
theorem dX12_areWithin_73 : decode cX12_areWithin 73 = .ok (.iload_n 2, 1) := by decide +kernel
theorem dX12_areWithin_74 : decode cX12_areWithin 74 = .ok (.aload_n 0, 1) := by decide +kernel
theorem dX12_areWithin_75 : decode cX12_areWithin 75 = .ok (.getfield 61, 3) := by decide +kernel
theorem dX12_areWithin_78 : decode cX12_areWithin 78 = .ok (.iload_n 2, 1) := by decide +kernel
theorem dX12_areWithin_79 : decode cX12_areWithin 79 = .ok (.baload, 1) := by decide +kernel
theorem dX12_areWithin_80 : decode cX12_areWithin 80 = .ok (.ifCond .eq 22, 3) := by decide +kernel
theorem dX12_areWithin_83 : decode cX12_areWithin 83 = .ok (.aload_n 0, 1) := by decide +kernel
theorem dX12_areWithin_84 : decode cX12_areWithin 84 = .ok (.getfield 57, 3) := by decide +kernel
theorem dX12_areWithin_87 : decode cX12_areWithin 87 = .ok (.aload_n 0, 1) := by decide +kernel
theorem dX12_areWithin_88 : decode cX12_areWithin 88 = .ok (.getfield 45, 3) := by decide +kernel
theorem dX12_areWithin_91 : decode cX12_areWithin 91 = .ok (.iload 4, 2) := by decide +kernel
theorem dX12_areWithin_93 : decode cX12_areWithin 93 = .ok (.iaload, 1) := by decide +kernel
theorem dX12_areWithin_94 : decode cX12_areWithin 94 = .ok (.baload, 1) := by decide +kernel
theorem dX12_areWithin_95 : decode cX12_areWithin 95 = .ok (.ifCond .eq 7, 3) := by decide +kernel
theorem dX12_areWithin_98 : decode cX12_areWithin 98 = .ok (.iconst 1, 1) := by decide +kernel
theorem dX12_areWithin_99 : decode cX12_areWithin 99 = .ok (.goto 4, 3) := by decide +kernel
theorem dX12_areWithin_102 : decode cX12_areWithin 102 = .ok (.iconst 0, 1) := by decide +kernel
theorem dX12_areWithin_103 : decode cX12_areWithin 103 = .ok (.bastore, 1) := by decide +kernel
theorem dX12_areWithin_104 : decode cX12_areWithin 104 = .ok (.iinc 4 1, 3) := by decide +kernel
theorem dX12_areWithin_107 : decode cX12_areWithin 107 = .ok (.goto (-55), 3) := by decide +kernel
theorem dX12_areWithin_110 : decode cX12_areWithin 110 = .ok (.iinc 2 1, 3) := by decide +kernel
theorem dX12_areWithin_113 : decode cX12_areWithin 113 = .ok (.goto (-101), 3) := by decide +kernel
theorem dX12_areWithin_116 : decode cX12_areWithin 116 = .ok (.iconst 0, 1) := by decide +kernel
theorem dX12_areWithin_117 : decode cX12_areWithin 117 = .ok (.istore_n 2, 1) := by decide +kernel
theorem dX12_areWithin_118 : decode cX12_areWithin 118 = .ok (.iload_n 2, 1) := by decide +kernel
theorem dX12_areWithin_119 : decode cX12_areWithin 119 = .ok (.aload_n 0, 1) := by decide +kernel
theorem dX12_areWithin_120 : decode cX12_areWithin 120 = .ok (.getfield 260, 3) := by decide +kernel
theorem dX12_areWithin_123 : decode cX12_areWithin 123 = .ok (.if_icmp .ge 21, 3) := by decide +kernel
theorem dX12_areWithin_126 : decode cX12_areWithin 126 = .ok (.aload_n 0, 1) := by decide +kernel
theorem dX12_areWithin_127 : decode cX12_areWithin 127 = .ok (.getfield 57, 3) := by decide +kernel
theorem dX12_areWithin_130 : decode cX12_areWithin 130 = .ok (.iload_n 2, 1) := by decide +kernel
theorem dX12_areWithin_131 : decode cX12_areWithin 131 = .ok (.aload_n 0, 1) := by decide +kernel
theorem dX12_areWithin_132 : decode cX12_areWithin 132 = .ok (.getfield 61, 3) := by decide +kernel
theorem dX12_areWithin_135 : decode cX12_areWithin 135 = .ok (.iload_n 2, 1) := by decide +kernel
theorem dX12_areWithin_136 : decode cX12_areWithin 136 = .ok (.baload, 1) := by decide +kernel
theorem dX12_areWithin_137 : decode cX12_areWithin 137 = .ok (.bastore, 1) := by decide +kernel
theorem dX12_areWithin_138 : decode cX12_areWithin 138 = .ok (.iinc 2 1, 3) := by decide +kernel
theorem dX12_areWithin_141 : decode cX12_areWithin 141 = .ok (.goto (-23), 3) := by decide +kernel
theorem dX12_areWithin_144 : decode cX12_areWithin 144 = .ok (.iinc 1 1, 3) := by decide +kernel
theorem dX12_areWithin_147 : decode cX12_areWithin 147 = .ok (.goto (-145), 3) := by decide +kernel
theorem dX12_areWithin_150 : decode cX12_areWithin 150 = .ok (.iconst 0, 1) := by decide +kernel
theorem dX12_areWithin_151 : decode cX12_areWithin 151 = .ok (.istore_n 1, 1) := by decide +kernel
theorem dX12_areWithin_152 : decode cX12_areWithin 152 = .ok (.iload_n 1, 1) := by decide +kernel
theorem dX12_areWithin_153 : decode cX12_areWithin 153 = .ok (.aload_n 0, 1) := by decide +kernel
theorem dX12_areWithin_154 : decode cX12_areWithin 154 = .ok (.getfield 260, 3) := by decide +kernel
theorem dX12_areWithin_157 : decode cX12_areWithin 157 = .ok (.if_icmp .ge 20, 3) := by decide +kernel
theorem dX12_areWithin_160 : decode cX12_areWithin 160 = .ok (.aload_n 0, 1) := by decide +kernel
theorem dX12_areWithin_161 : decode cX12_areWithin 161 = .ok (.getfield 57, 3) := by decide +kernel
theorem dX12_areWithin_164 : decode cX12_areWithin 164 = .ok (.iload_n 1, 1) := by decide +kernel
theorem dX12_areWithin_165 : decode cX12_areWithin 165 = .ok (.baload, 1) := by decide +kernel
theorem dX12_areWithin_166 : decode cX12_areWithin 166 = .ok (.ifCond .ne 5, 3) := by decide +kernel
theorem dX12_areWithin_169 : decode cX12_areWithin 169 = .ok (.iconst 0, 1) := by decide +kernel
theorem dX12_areWithin_170 : decode cX12_areWithin 170 = .ok (.ireturn, 1) := by decide +kernel
theorem dX12_areWithin_171 : decode cX12_areWithin 171 = .ok (.iinc 1 1, 3) := by decide +kernel
theorem dX12_areWithin_174 : decode cX12_areWithin 174 = .ok (.goto (-22), 3) := by decide +kernel
theorem dX12_areWithin_177 : decode cX12_areWithin 177 = .ok (.iconst 1, 1) := by decide +kernel
theorem dX12_areWithin_178 : decode cX12_areWithin 178 = .ok (.ireturn, 1) := by decide +kernel
def B_X12_areWithin_103 (N : Nat) (k2 : Int32 → sv_V → Option (Int32 × sv_V)) (k12 : Int32 → Int32 → sv_V → Option (Int32 × sv_V)) (k52 : Int32 → Int32 → Int32 → sv_V → Option (Int32 × sv_V)) (l1 : Int32) (l2 : Int32) (l4 : Int32) (s1 : Int32) (s2 : Int32) (V : sv_V) : Option (Int32 × sv_V) := if sx_in s1 200 = true then if sv_bl s2 = true then sx_let (sv_I V 163 s1.toNatClampNeg s2) (fun V3 => sx_let (l4 + 1) (fun x4 => k52 l1 l2 x4 V3)) else none else none
set_option maxRecDepth 20000 in
theorem tB_X12_areWithin_103 {g : sx_G} (hG : sx_Go g) {P : Option Value → sv_V → Prop} {r : Int32} {Vr : sv_V} (hP : P (some (.int r)) Vr) {N : Nat} {k2 : Int32 → sv_V → Option (Int32 × sv_V)} {k12 : Int32 → Int32 → sv_V → Option (Int32 × sv_V)} {k52 : Int32 → Int32 → Int32 → sv_V → Option (Int32 × sv_V)} (hk2 : ∀ (l1 : Int32) (V : sv_V), k2 l1 V = some (r, Vr) → sv_N g qX12_areWithin 6 2 [(0, .ref 146), (1, .int l1)] [] V P) (hk12 : ∀ (l1 : Int32) (l2 : Int32) (V : sv_V), k12 l1 l2 V = some (r, Vr) → sv_N g qX12_areWithin 6 12 [(0, .ref 146), (1, .int l1), (2, .int l2)] [] V P) (hk52 : ∀ (l1 : Int32) (l2 : Int32) (l4 : Int32) (V : sv_V), k52 l1 l2 l4 V = some (r, Vr) → sv_N g qX12_areWithin 6 52 [(0, .ref 146), (1, .int l1), (2, .int l2), (4, .int l4)] [] V P) {l1 : Int32} {l2 : Int32} {l4 : Int32} {s1 : Int32} {s2 : Int32} {V : sv_V} (h : B_X12_areWithin_103 N k2 k12 k52 l1 l2 l4 s1 s2 V = some (r, Vr)) : sv_N g qX12_areWithin 6 103 [(0, .ref 146), (1, .int l1), (2, .int l2), (4, .int l4)] [.int s2, .int s1, .ref 163] V P := by
  unfold B_X12_areWithin_103 at h
  obtain ⟨g1, h⟩ := sx_grd h
  obtain ⟨g2, h⟩ := sx_grd h
  obtain ⟨V3, hV3⟩ : ∃ z : sv_V, z = sv_I V 163 s1.toNatClampNeg s2 := ⟨_, rfl⟩
  have h := sx_letE hV3 h
  refine sv_zast (pc := 103) hG dX12_areWithin_103 lay_163 g1 g2 hV3 ?_
  obtain ⟨x4, hx4⟩ : ∃ z : Int32, z = l4 + 1 := ⟨_, rfl⟩
  have h := sx_letE hx4 h
  refine sx_iinc (pc := 104) (v := x4) (lo' := [(4, .int x4), (0, .ref 146), (1, .int l1), (2, .int l2)]) dX12_areWithin_104 sx_m3 (by rw [hx4]; rfl) (by decide) rfl ?_
  refine sx_goto (pc := 107) (tgt := 52) dX12_areWithin_107 (by decide) ?_
  refine sx_wk (sx_s1 sx_m1 (sx_s1 sx_m2 (sx_s1 sx_m3 (sx_s1 sx_m0 sx_s0)))) ?_
  exact hk52 _ _ _ _ h
def B_X12_areWithin_102 (N : Nat) (k2 : Int32 → sv_V → Option (Int32 × sv_V)) (k12 : Int32 → Int32 → sv_V → Option (Int32 × sv_V)) (k52 : Int32 → Int32 → Int32 → sv_V → Option (Int32 × sv_V)) (l1 : Int32) (l2 : Int32) (l4 : Int32) (s1 : Int32) (V : sv_V) : Option (Int32 × sv_V) := B_X12_areWithin_103 N k2 k12 k52 l1 l2 l4 s1 (0 : Int32) V
set_option maxRecDepth 20000 in
theorem tB_X12_areWithin_102 {g : sx_G} (hG : sx_Go g) {P : Option Value → sv_V → Prop} {r : Int32} {Vr : sv_V} (hP : P (some (.int r)) Vr) {N : Nat} {k2 : Int32 → sv_V → Option (Int32 × sv_V)} {k12 : Int32 → Int32 → sv_V → Option (Int32 × sv_V)} {k52 : Int32 → Int32 → Int32 → sv_V → Option (Int32 × sv_V)} (hk2 : ∀ (l1 : Int32) (V : sv_V), k2 l1 V = some (r, Vr) → sv_N g qX12_areWithin 6 2 [(0, .ref 146), (1, .int l1)] [] V P) (hk12 : ∀ (l1 : Int32) (l2 : Int32) (V : sv_V), k12 l1 l2 V = some (r, Vr) → sv_N g qX12_areWithin 6 12 [(0, .ref 146), (1, .int l1), (2, .int l2)] [] V P) (hk52 : ∀ (l1 : Int32) (l2 : Int32) (l4 : Int32) (V : sv_V), k52 l1 l2 l4 V = some (r, Vr) → sv_N g qX12_areWithin 6 52 [(0, .ref 146), (1, .int l1), (2, .int l2), (4, .int l4)] [] V P) {l1 : Int32} {l2 : Int32} {l4 : Int32} {s1 : Int32} {V : sv_V} (h : B_X12_areWithin_102 N k2 k12 k52 l1 l2 l4 s1 V = some (r, Vr)) : sv_N g qX12_areWithin 6 102 [(0, .ref 146), (1, .int l1), (2, .int l2), (4, .int l4)] [.int s1, .ref 163] V P := by
  unfold B_X12_areWithin_102 at h
  refine sx_iconst (pc := 102) (v := 0) dX12_areWithin_102 (by decide) ?_
  refine sx_wk (sx_s1 sx_m0 (sx_s1 sx_m1 (sx_s1 sx_m2 (sx_s1 sx_m3 sx_s0)))) ?_
  exact tB_X12_areWithin_103 hG hP hk2 hk12 hk52 h
def B_X12_areWithin_110 (N : Nat) (k2 : Int32 → sv_V → Option (Int32 × sv_V)) (k12 : Int32 → Int32 → sv_V → Option (Int32 × sv_V)) (l1 : Int32) (l2 : Int32) (V : sv_V) : Option (Int32 × sv_V) := sx_let (l2 + 1) (fun x5 => k12 l1 x5 V)
set_option maxRecDepth 20000 in
theorem tB_X12_areWithin_110 {g : sx_G} (hG : sx_Go g) {P : Option Value → sv_V → Prop} {r : Int32} {Vr : sv_V} (hP : P (some (.int r)) Vr) {N : Nat} {k2 : Int32 → sv_V → Option (Int32 × sv_V)} {k12 : Int32 → Int32 → sv_V → Option (Int32 × sv_V)} (hk2 : ∀ (l1 : Int32) (V : sv_V), k2 l1 V = some (r, Vr) → sv_N g qX12_areWithin 6 2 [(0, .ref 146), (1, .int l1)] [] V P) (hk12 : ∀ (l1 : Int32) (l2 : Int32) (V : sv_V), k12 l1 l2 V = some (r, Vr) → sv_N g qX12_areWithin 6 12 [(0, .ref 146), (1, .int l1), (2, .int l2)] [] V P) {l1 : Int32} {l2 : Int32} {V : sv_V} (h : B_X12_areWithin_110 N k2 k12 l1 l2 V = some (r, Vr)) : sv_N g qX12_areWithin 6 110 [(0, .ref 146), (1, .int l1), (2, .int l2)] [] V P := by
  unfold B_X12_areWithin_110 at h
  obtain ⟨x5, hx5⟩ : ∃ z : Int32, z = l2 + 1 := ⟨_, rfl⟩
  have h := sx_letE hx5 h
  refine sx_iinc (pc := 110) (v := x5) (lo' := [(2, .int x5), (0, .ref 146), (1, .int l1)]) dX12_areWithin_110 sx_m2 (by rw [hx5]; rfl) (by decide) rfl ?_
  refine sx_goto (pc := 113) (tgt := 12) dX12_areWithin_113 (by decide) ?_
  refine sx_wk (sx_s1 sx_m1 (sx_s1 sx_m2 (sx_s1 sx_m0 sx_s0))) ?_
  exact hk12 _ _ _ h
def B_X12_areWithin_52 (N : Nat) (k2 : Int32 → sv_V → Option (Int32 × sv_V)) (k12 : Int32 → Int32 → sv_V → Option (Int32 × sv_V)) (k52 : Int32 → Int32 → Int32 → sv_V → Option (Int32 × sv_V)) (l1 : Int32) (l2 : Int32) (l4 : Int32) (V : sv_V) : Option (Int32 × sv_V) := if (V.1 146 30) ≤ l4 then (B_X12_areWithin_110 N k2 k12 l1 l2 V) else (if (V.1 146 28) = (-1 : Int32) then (if sx_in l2 200 = true then if (V.1 163 l2.toNatClampNeg) = 0 then (B_X12_areWithin_102 N k2 k12 k52 l1 l2 l4 l2 V) else (if sx_in l4 8 = true then if sx_in (V.1 158 l4.toNatClampNeg) 200 = true then if (V.1 162 (V.1 158 l4.toNatClampNeg).toNatClampNeg) = 0 then (B_X12_areWithin_102 N k2 k12 k52 l1 l2 l4 l2 V) else (B_X12_areWithin_103 N k2 k12 k52 l1 l2 l4 l2 (1 : Int32) V) else none else none) else none) else (B_X12_areWithin_110 N k2 k12 l1 l2 V))
set_option maxRecDepth 20000 in
theorem tB_X12_areWithin_52 {g : sx_G} (hG : sx_Go g) {P : Option Value → sv_V → Prop} {r : Int32} {Vr : sv_V} (hP : P (some (.int r)) Vr) {N : Nat} {k2 : Int32 → sv_V → Option (Int32 × sv_V)} {k12 : Int32 → Int32 → sv_V → Option (Int32 × sv_V)} {k52 : Int32 → Int32 → Int32 → sv_V → Option (Int32 × sv_V)} (hk2 : ∀ (l1 : Int32) (V : sv_V), k2 l1 V = some (r, Vr) → sv_N g qX12_areWithin 6 2 [(0, .ref 146), (1, .int l1)] [] V P) (hk12 : ∀ (l1 : Int32) (l2 : Int32) (V : sv_V), k12 l1 l2 V = some (r, Vr) → sv_N g qX12_areWithin 6 12 [(0, .ref 146), (1, .int l1), (2, .int l2)] [] V P) (hk52 : ∀ (l1 : Int32) (l2 : Int32) (l4 : Int32) (V : sv_V), k52 l1 l2 l4 V = some (r, Vr) → sv_N g qX12_areWithin 6 52 [(0, .ref 146), (1, .int l1), (2, .int l2), (4, .int l4)] [] V P) {l1 : Int32} {l2 : Int32} {l4 : Int32} {V : sv_V} (h : B_X12_areWithin_52 N k2 k12 k52 l1 l2 l4 V = some (r, Vr)) : sv_N g qX12_areWithin 6 52 [(0, .ref 146), (1, .int l1), (2, .int l2), (4, .int l4)] [] V P := by
  unfold B_X12_areWithin_52 at h
  refine sx_iload (pc := 52) dX12_areWithin_52 sx_m3 ?_
  refine sx_aload_n (pc := 54) dX12_areWithin_54 sx_m0 ?_
  refine sv_getI (pc := 55) hG dX12_areWithin_55 f_12_354 lay_146 rfl ?_
  refine sx_icmp_ge (pc := 58) (tgt := 110) dX12_areWithin_58 (by decide) (fun c6 => ?_) (fun c6 => ?_)
  · have h := sx_pos c6 h
    refine sx_wk (sx_s1 sx_m0 (sx_s1 sx_m1 (sx_s1 sx_m2 sx_s0))) ?_
    exact tB_X12_areWithin_110 hG hP hk2 hk12 h
  · have h := sx_neg c6 h
    refine sx_aload_n (pc := 61) dX12_areWithin_61 sx_m0 ?_
    refine sv_getI (pc := 62) hG dX12_areWithin_62 f_12_348 lay_146 rfl ?_
    refine sx_iconst (pc := 65) (v := (-1)) dX12_areWithin_65 (by decide) ?_
    refine sx_icmp_ne (pc := 66) (tgt := 110) dX12_areWithin_66 (by decide) (fun c7 => ?_) (fun c7 => ?_)
    · have h := sx_neg c7 h
      refine sx_wk (sx_s1 sx_m0 (sx_s1 sx_m1 (sx_s1 sx_m2 sx_s0))) ?_
      exact tB_X12_areWithin_110 hG hP hk2 hk12 h
    · have h := sx_pos c7 h
      refine sx_aload_n (pc := 69) dX12_areWithin_69 sx_m0 ?_
      refine sv_getA (pc := 70) hG dX12_areWithin_70 f_12_61 lay_146 rfl cr_146_43 ?_
      refine sx_iload_n (pc := 73) dX12_areWithin_73 sx_m2 ?_
      refine sx_aload_n (pc := 74) dX12_areWithin_74 sx_m0 ?_
      refine sv_getA (pc := 75) hG dX12_areWithin_75 f_12_61 lay_146 rfl cr_146_43 ?_
      refine sx_iload_n (pc := 78) dX12_areWithin_78 sx_m2 ?_
      obtain ⟨g8, h⟩ := sx_grd h
      refine sv_zald (pc := 79) hG dX12_areWithin_79 lay_163 g8 ?_
      refine sx_if_eq (pc := 80) (tgt := 102) dX12_areWithin_80 (by decide) (fun c9 => ?_) (fun c9 => ?_)
      · have h := sx_pos c9 h
        refine sx_wk (sx_s1 sx_m0 (sx_s1 sx_m1 (sx_s1 sx_m2 (sx_s1 sx_m3 sx_s0)))) ?_
        exact tB_X12_areWithin_102 hG hP hk2 hk12 hk52 h
      · have h := sx_neg c9 h
        refine sx_aload_n (pc := 83) dX12_areWithin_83 sx_m0 ?_
        refine sv_getA (pc := 84) hG dX12_areWithin_84 f_12_57 lay_146 rfl cr_146_42 ?_
        refine sx_aload_n (pc := 87) dX12_areWithin_87 sx_m0 ?_
        refine sv_getA (pc := 88) hG dX12_areWithin_88 f_12_45 lay_146 rfl cr_146_38 ?_
        refine sx_iload (pc := 91) dX12_areWithin_91 sx_m3 ?_
        obtain ⟨g10, h⟩ := sx_grd h
        refine sv_iald (pc := 93) hG dX12_areWithin_93 lay_158 g10 ?_
        obtain ⟨g11, h⟩ := sx_grd h
        refine sv_zald (pc := 94) hG dX12_areWithin_94 lay_162 g11 ?_
        refine sx_if_eq (pc := 95) (tgt := 102) dX12_areWithin_95 (by decide) (fun c12 => ?_) (fun c12 => ?_)
        · have h := sx_pos c12 h
          refine sx_wk (sx_s1 sx_m0 (sx_s1 sx_m1 (sx_s1 sx_m2 (sx_s1 sx_m3 sx_s0)))) ?_
          exact tB_X12_areWithin_102 hG hP hk2 hk12 hk52 h
        · have h := sx_neg c12 h
          refine sx_iconst (pc := 98) (v := 1) dX12_areWithin_98 (by decide) ?_
          refine sx_goto (pc := 99) (tgt := 103) dX12_areWithin_99 (by decide) ?_
          refine sx_wk (sx_s1 sx_m0 (sx_s1 sx_m1 (sx_s1 sx_m2 (sx_s1 sx_m3 sx_s0)))) ?_
          exact tB_X12_areWithin_103 hG hP hk2 hk12 hk52 h
theorem tL_X12_areWithin_52 {g : sx_G} (hG : sx_Go g) {P : Option Value → sv_V → Prop} {r : Int32} {Vr : sv_V} (hP : P (some (.int r)) Vr) {N : Nat} {k2 : Int32 → sv_V → Option (Int32 × sv_V)} {k12 : Int32 → Int32 → sv_V → Option (Int32 × sv_V)} (hk2 : ∀ (l1 : Int32) (V : sv_V), k2 l1 V = some (r, Vr) → sv_N g qX12_areWithin 6 2 [(0, .ref 146), (1, .int l1)] [] V P) (hk12 : ∀ (l1 : Int32) (l2 : Int32) (V : sv_V), k12 l1 l2 V = some (r, Vr) → sv_N g qX12_areWithin 6 12 [(0, .ref 146), (1, .int l1), (2, .int l2)] [] V P) : ∀ (n : Nat) (l1 : Int32) (l2 : Int32) (l4 : Int32) (V : sv_V), sx_lp4 (B_X12_areWithin_52 N k2 k12) n l1 l2 l4 V = some (r, Vr) → sv_N g qX12_areWithin 6 52 [(0, .ref 146), (1, .int l1), (2, .int l2), (4, .int l4)] [] V P :=
  sx_lp4_ind (fun k0 ih _ _ _ V h => tB_X12_areWithin_52 hG hP hk2 hk12 ih h)
def B_X12_areWithin_48 (N : Nat) (k2 : Int32 → sv_V → Option (Int32 × sv_V)) (k12 : Int32 → Int32 → sv_V → Option (Int32 × sv_V)) (l1 : Int32) (l2 : Int32) (s1 : Int32) (s2 : Int32) (V : sv_V) : Option (Int32 × sv_V) := if sx_in s1 200 = true then if sv_bl s2 = true then sx_let (sv_I V 163 s1.toNatClampNeg s2) (fun V15 => sx_lp4 (B_X12_areWithin_52 N k2 k12) N l1 l2 (0 : Int32) V15) else none else none
set_option maxRecDepth 20000 in
theorem tB_X12_areWithin_48 {g : sx_G} (hG : sx_Go g) {P : Option Value → sv_V → Prop} {r : Int32} {Vr : sv_V} (hP : P (some (.int r)) Vr) {N : Nat} {k2 : Int32 → sv_V → Option (Int32 × sv_V)} {k12 : Int32 → Int32 → sv_V → Option (Int32 × sv_V)} (hk2 : ∀ (l1 : Int32) (V : sv_V), k2 l1 V = some (r, Vr) → sv_N g qX12_areWithin 6 2 [(0, .ref 146), (1, .int l1)] [] V P) (hk12 : ∀ (l1 : Int32) (l2 : Int32) (V : sv_V), k12 l1 l2 V = some (r, Vr) → sv_N g qX12_areWithin 6 12 [(0, .ref 146), (1, .int l1), (2, .int l2)] [] V P) {l1 : Int32} {l2 : Int32} {s1 : Int32} {s2 : Int32} {V : sv_V} (h : B_X12_areWithin_48 N k2 k12 l1 l2 s1 s2 V = some (r, Vr)) : sv_N g qX12_areWithin 6 48 [(0, .ref 146), (1, .int l1), (2, .int l2)] [.int s2, .int s1, .ref 163] V P := by
  unfold B_X12_areWithin_48 at h
  obtain ⟨g13, h⟩ := sx_grd h
  obtain ⟨g14, h⟩ := sx_grd h
  obtain ⟨V15, hV15⟩ : ∃ z : sv_V, z = sv_I V 163 s1.toNatClampNeg s2 := ⟨_, rfl⟩
  have h := sx_letE hV15 h
  refine sv_zast (pc := 48) hG dX12_areWithin_48 lay_163 g13 g14 hV15 ?_
  refine sx_iconst (pc := 49) (v := 0) dX12_areWithin_49 (by decide) ?_
  refine sx_istore (pc := 50) (lo' := [(4, .int (0 : Int32)), (0, .ref 146), (1, .int l1), (2, .int l2)]) dX12_areWithin_50 (by decide) rfl ?_
  refine sx_wk (sx_s1 sx_m1 (sx_s1 sx_m2 (sx_s1 sx_m3 (sx_s1 sx_m0 sx_s0)))) ?_
  exact tL_X12_areWithin_52 hG hP hk2 hk12 N _ _ _ _ h
def B_X12_areWithin_43 (N : Nat) (k2 : Int32 → sv_V → Option (Int32 × sv_V)) (k12 : Int32 → Int32 → sv_V → Option (Int32 × sv_V)) (l1 : Int32) (l2 : Int32) (s1 : Int32) (V : sv_V) : Option (Int32 × sv_V) := B_X12_areWithin_48 N k2 k12 l1 l2 s1 (1 : Int32) V
set_option maxRecDepth 20000 in
theorem tB_X12_areWithin_43 {g : sx_G} (hG : sx_Go g) {P : Option Value → sv_V → Prop} {r : Int32} {Vr : sv_V} (hP : P (some (.int r)) Vr) {N : Nat} {k2 : Int32 → sv_V → Option (Int32 × sv_V)} {k12 : Int32 → Int32 → sv_V → Option (Int32 × sv_V)} (hk2 : ∀ (l1 : Int32) (V : sv_V), k2 l1 V = some (r, Vr) → sv_N g qX12_areWithin 6 2 [(0, .ref 146), (1, .int l1)] [] V P) (hk12 : ∀ (l1 : Int32) (l2 : Int32) (V : sv_V), k12 l1 l2 V = some (r, Vr) → sv_N g qX12_areWithin 6 12 [(0, .ref 146), (1, .int l1), (2, .int l2)] [] V P) {l1 : Int32} {l2 : Int32} {s1 : Int32} {V : sv_V} (h : B_X12_areWithin_43 N k2 k12 l1 l2 s1 V = some (r, Vr)) : sv_N g qX12_areWithin 6 43 [(0, .ref 146), (1, .int l1), (2, .int l2)] [.int s1, .ref 163] V P := by
  unfold B_X12_areWithin_43 at h
  refine sx_iconst (pc := 43) (v := 1) dX12_areWithin_43 (by decide) ?_
  refine sx_goto (pc := 44) (tgt := 48) dX12_areWithin_44 (by decide) ?_
  refine sx_wk (sx_s1 sx_m0 (sx_s1 sx_m1 (sx_s1 sx_m2 sx_s0))) ?_
  exact tB_X12_areWithin_48 hG hP hk2 hk12 h
def B_X12_areWithin_118 (N : Nat) (k2 : Int32 → sv_V → Option (Int32 × sv_V)) (k118 : Int32 → Int32 → sv_V → Option (Int32 × sv_V)) (l1 : Int32) (l2 : Int32) (V : sv_V) : Option (Int32 × sv_V) := if (V.1 146 12) ≤ l2 then (sx_let (l1 + 1) (fun x17 => k2 x17 V)) else (if sx_in l2 200 = true then if sx_in l2 200 = true then if sv_bl (V.1 163 l2.toNatClampNeg) = true then sx_let (sv_I V 162 l2.toNatClampNeg (V.1 163 l2.toNatClampNeg)) (fun V21 => sx_let (l2 + 1) (fun x22 => k118 l1 x22 V21)) else none else none else none)
set_option maxRecDepth 20000 in
theorem tB_X12_areWithin_118 {g : sx_G} (hG : sx_Go g) {P : Option Value → sv_V → Prop} {r : Int32} {Vr : sv_V} (hP : P (some (.int r)) Vr) {N : Nat} {k2 : Int32 → sv_V → Option (Int32 × sv_V)} {k118 : Int32 → Int32 → sv_V → Option (Int32 × sv_V)} (hk2 : ∀ (l1 : Int32) (V : sv_V), k2 l1 V = some (r, Vr) → sv_N g qX12_areWithin 6 2 [(0, .ref 146), (1, .int l1)] [] V P) (hk118 : ∀ (l1 : Int32) (l2 : Int32) (V : sv_V), k118 l1 l2 V = some (r, Vr) → sv_N g qX12_areWithin 6 118 [(0, .ref 146), (1, .int l1), (2, .int l2)] [] V P) {l1 : Int32} {l2 : Int32} {V : sv_V} (h : B_X12_areWithin_118 N k2 k118 l1 l2 V = some (r, Vr)) : sv_N g qX12_areWithin 6 118 [(0, .ref 146), (1, .int l1), (2, .int l2)] [] V P := by
  unfold B_X12_areWithin_118 at h
  refine sx_iload_n (pc := 118) dX12_areWithin_118 sx_m2 ?_
  refine sx_aload_n (pc := 119) dX12_areWithin_119 sx_m0 ?_
  refine sv_getI (pc := 120) hG dX12_areWithin_120 f_12_260 lay_146 rfl ?_
  refine sx_icmp_ge (pc := 123) (tgt := 144) dX12_areWithin_123 (by decide) (fun c16 => ?_) (fun c16 => ?_)
  · have h := sx_pos c16 h
    obtain ⟨x17, hx17⟩ : ∃ z : Int32, z = l1 + 1 := ⟨_, rfl⟩
    have h := sx_letE hx17 h
    refine sx_iinc (pc := 144) (v := x17) (lo' := [(1, .int x17), (0, .ref 146), (2, .int l2)]) dX12_areWithin_144 sx_m1 (by rw [hx17]; rfl) (by decide) rfl ?_
    refine sx_goto (pc := 147) (tgt := 2) dX12_areWithin_147 (by decide) ?_
    refine sx_wk (sx_s1 sx_m1 (sx_s1 sx_m0 sx_s0)) ?_
    exact hk2 _ _ h
  · have h := sx_neg c16 h
    refine sx_aload_n (pc := 126) dX12_areWithin_126 sx_m0 ?_
    refine sv_getA (pc := 127) hG dX12_areWithin_127 f_12_57 lay_146 rfl cr_146_42 ?_
    refine sx_iload_n (pc := 130) dX12_areWithin_130 sx_m2 ?_
    refine sx_aload_n (pc := 131) dX12_areWithin_131 sx_m0 ?_
    refine sv_getA (pc := 132) hG dX12_areWithin_132 f_12_61 lay_146 rfl cr_146_43 ?_
    refine sx_iload_n (pc := 135) dX12_areWithin_135 sx_m2 ?_
    obtain ⟨g18, h⟩ := sx_grd h
    refine sv_zald (pc := 136) hG dX12_areWithin_136 lay_163 g18 ?_
    obtain ⟨g19, h⟩ := sx_grd h
    obtain ⟨g20, h⟩ := sx_grd h
    obtain ⟨V21, hV21⟩ : ∃ z : sv_V, z = sv_I V 162 l2.toNatClampNeg (V.1 163 l2.toNatClampNeg) := ⟨_, rfl⟩
    have h := sx_letE hV21 h
    refine sv_zast (pc := 137) hG dX12_areWithin_137 lay_162 g19 g20 hV21 ?_
    obtain ⟨x22, hx22⟩ : ∃ z : Int32, z = l2 + 1 := ⟨_, rfl⟩
    have h := sx_letE hx22 h
    refine sx_iinc (pc := 138) (v := x22) (lo' := [(2, .int x22), (0, .ref 146), (1, .int l1)]) dX12_areWithin_138 sx_m2 (by rw [hx22]; rfl) (by decide) rfl ?_
    refine sx_goto (pc := 141) (tgt := 118) dX12_areWithin_141 (by decide) ?_
    refine sx_wk (sx_s1 sx_m1 (sx_s1 sx_m2 (sx_s1 sx_m0 sx_s0))) ?_
    exact hk118 _ _ _ h
theorem tL_X12_areWithin_118 {g : sx_G} (hG : sx_Go g) {P : Option Value → sv_V → Prop} {r : Int32} {Vr : sv_V} (hP : P (some (.int r)) Vr) {N : Nat} {k2 : Int32 → sv_V → Option (Int32 × sv_V)} (hk2 : ∀ (l1 : Int32) (V : sv_V), k2 l1 V = some (r, Vr) → sv_N g qX12_areWithin 6 2 [(0, .ref 146), (1, .int l1)] [] V P) : ∀ (n : Nat) (l1 : Int32) (l2 : Int32) (V : sv_V), sx_lp3 (B_X12_areWithin_118 N k2) n l1 l2 V = some (r, Vr) → sv_N g qX12_areWithin 6 118 [(0, .ref 146), (1, .int l1), (2, .int l2)] [] V P :=
  sx_lp3_ind (fun k0 ih _ _ V h => tB_X12_areWithin_118 hG hP hk2 ih h)
def B_X12_areWithin_12 (N : Nat) (k2 : Int32 → sv_V → Option (Int32 × sv_V)) (k12 : Int32 → Int32 → sv_V → Option (Int32 × sv_V)) (l1 : Int32) (l2 : Int32) (V : sv_V) : Option (Int32 × sv_V) := if (V.1 146 12) ≤ l2 then (sx_lp3 (B_X12_areWithin_118 N k2) N l1 (0 : Int32) V) else ((F_X12_isGlyph N l2 V).bind (fun (x26, V24) => if (V24.1 146 28) = (-1 : Int32) then (if l1 ≤ 0 then (B_X12_areWithin_48 N k2 k12 l1 l2 l2 (0 : Int32) V24) else (B_X12_areWithin_43 N k2 k12 l1 l2 l2 V24)) else (B_X12_areWithin_43 N k2 k12 l1 l2 l2 V24)))
set_option maxRecDepth 20000 in
theorem tB_X12_areWithin_12 {g : sx_G} (hG : sx_Go g) {P : Option Value → sv_V → Prop} {r : Int32} {Vr : sv_V} (hP : P (some (.int r)) Vr) {N : Nat} {k2 : Int32 → sv_V → Option (Int32 × sv_V)} {k12 : Int32 → Int32 → sv_V → Option (Int32 × sv_V)} (hk2 : ∀ (l1 : Int32) (V : sv_V), k2 l1 V = some (r, Vr) → sv_N g qX12_areWithin 6 2 [(0, .ref 146), (1, .int l1)] [] V P) (hk12 : ∀ (l1 : Int32) (l2 : Int32) (V : sv_V), k12 l1 l2 V = some (r, Vr) → sv_N g qX12_areWithin 6 12 [(0, .ref 146), (1, .int l1), (2, .int l2)] [] V P) {l1 : Int32} {l2 : Int32} {V : sv_V} (h : B_X12_areWithin_12 N k2 k12 l1 l2 V = some (r, Vr)) : sv_N g qX12_areWithin 6 12 [(0, .ref 146), (1, .int l1), (2, .int l2)] [] V P := by
  unfold B_X12_areWithin_12 at h
  refine sx_iload_n (pc := 12) dX12_areWithin_12 sx_m2 ?_
  refine sx_aload_n (pc := 13) dX12_areWithin_13 sx_m0 ?_
  refine sv_getI (pc := 14) hG dX12_areWithin_14 f_12_260 lay_146 rfl ?_
  refine sx_icmp_ge (pc := 17) (tgt := 116) dX12_areWithin_17 (by decide) (fun c23 => ?_) (fun c23 => ?_)
  · have h := sx_pos c23 h
    refine sx_iconst (pc := 116) (v := 0) dX12_areWithin_116 (by decide) ?_
    refine sx_istore_n (pc := 117) (lo' := [(2, .int (0 : Int32)), (0, .ref 146), (1, .int l1)]) dX12_areWithin_117 (by decide) rfl ?_
    refine sx_wk (sx_s1 sx_m1 (sx_s1 sx_m2 (sx_s1 sx_m0 sx_s0))) ?_
    exact tL_X12_areWithin_118 hG hP hk2 N _ _ _ h
  · have h := sx_neg c23 h
    refine sx_aload_n (pc := 20) dX12_areWithin_20 sx_m0 ?_
    refine sx_iload_n (pc := 21) dX12_areWithin_21 sx_m2 ?_
    obtain ⟨⟨x26, V24⟩, g25, h⟩ := sx_bnd h
    refine sv_cV (pc := 22) (y := qX12_isGlyph) (o := (some (.int x26))) (as := [.int l2]) (V1 := V24) hG dX12_areWithin_22 l_X12_278 y0X12_isGlyph yvX12_isGlyph rfl (Nat.le_of_ble_eq_true rfl) lay_146 kr_12 (by decide) (Nat.le_of_ble_eq_true rfl) rfl rfl rfl (t_X12_isGlyph hG ⟨rfl, rfl⟩ g25) ?_
    refine sx_istore_n (pc := 25) (lo' := [(3, .int x26), (0, .ref 146), (1, .int l1), (2, .int l2)]) dX12_areWithin_25 (by decide) rfl ?_
    refine sx_aload_n (pc := 26) dX12_areWithin_26 sx_m1 ?_
    refine sv_getA (pc := 27) hG dX12_areWithin_27 f_12_61 lay_146 rfl cr_146_43 ?_
    refine sx_iload_n (pc := 30) dX12_areWithin_30 sx_m3 ?_
    refine sx_aload_n (pc := 31) dX12_areWithin_31 sx_m1 ?_
    refine sv_getI (pc := 32) hG dX12_areWithin_32 f_12_348 lay_146 rfl ?_
    refine sx_iconst (pc := 35) (v := (-1)) dX12_areWithin_35 (by decide) ?_
    refine sx_icmp_ne (pc := 36) (tgt := 43) dX12_areWithin_36 (by decide) (fun c27 => ?_) (fun c27 => ?_)
    · have h := sx_neg c27 h
      refine sx_wk (sx_s1 sx_m1 (sx_s1 sx_m2 (sx_s1 sx_m3 sx_s0))) ?_
      exact tB_X12_areWithin_43 hG hP hk2 hk12 h
    · have h := sx_pos c27 h
      refine sx_iload_n (pc := 39) dX12_areWithin_39 sx_m2 ?_
      refine sx_if_le (pc := 40) (tgt := 47) dX12_areWithin_40 (by decide) (fun c28 => ?_) (fun c28 => ?_)
      · have h := sx_pos c28 h
        refine sx_iconst (pc := 47) (v := 0) dX12_areWithin_47 (by decide) ?_
        refine sx_wk (sx_s1 sx_m1 (sx_s1 sx_m2 (sx_s1 sx_m3 sx_s0))) ?_
        exact tB_X12_areWithin_48 hG hP hk2 hk12 h
      · have h := sx_neg c28 h
        refine sx_wk (sx_s1 sx_m1 (sx_s1 sx_m2 (sx_s1 sx_m3 sx_s0))) ?_
        exact tB_X12_areWithin_43 hG hP hk2 hk12 h
theorem tL_X12_areWithin_12 {g : sx_G} (hG : sx_Go g) {P : Option Value → sv_V → Prop} {r : Int32} {Vr : sv_V} (hP : P (some (.int r)) Vr) {N : Nat} {k2 : Int32 → sv_V → Option (Int32 × sv_V)} (hk2 : ∀ (l1 : Int32) (V : sv_V), k2 l1 V = some (r, Vr) → sv_N g qX12_areWithin 6 2 [(0, .ref 146), (1, .int l1)] [] V P) : ∀ (n : Nat) (l1 : Int32) (l2 : Int32) (V : sv_V), sx_lp3 (B_X12_areWithin_12 N k2) n l1 l2 V = some (r, Vr) → sv_N g qX12_areWithin 6 12 [(0, .ref 146), (1, .int l1), (2, .int l2)] [] V P :=
  sx_lp3_ind (fun k0 ih _ _ V h => tB_X12_areWithin_12 hG hP hk2 ih h)
def B_X12_areWithin_152 (N : Nat) (k152 : Int32 → sv_V → Option (Int32 × sv_V)) (l1 : Int32) (V : sv_V) : Option (Int32 × sv_V) := if (V.1 146 12) ≤ l1 then (some ((1 : Int32), V)) else (if sx_in l1 200 = true then if (V.1 162 l1.toNatClampNeg) = 0 then (some ((0 : Int32), V)) else (sx_let (l1 + 1) (fun x32 => k152 x32 V)) else none)
set_option maxRecDepth 20000 in
theorem tB_X12_areWithin_152 {g : sx_G} (hG : sx_Go g) {P : Option Value → sv_V → Prop} {r : Int32} {Vr : sv_V} (hP : P (some (.int r)) Vr) {N : Nat} {k152 : Int32 → sv_V → Option (Int32 × sv_V)} (hk152 : ∀ (l1 : Int32) (V : sv_V), k152 l1 V = some (r, Vr) → sv_N g qX12_areWithin 6 152 [(0, .ref 146), (1, .int l1)] [] V P) {l1 : Int32} {V : sv_V} (h : B_X12_areWithin_152 N k152 l1 V = some (r, Vr)) : sv_N g qX12_areWithin 6 152 [(0, .ref 146), (1, .int l1)] [] V P := by
  unfold B_X12_areWithin_152 at h
  refine sx_iload_n (pc := 152) dX12_areWithin_152 sx_m1 ?_
  refine sx_aload_n (pc := 153) dX12_areWithin_153 sx_m0 ?_
  refine sv_getI (pc := 154) hG dX12_areWithin_154 f_12_260 lay_146 rfl ?_
  refine sx_icmp_ge (pc := 157) (tgt := 177) dX12_areWithin_157 (by decide) (fun c29 => ?_) (fun c29 => ?_)
  · have h := sx_pos c29 h
    refine sx_iconst (pc := 177) (v := 1) dX12_areWithin_177 (by decide) ?_
    exact sv_zret (pc := 178) dX12_areWithin_178 rfl rfl h hP
  · have h := sx_neg c29 h
    refine sx_aload_n (pc := 160) dX12_areWithin_160 sx_m0 ?_
    refine sv_getA (pc := 161) hG dX12_areWithin_161 f_12_57 lay_146 rfl cr_146_42 ?_
    refine sx_iload_n (pc := 164) dX12_areWithin_164 sx_m1 ?_
    obtain ⟨g30, h⟩ := sx_grd h
    refine sv_zald (pc := 165) hG dX12_areWithin_165 lay_162 g30 ?_
    refine sx_if_ne (pc := 166) (tgt := 171) dX12_areWithin_166 (by decide) (fun c31 => ?_) (fun c31 => ?_)
    · have h := sx_neg c31 h
      obtain ⟨x32, hx32⟩ : ∃ z : Int32, z = l1 + 1 := ⟨_, rfl⟩
      have h := sx_letE hx32 h
      refine sx_iinc (pc := 171) (v := x32) (lo' := [(1, .int x32), (0, .ref 146)]) dX12_areWithin_171 sx_m1 (by rw [hx32]; rfl) (by decide) rfl ?_
      refine sx_goto (pc := 174) (tgt := 152) dX12_areWithin_174 (by decide) ?_
      refine sx_wk (sx_s1 sx_m1 (sx_s1 sx_m0 sx_s0)) ?_
      exact hk152 _ _ h
    · have h := sx_pos c31 h
      refine sx_iconst (pc := 169) (v := 0) dX12_areWithin_169 (by decide) ?_
      exact sv_zret (pc := 170) dX12_areWithin_170 rfl rfl h hP
theorem tL_X12_areWithin_152 {g : sx_G} (hG : sx_Go g) {P : Option Value → sv_V → Prop} {r : Int32} {Vr : sv_V} (hP : P (some (.int r)) Vr) {N : Nat}   : ∀ (n : Nat) (l1 : Int32) (V : sv_V), sx_lp2 (B_X12_areWithin_152 N ) n l1 V = some (r, Vr) → sv_N g qX12_areWithin 6 152 [(0, .ref 146), (1, .int l1)] [] V P :=
  sx_lp2_ind (fun k0 ih _ V h => tB_X12_areWithin_152 hG hP ih h)
def B_X12_areWithin_2 (N : Nat) (k2 : Int32 → sv_V → Option (Int32 × sv_V)) (l1 : Int32) (V : sv_V) : Option (Int32 × sv_V) := if (V.1 146 19) < l1 then (sx_lp2 (B_X12_areWithin_152 N ) N (0 : Int32) V) else (sx_lp3 (B_X12_areWithin_12 N k2) N l1 (0 : Int32) V)
set_option maxRecDepth 20000 in
theorem tB_X12_areWithin_2 {g : sx_G} (hG : sx_Go g) {P : Option Value → sv_V → Prop} {r : Int32} {Vr : sv_V} (hP : P (some (.int r)) Vr) {N : Nat} {k2 : Int32 → sv_V → Option (Int32 × sv_V)} (hk2 : ∀ (l1 : Int32) (V : sv_V), k2 l1 V = some (r, Vr) → sv_N g qX12_areWithin 6 2 [(0, .ref 146), (1, .int l1)] [] V P) {l1 : Int32} {V : sv_V} (h : B_X12_areWithin_2 N k2 l1 V = some (r, Vr)) : sv_N g qX12_areWithin 6 2 [(0, .ref 146), (1, .int l1)] [] V P := by
  unfold B_X12_areWithin_2 at h
  refine sx_iload_n (pc := 2) dX12_areWithin_2 sx_m1 ?_
  refine sx_aload_n (pc := 3) dX12_areWithin_3 sx_m0 ?_
  refine sv_getI (pc := 4) hG dX12_areWithin_4 f_12_331 lay_146 rfl ?_
  refine sx_icmp_gt (pc := 7) (tgt := 150) dX12_areWithin_7 (by decide) (fun c33 => ?_) (fun c33 => ?_)
  · have h := sx_pos c33 h
    refine sx_iconst (pc := 150) (v := 0) dX12_areWithin_150 (by decide) ?_
    refine sx_istore_n (pc := 151) (lo' := [(1, .int (0 : Int32)), (0, .ref 146)]) dX12_areWithin_151 (by decide) rfl ?_
    refine sx_wk (sx_s1 sx_m1 (sx_s1 sx_m0 sx_s0)) ?_
    exact tL_X12_areWithin_152 hG hP  N _ _ h
  · have h := sx_neg c33 h
    refine sx_iconst (pc := 10) (v := 0) dX12_areWithin_10 (by decide) ?_
    refine sx_istore_n (pc := 11) (lo' := [(2, .int (0 : Int32)), (0, .ref 146), (1, .int l1)]) dX12_areWithin_11 (by decide) rfl ?_
    refine sx_wk (sx_s1 sx_m1 (sx_s1 sx_m2 (sx_s1 sx_m0 sx_s0))) ?_
    exact tL_X12_areWithin_12 hG hP hk2 N _ _ _ h
theorem tL_X12_areWithin_2 {g : sx_G} (hG : sx_Go g) {P : Option Value → sv_V → Prop} {r : Int32} {Vr : sv_V} (hP : P (some (.int r)) Vr) {N : Nat}   : ∀ (n : Nat) (l1 : Int32) (V : sv_V), sx_lp2 (B_X12_areWithin_2 N ) n l1 V = some (r, Vr) → sv_N g qX12_areWithin 6 2 [(0, .ref 146), (1, .int l1)] [] V P :=
  sx_lp2_ind (fun k0 ih _ V h => tB_X12_areWithin_2 hG hP ih h)
def F_X12_areWithin (N : Nat)  (V : sv_V) : Option (Int32 × sv_V) := sx_lp2 (B_X12_areWithin_2 N ) N (0 : Int32) V
set_option maxRecDepth 20000 in
theorem t_X12_areWithin {g : sx_G} (hG : sx_Go g) {P : Option Value → sv_V → Prop} {r : Int32} {Vr : sv_V} (hP : P (some (.int r)) Vr) {N : Nat}  {V : sv_V} (h : F_X12_areWithin N  V = some (r, Vr)) : sv_N g qX12_areWithin 6 0 [(0, .ref 146)] [] V P := by
  unfold F_X12_areWithin at h
  refine sx_iconst (pc := 0) (v := 0) dX12_areWithin_0 (by decide) ?_
  refine sx_istore_n (pc := 1) (lo' := [(1, .int (0 : Int32)), (0, .ref 146)]) dX12_areWithin_1 (by decide) rfl ?_
  refine sx_wk (sx_s1 sx_m1 (sx_s1 sx_m0 sx_s0)) ?_
  exact tL_X12_areWithin_2 hG hP  N _ _ h
theorem dX12_by_0 : decode cX12_by 0 = .ok (.iload_n 0, 1) := by decide +kernel
theorem dX12_by_1 : decode cX12_by 1 = .ok (.i2l, 1) := by decide +kernel
theorem dX12_by_2 : decode cX12_by 2 = .ok (.iload_n 2, 1) := by decide +kernel
theorem dX12_by_3 : decode cX12_by 3 = .ok (.i2l, 1) := by decide +kernel
theorem dX12_by_4 : decode cX12_by 4 = .ok (.lmul, 1) := by decide +kernel
theorem dX12_by_5 : decode cX12_by 5 = .ok (.iload_n 1, 1) := by decide +kernel
theorem dX12_by_6 : decode cX12_by 6 = .ok (.i2l, 1) := by decide +kernel
theorem dX12_by_7 : decode cX12_by 7 = .ok (.iload_n 3, 1) := by decide +kernel
theorem dX12_by_8 : decode cX12_by 8 = .ok (.i2l, 1) := by decide +kernel
theorem dX12_by_9 : decode cX12_by 9 = .ok (.lmul, 1) := by decide +kernel
theorem dX12_by_10 : decode cX12_by 10 = .ok (.ladd, 1) := by decide +kernel
theorem dX12_by_11 : decode cX12_by 11 = .ok (.ldc2_w 310, 3) := by decide +kernel
theorem dX12_by_14 : decode cX12_by 14 = .ok (.invokestatic 517, 3) := by decide +kernel
theorem dX12_by_17 : decode cX12_by 17 = .ok (.l2i, 1) := by decide +kernel
theorem dX12_by_18 : decode cX12_by 18 = .ok (.ireturn, 1) := by decide +kernel
def F_X12_by (l0 : Int32) (l1 : Int32) (l2 : Int32) (l3 : Int32) (V : sv_V) : Option (Int32 × sv_V) := (F_X12_over ((l0.toInt64 * l2.toInt64) + (l1.toInt64 * l3.toInt64)) (16384 : Int64) V).bind (fun (x3, V1) => some (x3.toInt32, V1))
set_option maxRecDepth 20000 in
theorem t_X12_by {g : sx_G} (hG : sx_Go g) {P : Option Value → sv_V → Prop} {r : Int32} {Vr : sv_V} (hP : P (some (.int r)) Vr) {l0 : Int32} {l1 : Int32} {l2 : Int32} {l3 : Int32} {V : sv_V} (h : F_X12_by l0 l1 l2 l3 V = some (r, Vr)) : sv_N g qX12_by 3 0 [(0, .int l0), (1, .int l1), (2, .int l2), (3, .int l3)] [] V P := by
  unfold F_X12_by at h
  refine sx_iload_n (pc := 0) dX12_by_0 sx_m0 ?_
  refine sx_i2l (pc := 1) dX12_by_1 ?_
  refine sx_iload_n (pc := 2) dX12_by_2 sx_m2 ?_
  refine sx_i2l (pc := 3) dX12_by_3 ?_
  refine sx_lmul (pc := 4) dX12_by_4 ?_
  refine sx_iload_n (pc := 5) dX12_by_5 sx_m1 ?_
  refine sx_i2l (pc := 6) dX12_by_6 ?_
  refine sx_iload_n (pc := 7) dX12_by_7 sx_m3 ?_
  refine sx_i2l (pc := 8) dX12_by_8 ?_
  refine sx_lmul (pc := 9) dX12_by_9 ?_
  refine sx_ladd (pc := 10) dX12_by_10 ?_
  refine sx_ldc2 (pc := 11) dX12_by_11 k_X12_310 ?_
  obtain ⟨⟨x3, V1⟩, g2, h⟩ := sx_bnd h
  refine sv_cS (pc := 14) (y := qX12_over) (o := (some (.long x3))) (as := [.long ((l0.toInt64 * l2.toInt64) + (l1.toInt64 * l3.toInt64)), .long (16384 : Int64)]) (V1 := V1) dX12_by_14 l_X12_517 y0X12_over ysX12_over rfl (Nat.le_of_ble_eq_true rfl) (by decide) (Nat.le_of_ble_eq_true rfl) rfl rfl rfl (t_X12_over hG ⟨rfl, rfl⟩ g2) ?_
  refine sx_l2i (pc := 17) dX12_by_17 ?_
  exact sv_iret (pc := 18) dX12_by_18 rfl h hP
theorem dX12_longOf_0 : decode cX12_longOf 0 = .ok (.aload_n 0, 1) := by decide +kernel
theorem dX12_longOf_1 : decode cX12_longOf 1 = .ok (.getfield 76, 3) := by decide +kernel
theorem dX12_longOf_4 : decode cX12_longOf 4 = .ok (.iload_n 1, 1) := by decide +kernel
theorem dX12_longOf_5 : decode cX12_longOf 5 = .ok (.iaload, 1) := by decide +kernel
theorem dX12_longOf_6 : decode cX12_longOf 6 = .ok (.aload_n 0, 1) := by decide +kernel
theorem dX12_longOf_7 : decode cX12_longOf 7 = .ok (.getfield 79, 3) := by decide +kernel
theorem dX12_longOf_10 : decode cX12_longOf 10 = .ok (.iload_n 1, 1) := by decide +kernel
theorem dX12_longOf_11 : decode cX12_longOf 11 = .ok (.iaload, 1) := by decide +kernel
theorem dX12_longOf_12 : decode cX12_longOf 12 = .ok (.aload_n 0, 1) := by decide +kernel
theorem dX12_longOf_13 : decode cX12_longOf 13 = .ok (.getfield 439, 3) := by decide +kernel
theorem dX12_longOf_16 : decode cX12_longOf 16 = .ok (.aload_n 0, 1) := by decide +kernel
theorem dX12_longOf_17 : decode cX12_longOf 17 = .ok (.getfield 442, 3) := by decide +kernel
theorem dX12_longOf_20 : decode cX12_longOf 20 = .ok (.invokestatic 520, 3) := by decide +kernel
theorem dX12_longOf_23 : decode cX12_longOf 23 = .ok (.ireturn, 1) := by decide +kernel
def F_X12_longOf (l1 : Int32) (V : sv_V) : Option (Int32 × sv_V) := if sx_in l1 204 = true then if sx_in l1 204 = true then (F_X12_by (V.1 168 l1.toNatClampNeg) (V.1 169 l1.toNatClampNeg) (V.1 146 65) (V.1 146 66) V).bind (fun (x5, V3) => some (x5, V3)) else none else none
set_option maxRecDepth 20000 in
theorem t_X12_longOf {g : sx_G} (hG : sx_Go g) {P : Option Value → sv_V → Prop} {r : Int32} {Vr : sv_V} (hP : P (some (.int r)) Vr) {l1 : Int32} {V : sv_V} (h : F_X12_longOf l1 V = some (r, Vr)) : sv_N g qX12_longOf 4 0 [(0, .ref 146), (1, .int l1)] [] V P := by
  unfold F_X12_longOf at h
  refine sx_aload_n (pc := 0) dX12_longOf_0 sx_m0 ?_
  refine sv_getA (pc := 1) hG dX12_longOf_1 f_12_76 lay_146 rfl cr_146_48 ?_
  refine sx_iload_n (pc := 4) dX12_longOf_4 sx_m1 ?_
  obtain ⟨g1, h⟩ := sx_grd h
  refine sv_iald (pc := 5) hG dX12_longOf_5 lay_168 g1 ?_
  refine sx_aload_n (pc := 6) dX12_longOf_6 sx_m0 ?_
  refine sv_getA (pc := 7) hG dX12_longOf_7 f_12_79 lay_146 rfl cr_146_49 ?_
  refine sx_iload_n (pc := 10) dX12_longOf_10 sx_m1 ?_
  obtain ⟨g2, h⟩ := sx_grd h
  refine sv_iald (pc := 11) hG dX12_longOf_11 lay_169 g2 ?_
  refine sx_aload_n (pc := 12) dX12_longOf_12 sx_m0 ?_
  refine sv_getI (pc := 13) hG dX12_longOf_13 f_12_439 lay_146 rfl ?_
  refine sx_aload_n (pc := 16) dX12_longOf_16 sx_m0 ?_
  refine sv_getI (pc := 17) hG dX12_longOf_17 f_12_442 lay_146 rfl ?_
  obtain ⟨⟨x5, V3⟩, g4, h⟩ := sx_bnd h
  refine sv_cS (pc := 20) (y := qX12_by) (o := (some (.int x5))) (as := [.int (V.1 168 l1.toNatClampNeg), .int (V.1 169 l1.toNatClampNeg), .int (V.1 146 65), .int (V.1 146 66)]) (V1 := V3) dX12_longOf_20 l_X12_520 y0X12_by ysX12_by rfl (Nat.le_of_ble_eq_true rfl) (by decide) (Nat.le_of_ble_eq_true rfl) rfl rfl rfl (t_X12_by hG ⟨rfl, rfl⟩ g4) ?_
  exact sv_iret (pc := 23) dX12_longOf_23 rfl h hP
theorem dX12_between_0 : decode cX12_between 0 = .ok (.aload_n 0, 1) := by decide +kernel
theorem dX12_between_1 : decode cX12_between 1 = .ok (.getfield 76, 3) := by decide +kernel
theorem dX12_between_4 : decode cX12_between 4 = .ok (.iload_n 1, 1) := by decide +kernel
theorem dX12_between_5 : decode cX12_between 5 = .ok (.iaload, 1) := by decide +kernel
theorem dX12_between_6 : decode cX12_between 6 = .ok (.aload_n 0, 1) := by decide +kernel
theorem dX12_between_7 : decode cX12_between 7 = .ok (.getfield 76, 3) := by decide +kernel
theorem dX12_between_10 : decode cX12_between 10 = .ok (.iload_n 2, 1) := by decide +kernel
theorem dX12_between_11 : decode cX12_between 11 = .ok (.iaload, 1) := by decide +kernel
theorem dX12_between_12 : decode cX12_between 12 = .ok (.isub, 1) := by decide +kernel
theorem dX12_between_13 : decode cX12_between 13 = .ok (.aload_n 0, 1) := by decide +kernel
theorem dX12_between_14 : decode cX12_between 14 = .ok (.getfield 79, 3) := by decide +kernel
theorem dX12_between_17 : decode cX12_between 17 = .ok (.iload_n 1, 1) := by decide +kernel
theorem dX12_between_18 : decode cX12_between 18 = .ok (.iaload, 1) := by decide +kernel
theorem dX12_between_19 : decode cX12_between 19 = .ok (.aload_n 0, 1) := by decide +kernel
theorem dX12_between_20 : decode cX12_between 20 = .ok (.getfield 79, 3) := by decide +kernel
theorem dX12_between_23 : decode cX12_between 23 = .ok (.iload_n 2, 1) := by decide +kernel
theorem dX12_between_24 : decode cX12_between 24 = .ok (.iaload, 1) := by decide +kernel
theorem dX12_between_25 : decode cX12_between 25 = .ok (.isub, 1) := by decide +kernel
theorem dX12_between_26 : decode cX12_between 26 = .ok (.aload_n 0, 1) := by decide +kernel
theorem dX12_between_27 : decode cX12_between 27 = .ok (.getfield 439, 3) := by decide +kernel
theorem dX12_between_30 : decode cX12_between 30 = .ok (.aload_n 0, 1) := by decide +kernel
theorem dX12_between_31 : decode cX12_between 31 = .ok (.getfield 442, 3) := by decide +kernel
theorem dX12_between_34 : decode cX12_between 34 = .ok (.invokestatic 520, 3) := by decide +kernel
theorem dX12_between_37 : decode cX12_between 37 = .ok (.ireturn, 1) := by decide +kernel
def F_X12_between (l1 : Int32) (l2 : Int32) (V : sv_V) : Option (Int32 × sv_V) := if sx_in l1 204 = true then if sx_in l2 204 = true then if sx_in l1 204 = true then if sx_in l2 204 = true then (F_X12_by ((V.1 168 l1.toNatClampNeg) - (V.1 168 l2.toNatClampNeg)) ((V.1 169 l1.toNatClampNeg) - (V.1 169 l2.toNatClampNeg)) (V.1 146 65) (V.1 146 66) V).bind (fun (x7, V5) => some (x7, V5)) else none else none else none else none
set_option maxRecDepth 20000 in
theorem t_X12_between {g : sx_G} (hG : sx_Go g) {P : Option Value → sv_V → Prop} {r : Int32} {Vr : sv_V} (hP : P (some (.int r)) Vr) {l1 : Int32} {l2 : Int32} {V : sv_V} (h : F_X12_between l1 l2 V = some (r, Vr)) : sv_N g qX12_between 4 0 [(0, .ref 146), (1, .int l1), (2, .int l2)] [] V P := by
  unfold F_X12_between at h
  refine sx_aload_n (pc := 0) dX12_between_0 sx_m0 ?_
  refine sv_getA (pc := 1) hG dX12_between_1 f_12_76 lay_146 rfl cr_146_48 ?_
  refine sx_iload_n (pc := 4) dX12_between_4 sx_m1 ?_
  obtain ⟨g1, h⟩ := sx_grd h
  refine sv_iald (pc := 5) hG dX12_between_5 lay_168 g1 ?_
  refine sx_aload_n (pc := 6) dX12_between_6 sx_m0 ?_
  refine sv_getA (pc := 7) hG dX12_between_7 f_12_76 lay_146 rfl cr_146_48 ?_
  refine sx_iload_n (pc := 10) dX12_between_10 sx_m2 ?_
  obtain ⟨g2, h⟩ := sx_grd h
  refine sv_iald (pc := 11) hG dX12_between_11 lay_168 g2 ?_
  refine sx_isub (pc := 12) dX12_between_12 ?_
  refine sx_aload_n (pc := 13) dX12_between_13 sx_m0 ?_
  refine sv_getA (pc := 14) hG dX12_between_14 f_12_79 lay_146 rfl cr_146_49 ?_
  refine sx_iload_n (pc := 17) dX12_between_17 sx_m1 ?_
  obtain ⟨g3, h⟩ := sx_grd h
  refine sv_iald (pc := 18) hG dX12_between_18 lay_169 g3 ?_
  refine sx_aload_n (pc := 19) dX12_between_19 sx_m0 ?_
  refine sv_getA (pc := 20) hG dX12_between_20 f_12_79 lay_146 rfl cr_146_49 ?_
  refine sx_iload_n (pc := 23) dX12_between_23 sx_m2 ?_
  obtain ⟨g4, h⟩ := sx_grd h
  refine sv_iald (pc := 24) hG dX12_between_24 lay_169 g4 ?_
  refine sx_isub (pc := 25) dX12_between_25 ?_
  refine sx_aload_n (pc := 26) dX12_between_26 sx_m0 ?_
  refine sv_getI (pc := 27) hG dX12_between_27 f_12_439 lay_146 rfl ?_
  refine sx_aload_n (pc := 30) dX12_between_30 sx_m0 ?_
  refine sv_getI (pc := 31) hG dX12_between_31 f_12_442 lay_146 rfl ?_
  obtain ⟨⟨x7, V5⟩, g6, h⟩ := sx_bnd h
  refine sv_cS (pc := 34) (y := qX12_by) (o := (some (.int x7))) (as := [.int ((V.1 168 l1.toNatClampNeg) - (V.1 168 l2.toNatClampNeg)), .int ((V.1 169 l1.toNatClampNeg) - (V.1 169 l2.toNatClampNeg)), .int (V.1 146 65), .int (V.1 146 66)]) (V1 := V5) dX12_between_34 l_X12_520 y0X12_by ysX12_by rfl (Nat.le_of_ble_eq_true rfl) (by decide) (Nat.le_of_ble_eq_true rfl) rfl rfl rfl (t_X12_by hG ⟨rfl, rfl⟩ g6) ?_
  exact sv_iret (pc := 37) dX12_between_37 rfl h hP
theorem dX12_originally_0 : decode cX12_originally 0 = .ok (.aload_n 0, 1) := by decide +kernel
theorem dX12_originally_1 : decode cX12_originally 1 = .ok (.getfield 70, 3) := by decide +kernel
theorem dX12_originally_4 : decode cX12_originally 4 = .ok (.iload_n 1, 1) := by decide +kernel
theorem dX12_originally_5 : decode cX12_originally 5 = .ok (.iaload, 1) := by decide +kernel
theorem dX12_originally_6 : decode cX12_originally 6 = .ok (.aload_n 0, 1) := by decide +kernel
theorem dX12_originally_7 : decode cX12_originally 7 = .ok (.getfield 70, 3) := by decide +kernel
theorem dX12_originally_10 : decode cX12_originally 10 = .ok (.iload_n 2, 1) := by decide +kernel
theorem dX12_originally_11 : decode cX12_originally 11 = .ok (.iaload, 1) := by decide +kernel
theorem dX12_originally_12 : decode cX12_originally 12 = .ok (.isub, 1) := by decide +kernel
theorem dX12_originally_13 : decode cX12_originally 13 = .ok (.aload_n 0, 1) := by decide +kernel
theorem dX12_originally_14 : decode cX12_originally 14 = .ok (.getfield 73, 3) := by decide +kernel
theorem dX12_originally_17 : decode cX12_originally 17 = .ok (.iload_n 1, 1) := by decide +kernel
theorem dX12_originally_18 : decode cX12_originally 18 = .ok (.iaload, 1) := by decide +kernel
theorem dX12_originally_19 : decode cX12_originally 19 = .ok (.aload_n 0, 1) := by decide +kernel
theorem dX12_originally_20 : decode cX12_originally 20 = .ok (.getfield 73, 3) := by decide +kernel
theorem dX12_originally_23 : decode cX12_originally 23 = .ok (.iload_n 2, 1) := by decide +kernel
theorem dX12_originally_24 : decode cX12_originally 24 = .ok (.iaload, 1) := by decide +kernel
theorem dX12_originally_25 : decode cX12_originally 25 = .ok (.isub, 1) := by decide +kernel
theorem dX12_originally_26 : decode cX12_originally 26 = .ok (.aload_n 0, 1) := by decide +kernel
theorem dX12_originally_27 : decode cX12_originally 27 = .ok (.getfield 445, 3) := by decide +kernel
theorem dX12_originally_30 : decode cX12_originally 30 = .ok (.aload_n 0, 1) := by decide +kernel
theorem dX12_originally_31 : decode cX12_originally 31 = .ok (.getfield 448, 3) := by decide +kernel
theorem dX12_originally_34 : decode cX12_originally 34 = .ok (.invokestatic 520, 3) := by decide +kernel
theorem dX12_originally_37 : decode cX12_originally 37 = .ok (.ireturn, 1) := by decide +kernel
def F_X12_originally (l1 : Int32) (l2 : Int32) (V : sv_V) : Option (Int32 × sv_V) := if sx_in l1 204 = true then if sx_in l2 204 = true then if sx_in l1 204 = true then if sx_in l2 204 = true then (F_X12_by ((V.1 166 l1.toNatClampNeg) - (V.1 166 l2.toNatClampNeg)) ((V.1 167 l1.toNatClampNeg) - (V.1 167 l2.toNatClampNeg)) (V.1 146 67) (V.1 146 68) V).bind (fun (x7, V5) => some (x7, V5)) else none else none else none else none
set_option maxRecDepth 20000 in
theorem t_X12_originally {g : sx_G} (hG : sx_Go g) {P : Option Value → sv_V → Prop} {r : Int32} {Vr : sv_V} (hP : P (some (.int r)) Vr) {l1 : Int32} {l2 : Int32} {V : sv_V} (h : F_X12_originally l1 l2 V = some (r, Vr)) : sv_N g qX12_originally 4 0 [(0, .ref 146), (1, .int l1), (2, .int l2)] [] V P := by
  unfold F_X12_originally at h
  refine sx_aload_n (pc := 0) dX12_originally_0 sx_m0 ?_
  refine sv_getA (pc := 1) hG dX12_originally_1 f_12_70 lay_146 rfl cr_146_46 ?_
  refine sx_iload_n (pc := 4) dX12_originally_4 sx_m1 ?_
  obtain ⟨g1, h⟩ := sx_grd h
  refine sv_iald (pc := 5) hG dX12_originally_5 lay_166 g1 ?_
  refine sx_aload_n (pc := 6) dX12_originally_6 sx_m0 ?_
  refine sv_getA (pc := 7) hG dX12_originally_7 f_12_70 lay_146 rfl cr_146_46 ?_
  refine sx_iload_n (pc := 10) dX12_originally_10 sx_m2 ?_
  obtain ⟨g2, h⟩ := sx_grd h
  refine sv_iald (pc := 11) hG dX12_originally_11 lay_166 g2 ?_
  refine sx_isub (pc := 12) dX12_originally_12 ?_
  refine sx_aload_n (pc := 13) dX12_originally_13 sx_m0 ?_
  refine sv_getA (pc := 14) hG dX12_originally_14 f_12_73 lay_146 rfl cr_146_47 ?_
  refine sx_iload_n (pc := 17) dX12_originally_17 sx_m1 ?_
  obtain ⟨g3, h⟩ := sx_grd h
  refine sv_iald (pc := 18) hG dX12_originally_18 lay_167 g3 ?_
  refine sx_aload_n (pc := 19) dX12_originally_19 sx_m0 ?_
  refine sv_getA (pc := 20) hG dX12_originally_20 f_12_73 lay_146 rfl cr_146_47 ?_
  refine sx_iload_n (pc := 23) dX12_originally_23 sx_m2 ?_
  obtain ⟨g4, h⟩ := sx_grd h
  refine sv_iald (pc := 24) hG dX12_originally_24 lay_167 g4 ?_
  refine sx_isub (pc := 25) dX12_originally_25 ?_
  refine sx_aload_n (pc := 26) dX12_originally_26 sx_m0 ?_
  refine sv_getI (pc := 27) hG dX12_originally_27 f_12_445 lay_146 rfl ?_
  refine sx_aload_n (pc := 30) dX12_originally_30 sx_m0 ?_
  refine sv_getI (pc := 31) hG dX12_originally_31 f_12_448 lay_146 rfl ?_
  obtain ⟨⟨x7, V5⟩, g6, h⟩ := sx_bnd h
  refine sv_cS (pc := 34) (y := qX12_by) (o := (some (.int x7))) (as := [.int ((V.1 166 l1.toNatClampNeg) - (V.1 166 l2.toNatClampNeg)), .int ((V.1 167 l1.toNatClampNeg) - (V.1 167 l2.toNatClampNeg)), .int (V.1 146 67), .int (V.1 146 68)]) (V1 := V5) dX12_originally_34 l_X12_520 y0X12_by ysX12_by rfl (Nat.le_of_ble_eq_true rfl) (by decide) (Nat.le_of_ble_eq_true rfl) rfl rfl rfl (t_X12_by hG ⟨rfl, rfl⟩ g6) ?_
  exact sv_iret (pc := 37) dX12_originally_37 rfl h hP
theorem dX12_shiftBy_0 : decode cX12_shiftBy 0 = .ok (.aload_n 0, 1) := by decide +kernel
theorem dX12_shiftBy_1 : decode cX12_shiftBy 1 = .ok (.getfield 433, 3) := by decide +kernel
theorem dX12_shiftBy_4 : decode cX12_shiftBy 4 = .ok (.i2l, 1) := by decide +kernel
theorem dX12_shiftBy_5 : decode cX12_shiftBy 5 = .ok (.aload_n 0, 1) := by decide +kernel
theorem dX12_shiftBy_6 : decode cX12_shiftBy 6 = .ok (.getfield 439, 3) := by decide +kernel
theorem dX12_shiftBy_9 : decode cX12_shiftBy 9 = .ok (.i2l, 1) := by decide +kernel
theorem dX12_shiftBy_10 : decode cX12_shiftBy 10 = .ok (.lmul, 1) := by decide +kernel
theorem dX12_shiftBy_11 : decode cX12_shiftBy 11 = .ok (.aload_n 0, 1) := by decide +kernel
theorem dX12_shiftBy_12 : decode cX12_shiftBy 12 = .ok (.getfield 436, 3) := by decide +kernel
theorem dX12_shiftBy_15 : decode cX12_shiftBy 15 = .ok (.i2l, 1) := by decide +kernel
theorem dX12_shiftBy_16 : decode cX12_shiftBy 16 = .ok (.aload_n 0, 1) := by decide +kernel
theorem dX12_shiftBy_17 : decode cX12_shiftBy 17 = .ok (.getfield 442, 3) := by decide +kernel
theorem dX12_shiftBy_20 : decode cX12_shiftBy 20 = .ok (.i2l, 1) := by decide +kernel
theorem dX12_shiftBy_21 : decode cX12_shiftBy 21 = .ok (.lmul, 1) := by decide +kernel
theorem dX12_shiftBy_22 : decode cX12_shiftBy 22 = .ok (.ladd, 1) := by decide +kernel
theorem dX12_shiftBy_23 : decode cX12_shiftBy 23 = .ok (.ldc2_w 310, 3) := by decide +kernel
theorem dX12_shiftBy_26 : decode cX12_shiftBy 26 = .ok (.invokestatic 517, 3) := by decide +kernel
theorem dX12_shiftBy_29 : decode cX12_shiftBy 29 = .ok (.lstore 5, 2) := by decide +kernel
theorem dX12_shiftBy_31 : decode cX12_shiftBy 31 = .ok (.lload 5, 2) := by decide +kernel
theorem dX12_shiftBy_33 : decode cX12_shiftBy 33 = .ok (.invokestatic 198, 3) := by decide +kernel
theorem dX12_shiftBy_36 : decode cX12_shiftBy 36 = .ok (.ldc2_w 524, 3) := by decide +kernel
theorem dX12_shiftBy_39 : decode cX12_shiftBy 39 = .ok (.lcmp, 1) := by decide +kernel
theorem dX12_shiftBy_40 : decode cX12_shiftBy 40 = .ok (.ifCond .ge 9, 3) := by decide +kernel
theorem dX12_shiftBy_43 : decode cX12_shiftBy 43 = .ok (.ldc2_w 310, 3) := by decide +kernel
theorem dX12_shiftBy_46 : decode cX12_shiftBy 46 = .ok (.goto 5, 3) := by decide +kernel
theorem dX12_shiftBy_49 : decode cX12_shiftBy 49 = .ok (.lload 5, 2) := by decide +kernel
theorem dX12_shiftBy_51 : decode cX12_shiftBy 51 = .ok (.lstore 5, 2) := by decide +kernel
theorem dX12_shiftBy_53 : decode cX12_shiftBy 53 = .ok (.aload_n 0, 1) := by decide +kernel
theorem dX12_shiftBy_54 : decode cX12_shiftBy 54 = .ok (.getfield 76, 3) := by decide +kernel
theorem dX12_shiftBy_57 : decode cX12_shiftBy 57 = .ok (.iload_n 1, 1) := by decide +kernel
theorem dX12_shiftBy_58 : decode cX12_shiftBy 58 = .ok (.aload_n 0, 1) := by decide +kernel
theorem dX12_shiftBy_59 : decode cX12_shiftBy 59 = .ok (.getfield 76, 3) := by decide +kernel
theorem dX12_shiftBy_62 : decode cX12_shiftBy 62 = .ok (.iload_n 1, 1) := by decide +kernel
theorem dX12_shiftBy_63 : decode cX12_shiftBy 63 = .ok (.iaload, 1) := by decide +kernel
theorem dX12_shiftBy_64 : decode cX12_shiftBy 64 = .ok (.i2l, 1) := by decide +kernel
theorem dX12_shiftBy_65 : decode cX12_shiftBy 65 = .ok (.lload_n 2, 1) := by decide +kernel
theorem dX12_shiftBy_66 : decode cX12_shiftBy 66 = .ok (.aload_n 0, 1) := by decide +kernel
theorem dX12_shiftBy_67 : decode cX12_shiftBy 67 = .ok (.getfield 433, 3) := by decide +kernel
theorem dX12_shiftBy_70 : decode cX12_shiftBy 70 = .ok (.i2l, 1) := by decide +kernel
theorem dX12_shiftBy_71 : decode cX12_shiftBy 71 = .ok (.lmul, 1) := by decide +kernel
theorem dX12_shiftBy_72 : decode cX12_shiftBy 72 = .ok (.lload 5, 2) := by decide +kernel
theorem dX12_shiftBy_74 : decode cX12_shiftBy 74 = .ok (.invokestatic 194, 3) := by decide +kernel
theorem dX12_shiftBy_77 : decode cX12_shiftBy 77 = .ok (.ladd, 1) := by decide +kernel
theorem dX12_shiftBy_78 : decode cX12_shiftBy 78 = .ok (.l2i, 1) := by decide +kernel
theorem dX12_shiftBy_79 : decode cX12_shiftBy 79 = .ok (.iastore, 1) := by decide +kernel
theorem dX12_shiftBy_80 : decode cX12_shiftBy 80 = .ok (.aload_n 0, 1) := by decide +kernel
theorem dX12_shiftBy_81 : decode cX12_shiftBy 81 = .ok (.getfield 79, 3) := by decide +kernel
theorem dX12_shiftBy_84 : decode cX12_shiftBy 84 = .ok (.iload_n 1, 1) := by decide +kernel
theorem dX12_shiftBy_85 : decode cX12_shiftBy 85 = .ok (.aload_n 0, 1) := by decide +kernel
theorem dX12_shiftBy_86 : decode cX12_shiftBy 86 = .ok (.getfield 79, 3) := by decide +kernel
theorem dX12_shiftBy_89 : decode cX12_shiftBy 89 = .ok (.iload_n 1, 1) := by decide +kernel
theorem dX12_shiftBy_90 : decode cX12_shiftBy 90 = .ok (.iaload, 1) := by decide +kernel
theorem dX12_shiftBy_91 : decode cX12_shiftBy 91 = .ok (.i2l, 1) := by decide +kernel
theorem dX12_shiftBy_92 : decode cX12_shiftBy 92 = .ok (.lload_n 2, 1) := by decide +kernel
theorem dX12_shiftBy_93 : decode cX12_shiftBy 93 = .ok (.aload_n 0, 1) := by decide +kernel
theorem dX12_shiftBy_94 : decode cX12_shiftBy 94 = .ok (.getfield 436, 3) := by decide +kernel
theorem dX12_shiftBy_97 : decode cX12_shiftBy 97 = .ok (.i2l, 1) := by decide +kernel
theorem dX12_shiftBy_98 : decode cX12_shiftBy 98 = .ok (.lmul, 1) := by decide +kernel
theorem dX12_shiftBy_99 : decode cX12_shiftBy 99 = .ok (.lload 5, 2) := by decide +kernel
theorem dX12_shiftBy_101 : decode cX12_shiftBy 101 = .ok (.invokestatic 194, 3) := by decide +kernel
theorem dX12_shiftBy_104 : decode cX12_shiftBy 104 = .ok (.ladd, 1) := by decide +kernel
theorem dX12_shiftBy_105 : decode cX12_shiftBy 105 = .ok (.l2i, 1) := by decide +kernel
theorem dX12_shiftBy_106 : decode cX12_shiftBy 106 = .ok (.iastore, 1) := by decide +kernel
theorem dX12_shiftBy_107 : decode cX12_shiftBy 107 = .ok (.iload 4, 2) := by decide +kernel
theorem dX12_shiftBy_109 : decode cX12_shiftBy 109 = .ok (.ifCond .eq 8, 3) := by decide +kernel
theorem dX12_shiftBy_112 : decode cX12_shiftBy 112 = .ok (.aload_n 0, 1) := by decide +kernel
theorem dX12_shiftBy_113 : decode cX12_shiftBy 113 = .ok (.iload_n 1, 1) := by decide +kernel
theorem dX12_shiftBy_114 : decode cX12_shiftBy 114 = .ok (.invokevirtual 526, 3) := by decide +kernel
theorem dX12_shiftBy_117 : decode cX12_shiftBy 117 = .ok (.return_, 1) := by decide +kernel
def B_X12_shiftBy_51  (l1 : Int32) (l2 : Int64) (l4 : Int32) (s0 : Int64) (V : sv_V) : Option sv_V := if sx_in l1 204 = true then (F_X12_nearest (l2 * ((V.1 146 63).toInt64)) s0 V).bind (fun (x4, V2) => if sx_in l1 204 = true then sx_let (sv_I V2 168 l1.toNatClampNeg ((((V.1 168 l1.toNatClampNeg).toInt64) + x4).toInt32)) (fun V6 => if sx_in l1 204 = true then (F_X12_nearest (l2 * ((V6.1 146 64).toInt64)) s0 V6).bind (fun (x10, V8) => if sx_in l1 204 = true then sx_let (sv_I V8 169 l1.toNatClampNeg ((((V6.1 169 l1.toNatClampNeg).toInt64) + x10).toInt32)) (fun V12 => if l4 = 0 then (some V12) else ((F_X12_touch l1 V12).bind (fun V14 => some V14))) else none) else none) else none) else none
set_option maxRecDepth 20000 in
theorem tB_X12_shiftBy_51 {g : sx_G} (hG : sx_Go g) {P : Option Value → sv_V → Prop} {Vr : sv_V} (hP : P none Vr)   {l1 : Int32} {l2 : Int64} {l4 : Int32} {s0 : Int64} {V : sv_V} (h : B_X12_shiftBy_51  l1 l2 l4 s0 V = some Vr) : sv_N g qX12_shiftBy 3 51 [(0, .ref 146), (1, .int l1), (2, .long l2), (4, .int l4)] [.long s0] V P := by
  unfold B_X12_shiftBy_51 at h
  refine sx_lstore (pc := 51) (lo' := [(5, .long s0), (0, .ref 146), (1, .int l1), (2, .long l2), (4, .int l4)]) dX12_shiftBy_51 (by decide) rfl ?_
  refine sx_aload_n (pc := 53) dX12_shiftBy_53 sx_m1 ?_
  refine sv_getA (pc := 54) hG dX12_shiftBy_54 f_12_76 lay_146 rfl cr_146_48 ?_
  refine sx_iload_n (pc := 57) dX12_shiftBy_57 sx_m2 ?_
  refine sx_aload_n (pc := 58) dX12_shiftBy_58 sx_m1 ?_
  refine sv_getA (pc := 59) hG dX12_shiftBy_59 f_12_76 lay_146 rfl cr_146_48 ?_
  refine sx_iload_n (pc := 62) dX12_shiftBy_62 sx_m2 ?_
  obtain ⟨g1, h⟩ := sx_grd h
  refine sv_iald (pc := 63) hG dX12_shiftBy_63 lay_168 g1 ?_
  refine sx_i2l (pc := 64) dX12_shiftBy_64 ?_
  refine sx_lload_n (pc := 65) dX12_shiftBy_65 sx_m3 ?_
  refine sx_aload_n (pc := 66) dX12_shiftBy_66 sx_m1 ?_
  refine sv_getI (pc := 67) hG dX12_shiftBy_67 f_12_433 lay_146 rfl ?_
  refine sx_i2l (pc := 70) dX12_shiftBy_70 ?_
  refine sx_lmul (pc := 71) dX12_shiftBy_71 ?_
  refine sx_lload (pc := 72) dX12_shiftBy_72 sx_m0 ?_
  obtain ⟨⟨x4, V2⟩, g3, h⟩ := sx_bnd h
  refine sv_cS (pc := 74) (y := qX12_nearest) (o := (some (.long x4))) (as := [.long (l2 * ((V.1 146 63).toInt64)), .long s0]) (V1 := V2) dX12_shiftBy_74 l_X12_194 y0X12_nearest ysX12_nearest rfl (Nat.le_of_ble_eq_true rfl) (by decide) (Nat.le_of_ble_eq_true rfl) rfl rfl rfl (t_X12_nearest hG ⟨rfl, rfl⟩ g3) ?_
  refine sx_ladd (pc := 77) dX12_shiftBy_77 ?_
  refine sx_l2i (pc := 78) dX12_shiftBy_78 ?_
  obtain ⟨g5, h⟩ := sx_grd h
  obtain ⟨V6, hV6⟩ : ∃ z : sv_V, z = sv_I V2 168 l1.toNatClampNeg ((((V.1 168 l1.toNatClampNeg).toInt64) + x4).toInt32) := ⟨_, rfl⟩
  have h := sx_letE hV6 h
  refine sv_iast (pc := 79) hG dX12_shiftBy_79 lay_168 g5 hV6 ?_
  refine sx_aload_n (pc := 80) dX12_shiftBy_80 sx_m1 ?_
  refine sv_getA (pc := 81) hG dX12_shiftBy_81 f_12_79 lay_146 rfl cr_146_49 ?_
  refine sx_iload_n (pc := 84) dX12_shiftBy_84 sx_m2 ?_
  refine sx_aload_n (pc := 85) dX12_shiftBy_85 sx_m1 ?_
  refine sv_getA (pc := 86) hG dX12_shiftBy_86 f_12_79 lay_146 rfl cr_146_49 ?_
  refine sx_iload_n (pc := 89) dX12_shiftBy_89 sx_m2 ?_
  obtain ⟨g7, h⟩ := sx_grd h
  refine sv_iald (pc := 90) hG dX12_shiftBy_90 lay_169 g7 ?_
  refine sx_i2l (pc := 91) dX12_shiftBy_91 ?_
  refine sx_lload_n (pc := 92) dX12_shiftBy_92 sx_m3 ?_
  refine sx_aload_n (pc := 93) dX12_shiftBy_93 sx_m1 ?_
  refine sv_getI (pc := 94) hG dX12_shiftBy_94 f_12_436 lay_146 rfl ?_
  refine sx_i2l (pc := 97) dX12_shiftBy_97 ?_
  refine sx_lmul (pc := 98) dX12_shiftBy_98 ?_
  refine sx_lload (pc := 99) dX12_shiftBy_99 sx_m0 ?_
  obtain ⟨⟨x10, V8⟩, g9, h⟩ := sx_bnd h
  refine sv_cS (pc := 101) (y := qX12_nearest) (o := (some (.long x10))) (as := [.long (l2 * ((V6.1 146 64).toInt64)), .long s0]) (V1 := V8) dX12_shiftBy_101 l_X12_194 y0X12_nearest ysX12_nearest rfl (Nat.le_of_ble_eq_true rfl) (by decide) (Nat.le_of_ble_eq_true rfl) rfl rfl rfl (t_X12_nearest hG ⟨rfl, rfl⟩ g9) ?_
  refine sx_ladd (pc := 104) dX12_shiftBy_104 ?_
  refine sx_l2i (pc := 105) dX12_shiftBy_105 ?_
  obtain ⟨g11, h⟩ := sx_grd h
  obtain ⟨V12, hV12⟩ : ∃ z : sv_V, z = sv_I V8 169 l1.toNatClampNeg ((((V6.1 169 l1.toNatClampNeg).toInt64) + x10).toInt32) := ⟨_, rfl⟩
  have h := sx_letE hV12 h
  refine sv_iast (pc := 106) hG dX12_shiftBy_106 lay_169 g11 hV12 ?_
  refine sx_iload (pc := 107) dX12_shiftBy_107 sx_m4 ?_
  refine sx_if_eq (pc := 109) (tgt := 117) dX12_shiftBy_109 (by decide) (fun c13 => ?_) (fun c13 => ?_)
  · have h := sx_pos c13 h
    exact sv_vret (pc := 117) dX12_shiftBy_117 rfl h hP
  · have h := sx_neg c13 h
    refine sx_aload_n (pc := 112) dX12_shiftBy_112 sx_m1 ?_
    refine sx_iload_n (pc := 113) dX12_shiftBy_113 sx_m2 ?_
    obtain ⟨V14, g15, h⟩ := sx_bnd h
    refine sv_cV (pc := 114) (y := qX12_touch) (o := none) (as := [.int l1]) (V1 := V14) hG dX12_shiftBy_114 l_X12_526 y0X12_touch yvX12_touch rfl (Nat.le_of_ble_eq_true rfl) lay_146 kr_12 (by decide) (Nat.le_of_ble_eq_true rfl) rfl rfl rfl (t_X12_touch hG ⟨rfl, rfl⟩ g15) ?_
    exact sv_vret (pc := 117) dX12_shiftBy_117 rfl h hP
def F_X12_shiftBy (l1 : Int32) (l2 : Int64) (l4 : Int32) (V : sv_V) : Option sv_V := (F_X12_over ((((V.1 146 63).toInt64) * ((V.1 146 65).toInt64)) + (((V.1 146 64).toInt64) * ((V.1 146 66).toInt64))) (16384 : Int64) V).bind (fun (x18, V16) => (F_X12_sizeOf x18 V16).bind (fun (x21, V19) => if 0 ≤ (lg_cmp x21 (1024 : Int64)) then (B_X12_shiftBy_51  l1 l2 l4 x18 V19) else (B_X12_shiftBy_51  l1 l2 l4 (16384 : Int64) V19)))
set_option maxRecDepth 20000 in
theorem t_X12_shiftBy {g : sx_G} (hG : sx_Go g) {P : Option Value → sv_V → Prop} {Vr : sv_V} (hP : P none Vr) {l1 : Int32} {l2 : Int64} {l4 : Int32} {V : sv_V} (h : F_X12_shiftBy l1 l2 l4 V = some Vr) : sv_N g qX12_shiftBy 3 0 [(0, .ref 146), (1, .int l1), (2, .long l2), (4, .int l4)] [] V P := by
  unfold F_X12_shiftBy at h
  refine sx_aload_n (pc := 0) dX12_shiftBy_0 sx_m0 ?_
  refine sv_getI (pc := 1) hG dX12_shiftBy_1 f_12_433 lay_146 rfl ?_
  refine sx_i2l (pc := 4) dX12_shiftBy_4 ?_
  refine sx_aload_n (pc := 5) dX12_shiftBy_5 sx_m0 ?_
  refine sv_getI (pc := 6) hG dX12_shiftBy_6 f_12_439 lay_146 rfl ?_
  refine sx_i2l (pc := 9) dX12_shiftBy_9 ?_
  refine sx_lmul (pc := 10) dX12_shiftBy_10 ?_
  refine sx_aload_n (pc := 11) dX12_shiftBy_11 sx_m0 ?_
  refine sv_getI (pc := 12) hG dX12_shiftBy_12 f_12_436 lay_146 rfl ?_
  refine sx_i2l (pc := 15) dX12_shiftBy_15 ?_
  refine sx_aload_n (pc := 16) dX12_shiftBy_16 sx_m0 ?_
  refine sv_getI (pc := 17) hG dX12_shiftBy_17 f_12_442 lay_146 rfl ?_
  refine sx_i2l (pc := 20) dX12_shiftBy_20 ?_
  refine sx_lmul (pc := 21) dX12_shiftBy_21 ?_
  refine sx_ladd (pc := 22) dX12_shiftBy_22 ?_
  refine sx_ldc2 (pc := 23) dX12_shiftBy_23 k_X12_310 ?_
  obtain ⟨⟨x18, V16⟩, g17, h⟩ := sx_bnd h
  refine sv_cS (pc := 26) (y := qX12_over) (o := (some (.long x18))) (as := [.long ((((V.1 146 63).toInt64) * ((V.1 146 65).toInt64)) + (((V.1 146 64).toInt64) * ((V.1 146 66).toInt64))), .long (16384 : Int64)]) (V1 := V16) dX12_shiftBy_26 l_X12_517 y0X12_over ysX12_over rfl (Nat.le_of_ble_eq_true rfl) (by decide) (Nat.le_of_ble_eq_true rfl) rfl rfl rfl (t_X12_over hG ⟨rfl, rfl⟩ g17) ?_
  refine sx_lstore (pc := 29) (lo' := [(5, .long x18), (0, .ref 146), (1, .int l1), (2, .long l2), (4, .int l4)]) dX12_shiftBy_29 (by decide) rfl ?_
  refine sx_lload (pc := 31) dX12_shiftBy_31 sx_m0 ?_
  obtain ⟨⟨x21, V19⟩, g20, h⟩ := sx_bnd h
  refine sv_cS (pc := 33) (y := qX12_sizeOf) (o := (some (.long x21))) (as := [.long x18]) (V1 := V19) dX12_shiftBy_33 l_X12_198 y0X12_sizeOf ysX12_sizeOf rfl (Nat.le_of_ble_eq_true rfl) (by decide) (Nat.le_of_ble_eq_true rfl) rfl rfl rfl (t_X12_sizeOf hG ⟨rfl, rfl⟩ g20) ?_
  refine sx_ldc2 (pc := 36) dX12_shiftBy_36 k_X12_524 ?_
  refine sx_lcmp (pc := 39) dX12_shiftBy_39 ?_
  refine sx_if_ge (pc := 40) (tgt := 49) dX12_shiftBy_40 (by decide) (fun c22 => ?_) (fun c22 => ?_)
  · have h := sx_pos c22 h
    refine sx_lload (pc := 49) dX12_shiftBy_49 sx_m0 ?_
    refine sx_wk (sx_s1 sx_m1 (sx_s1 sx_m2 (sx_s1 sx_m3 (sx_s1 sx_m4 sx_s0)))) ?_
    exact tB_X12_shiftBy_51 hG hP  h
  · have h := sx_neg c22 h
    refine sx_ldc2 (pc := 43) dX12_shiftBy_43 k_X12_310 ?_
    refine sx_goto (pc := 46) (tgt := 51) dX12_shiftBy_46 (by decide) ?_
    refine sx_wk (sx_s1 sx_m1 (sx_s1 sx_m2 (sx_s1 sx_m3 (sx_s1 sx_m4 sx_s0)))) ?_
    exact tB_X12_shiftBy_51 hG hP  h
theorem dX12_move_0 : decode cX12_move 0 = .ok (.aload_n 0, 1) := by decide +kernel
theorem dX12_move_1 : decode cX12_move 1 = .ok (.iload_n 1, 1) := by decide +kernel
theorem dX12_move_2 : decode cX12_move 2 = .ok (.lload_n 2, 1) := by decide +kernel
theorem dX12_move_3 : decode cX12_move 3 = .ok (.iconst 1, 1) := by decide +kernel
theorem dX12_move_4 : decode cX12_move 4 = .ok (.invokevirtual 529, 3) := by decide +kernel
theorem dX12_move_7 : decode cX12_move 7 = .ok (.return_, 1) := by decide +kernel
def F_X12_move (l1 : Int32) (l2 : Int64) (V : sv_V) : Option sv_V := (F_X12_shiftBy l1 l2 (1 : Int32) V).bind (fun V1 => some V1)
set_option maxRecDepth 20000 in
theorem t_X12_move {g : sx_G} (hG : sx_Go g) {P : Option Value → sv_V → Prop} {Vr : sv_V} (hP : P none Vr) {l1 : Int32} {l2 : Int64} {V : sv_V} (h : F_X12_move l1 l2 V = some Vr) : sv_N g qX12_move 4 0 [(0, .ref 146), (1, .int l1), (2, .long l2)] [] V P := by
  unfold F_X12_move at h
  refine sx_aload_n (pc := 0) dX12_move_0 sx_m0 ?_
  refine sx_iload_n (pc := 1) dX12_move_1 sx_m1 ?_
  refine sx_lload_n (pc := 2) dX12_move_2 sx_m2 ?_
  refine sx_iconst (pc := 3) (v := 1) dX12_move_3 (by decide) ?_
  obtain ⟨V1, g2, h⟩ := sx_bnd h
  refine sv_cV (pc := 4) (y := qX12_shiftBy) (o := none) (as := [.int l1, .long l2, .int (1 : Int32)]) (V1 := V1) hG dX12_move_4 l_X12_529 y0X12_shiftBy yvX12_shiftBy rfl (Nat.le_of_ble_eq_true rfl) lay_146 kr_12 (by decide) (Nat.le_of_ble_eq_true rfl) rfl rfl rfl (t_X12_shiftBy hG ⟨rfl, rfl⟩ g2) ?_
  exact sv_vret (pc := 7) dX12_move_7 rfl h hP
theorem dX12_scaled_0 : decode cX12_scaled 0 = .ok (.lload_n 1, 1) := by decide +kernel
theorem dX12_scaled_1 : decode cX12_scaled 1 = .ok (.aload_n 0, 1) := by decide +kernel
theorem dX12_scaled_2 : decode cX12_scaled 2 = .ok (.getfield 621, 3) := by decide +kernel
theorem dX12_scaled_5 : decode cX12_scaled 5 = .ok (.i2l, 1) := by decide +kernel
theorem dX12_scaled_6 : decode cX12_scaled 6 = .ok (.lmul, 1) := by decide +kernel
theorem dX12_scaled_7 : decode cX12_scaled 7 = .ok (.ldc2_w 338, 3) := by decide +kernel
theorem dX12_scaled_10 : decode cX12_scaled 10 = .ok (.lmul, 1) := by decide +kernel
theorem dX12_scaled_11 : decode cX12_scaled 11 = .ok (.aload_n 0, 1) := by decide +kernel
theorem dX12_scaled_12 : decode cX12_scaled 12 = .ok (.getfield 302, 3) := by decide +kernel
theorem dX12_scaled_15 : decode cX12_scaled 15 = .ok (.i2l, 1) := by decide +kernel
theorem dX12_scaled_16 : decode cX12_scaled 16 = .ok (.invokestatic 517, 3) := by decide +kernel
theorem dX12_scaled_19 : decode cX12_scaled 19 = .ok (.l2i, 1) := by decide +kernel
theorem dX12_scaled_20 : decode cX12_scaled 20 = .ok (.ireturn, 1) := by decide +kernel
def F_X12_scaled (l1 : Int64) (V : sv_V) : Option (Int32 × sv_V) := (F_X12_over ((l1 * ((V.1 146 62).toInt64)) * (64 : Int64)) ((V.1 146 10).toInt64) V).bind (fun (x3, V1) => some (x3.toInt32, V1))
set_option maxRecDepth 20000 in
theorem t_X12_scaled {g : sx_G} (hG : sx_Go g) {P : Option Value → sv_V → Prop} {r : Int32} {Vr : sv_V} (hP : P (some (.int r)) Vr) {l1 : Int64} {V : sv_V} (h : F_X12_scaled l1 V = some (r, Vr)) : sv_N g qX12_scaled 3 0 [(0, .ref 146), (1, .long l1)] [] V P := by
  unfold F_X12_scaled at h
  refine sx_lload_n (pc := 0) dX12_scaled_0 sx_m1 ?_
  refine sx_aload_n (pc := 1) dX12_scaled_1 sx_m0 ?_
  refine sv_getI (pc := 2) hG dX12_scaled_2 f_12_621 lay_146 rfl ?_
  refine sx_i2l (pc := 5) dX12_scaled_5 ?_
  refine sx_lmul (pc := 6) dX12_scaled_6 ?_
  refine sx_ldc2 (pc := 7) dX12_scaled_7 k_X12_338 ?_
  refine sx_lmul (pc := 10) dX12_scaled_10 ?_
  refine sx_aload_n (pc := 11) dX12_scaled_11 sx_m0 ?_
  refine sv_getI (pc := 12) hG dX12_scaled_12 f_12_302 lay_146 rfl ?_
  refine sx_i2l (pc := 15) dX12_scaled_15 ?_
  obtain ⟨⟨x3, V1⟩, g2, h⟩ := sx_bnd h
  refine sv_cS (pc := 16) (y := qX12_over) (o := (some (.long x3))) (as := [.long ((l1 * ((V.1 146 62).toInt64)) * (64 : Int64)), .long ((V.1 146 10).toInt64)]) (V1 := V1) dX12_scaled_16 l_X12_517 y0X12_over ysX12_over rfl (Nat.le_of_ble_eq_true rfl) (by decide) (Nat.le_of_ble_eq_true rfl) rfl rfl rfl (t_X12_over hG ⟨rfl, rfl⟩ g2) ?_
  refine sx_l2i (pc := 19) dX12_scaled_19 ?_
  exact sv_iret (pc := 20) dX12_scaled_20 rfl h hP
theorem dX12_stacks_0 : decode cX12_stacks 0 = .ok (.iload_n 1, 1) := by decide +kernel
theorem dX12_stacks_1 : decode cX12_stacks 1 = .ok (.tableswitch 544 32 47 #[79, 104, 127, 133, 188, 198, 198, 306, 544, 375, 444, 444, 460, 465, 470, 470], 79) := by decide +kernel
theorem dX12_stacks_80 : decode cX12_stacks 80 = .ok (.aload_n 0, 1) := by decide +kernel
theorem dX12_stacks_81 : decode cX12_stacks 81 = .ok (.iconst 1, 1) := by decide +kernel
theorem dX12_stacks_82 : decode cX12_stacks 82 = .ok (.invokevirtual 576, 3) := by decide +kernel
theorem dX12_stacks_85 : decode cX12_stacks 85 = .ok (.ifCond .eq 19, 3) := by decide +kernel
theorem dX12_stacks_88 : decode cX12_stacks 88 = .ok (.aload_n 0, 1) := by decide +kernel
theorem dX12_stacks_89 : decode cX12_stacks 89 = .ok (.aload_n 0, 1) := by decide +kernel
theorem dX12_stacks_90 : decode cX12_stacks 90 = .ok (.getfield 91, 3) := by decide +kernel
theorem dX12_stacks_93 : decode cX12_stacks 93 = .ok (.aload_n 0, 1) := by decide +kernel
theorem dX12_stacks_94 : decode cX12_stacks 94 = .ok (.getfield 418, 3) := by decide +kernel
theorem dX12_stacks_97 : decode cX12_stacks 97 = .ok (.iconst 1, 1) := by decide +kernel
theorem dX12_stacks_98 : decode cX12_stacks 98 = .ok (.isub, 1) := by decide +kernel
theorem dX12_stacks_99 : decode cX12_stacks 99 = .ok (.iaload, 1) := by decide +kernel
theorem dX12_stacks_100 : decode cX12_stacks 100 = .ok (.i2l, 1) := by decide +kernel
theorem dX12_stacks_101 : decode cX12_stacks 101 = .ok (.invokevirtual 564, 3) := by decide +kernel
theorem dX12_stacks_104 : decode cX12_stacks 104 = .ok (.return_, 1) := by decide +kernel
theorem dX12_stacks_105 : decode cX12_stacks 105 = .ok (.aload_n 0, 1) := by decide +kernel
theorem dX12_stacks_106 : decode cX12_stacks 106 = .ok (.dup, 1) := by decide +kernel
theorem dX12_stacks_107 : decode cX12_stacks 107 = .ok (.getfield 418, 3) := by decide +kernel
theorem dX12_stacks_110 : decode cX12_stacks 110 = .ok (.aload_n 0, 1) := by decide +kernel
theorem dX12_stacks_111 : decode cX12_stacks 111 = .ok (.iconst 1, 1) := by decide +kernel
theorem dX12_stacks_112 : decode cX12_stacks 112 = .ok (.invokevirtual 576, 3) := by decide +kernel
theorem dX12_stacks_115 : decode cX12_stacks 115 = .ok (.ifCond .eq 7, 3) := by decide +kernel
theorem dX12_stacks_118 : decode cX12_stacks 118 = .ok (.iconst 1, 1) := by decide +kernel
theorem dX12_stacks_119 : decode cX12_stacks 119 = .ok (.goto 4, 3) := by decide +kernel
theorem dX12_stacks_122 : decode cX12_stacks 122 = .ok (.iconst 0, 1) := by decide +kernel
theorem dX12_stacks_123 : decode cX12_stacks 123 = .ok (.isub, 1) := by decide +kernel
theorem dX12_stacks_124 : decode cX12_stacks 124 = .ok (.putfield 418, 3) := by decide +kernel
theorem dX12_stacks_127 : decode cX12_stacks 127 = .ok (.return_, 1) := by decide +kernel
theorem dX12_stacks_128 : decode cX12_stacks 128 = .ok (.aload_n 0, 1) := by decide +kernel
theorem dX12_stacks_129 : decode cX12_stacks 129 = .ok (.iconst 0, 1) := by decide +kernel
theorem dX12_stacks_130 : decode cX12_stacks 130 = .ok (.putfield 418, 3) := by decide +kernel
theorem dX12_stacks_133 : decode cX12_stacks 133 = .ok (.return_, 1) := by decide +kernel
theorem dX12_stacks_134 : decode cX12_stacks 134 = .ok (.aload_n 0, 1) := by decide +kernel
theorem dX12_stacks_135 : decode cX12_stacks 135 = .ok (.iconst 2, 1) := by decide +kernel
theorem dX12_stacks_136 : decode cX12_stacks 136 = .ok (.invokevirtual 576, 3) := by decide +kernel
theorem dX12_stacks_139 : decode cX12_stacks 139 = .ok (.ifCond .eq 49, 3) := by decide +kernel
theorem dX12_stacks_142 : decode cX12_stacks 142 = .ok (.aload_n 0, 1) := by decide +kernel
theorem dX12_stacks_143 : decode cX12_stacks 143 = .ok (.getfield 91, 3) := by decide +kernel
theorem dX12_stacks_146 : decode cX12_stacks 146 = .ok (.aload_n 0, 1) := by decide +kernel
theorem dX12_stacks_147 : decode cX12_stacks 147 = .ok (.getfield 418, 3) := by decide +kernel
theorem dX12_stacks_150 : decode cX12_stacks 150 = .ok (.iconst 1, 1) := by decide +kernel
theorem dX12_stacks_151 : decode cX12_stacks 151 = .ok (.isub, 1) := by decide +kernel
theorem dX12_stacks_152 : decode cX12_stacks 152 = .ok (.iaload, 1) := by decide +kernel
theorem dX12_stacks_153 : decode cX12_stacks 153 = .ok (.istore_n 2, 1) := by decide +kernel
theorem dX12_stacks_154 : decode cX12_stacks 154 = .ok (.aload_n 0, 1) := by decide +kernel
theorem dX12_stacks_155 : decode cX12_stacks 155 = .ok (.getfield 91, 3) := by decide +kernel
theorem dX12_stacks_158 : decode cX12_stacks 158 = .ok (.aload_n 0, 1) := by decide +kernel
theorem dX12_stacks_159 : decode cX12_stacks 159 = .ok (.getfield 418, 3) := by decide +kernel
theorem dX12_stacks_162 : decode cX12_stacks 162 = .ok (.iconst 1, 1) := by decide +kernel
theorem dX12_stacks_163 : decode cX12_stacks 163 = .ok (.isub, 1) := by decide +kernel
theorem dX12_stacks_164 : decode cX12_stacks 164 = .ok (.aload_n 0, 1) := by decide +kernel
theorem dX12_stacks_165 : decode cX12_stacks 165 = .ok (.getfield 91, 3) := by decide +kernel
theorem dX12_stacks_168 : decode cX12_stacks 168 = .ok (.aload_n 0, 1) := by decide +kernel
theorem dX12_stacks_169 : decode cX12_stacks 169 = .ok (.getfield 418, 3) := by decide +kernel
theorem dX12_stacks_172 : decode cX12_stacks 172 = .ok (.iconst 2, 1) := by decide +kernel
theorem dX12_stacks_173 : decode cX12_stacks 173 = .ok (.isub, 1) := by decide +kernel
theorem dX12_stacks_174 : decode cX12_stacks 174 = .ok (.iaload, 1) := by decide +kernel
theorem dX12_stacks_175 : decode cX12_stacks 175 = .ok (.iastore, 1) := by decide +kernel
theorem dX12_stacks_176 : decode cX12_stacks 176 = .ok (.aload_n 0, 1) := by decide +kernel
theorem dX12_stacks_177 : decode cX12_stacks 177 = .ok (.getfield 91, 3) := by decide +kernel
theorem dX12_stacks_180 : decode cX12_stacks 180 = .ok (.aload_n 0, 1) := by decide +kernel
theorem dX12_stacks_181 : decode cX12_stacks 181 = .ok (.getfield 418, 3) := by decide +kernel
theorem dX12_stacks_184 : decode cX12_stacks 184 = .ok (.iconst 2, 1) := by decide +kernel
theorem dX12_stacks_185 : decode cX12_stacks 185 = .ok (.isub, 1) := by decide +kernel
theorem dX12_stacks_186 : decode cX12_stacks 186 = .ok (.iload_n 2, 1) := by decide +kernel
theorem dX12_stacks_187 : decode cX12_stacks 187 = .ok (.iastore, 1) := by decide +kernel
theorem dX12_stacks_188 : decode cX12_stacks 188 = .ok (.return_, 1) := by decide +kernel
theorem dX12_stacks_189 : decode cX12_stacks 189 = .ok (.aload_n 0, 1) := by decide +kernel
theorem dX12_stacks_190 : decode cX12_stacks 190 = .ok (.aload_n 0, 1) := by decide +kernel
theorem dX12_stacks_191 : decode cX12_stacks 191 = .ok (.getfield 418, 3) := by decide +kernel
theorem dX12_stacks_194 : decode cX12_stacks 194 = .ok (.i2l, 1) := by decide +kernel
theorem dX12_stacks_195 : decode cX12_stacks 195 = .ok (.invokevirtual 564, 3) := by decide +kernel
theorem dX12_stacks_198 : decode cX12_stacks 198 = .ok (.return_, 1) := by decide +kernel
theorem dX12_stacks_199 : decode cX12_stacks 199 = .ok (.aload_n 0, 1) := by decide +kernel
theorem dX12_stacks_200 : decode cX12_stacks 200 = .ok (.iconst 1, 1) := by decide +kernel
theorem dX12_stacks_201 : decode cX12_stacks 201 = .ok (.invokevirtual 576, 3) := by decide +kernel
theorem dX12_stacks_204 : decode cX12_stacks 204 = .ok (.ifCond .eq 102, 3) := by decide +kernel
theorem dX12_stacks_207 : decode cX12_stacks 207 = .ok (.aload_n 0, 1) := by decide +kernel
theorem dX12_stacks_208 : decode cX12_stacks 208 = .ok (.invokevirtual 579, 3) := by decide +kernel
theorem dX12_stacks_211 : decode cX12_stacks 211 = .ok (.istore_n 2, 1) := by decide +kernel
theorem dX12_stacks_212 : decode cX12_stacks 212 = .ok (.iload_n 2, 1) := by decide +kernel
theorem dX12_stacks_213 : decode cX12_stacks 213 = .ok (.iconst 1, 1) := by decide +kernel
theorem dX12_stacks_214 : decode cX12_stacks 214 = .ok (.if_icmp .lt 11, 3) := by decide +kernel
theorem dX12_stacks_217 : decode cX12_stacks 217 = .ok (.iload_n 2, 1) := by decide +kernel
theorem dX12_stacks_218 : decode cX12_stacks 218 = .ok (.aload_n 0, 1) := by decide +kernel
theorem dX12_stacks_219 : decode cX12_stacks 219 = .ok (.getfield 418, 3) := by decide +kernel
theorem dX12_stacks_222 : decode cX12_stacks 222 = .ok (.if_icmp .le 9, 3) := by decide +kernel
theorem dX12_stacks_225 : decode cX12_stacks 225 = .ok (.aload_n 0, 1) := by decide +kernel
theorem dX12_stacks_226 : decode cX12_stacks 226 = .ok (.iconst 1, 1) := by decide +kernel
theorem dX12_stacks_227 : decode cX12_stacks 227 = .ok (.invokevirtual 421, 3) := by decide +kernel
theorem dX12_stacks_230 : decode cX12_stacks 230 = .ok (.return_, 1) := by decide +kernel
theorem dX12_stacks_231 : decode cX12_stacks 231 = .ok (.aload_n 0, 1) := by decide +kernel
theorem dX12_stacks_232 : decode cX12_stacks 232 = .ok (.getfield 91, 3) := by decide +kernel
theorem dX12_stacks_235 : decode cX12_stacks 235 = .ok (.aload_n 0, 1) := by decide +kernel
theorem dX12_stacks_236 : decode cX12_stacks 236 = .ok (.getfield 418, 3) := by decide +kernel
theorem dX12_stacks_239 : decode cX12_stacks 239 = .ok (.iload_n 2, 1) := by decide +kernel
theorem dX12_stacks_240 : decode cX12_stacks 240 = .ok (.isub, 1) := by decide +kernel
theorem dX12_stacks_241 : decode cX12_stacks 241 = .ok (.iaload, 1) := by decide +kernel
theorem dX12_stacks_242 : decode cX12_stacks 242 = .ok (.istore_n 3, 1) := by decide +kernel
theorem dX12_stacks_243 : decode cX12_stacks 243 = .ok (.iload_n 1, 1) := by decide +kernel
theorem dX12_stacks_244 : decode cX12_stacks 244 = .ok (.bipush 38, 2) := by decide +kernel
theorem dX12_stacks_246 : decode cX12_stacks 246 = .ok (.if_icmp .ne 54, 3) := by decide +kernel
theorem dX12_stacks_249 : decode cX12_stacks 249 = .ok (.aload_n 0, 1) := by decide +kernel
theorem dX12_stacks_250 : decode cX12_stacks 250 = .ok (.getfield 418, 3) := by decide +kernel
theorem dX12_stacks_253 : decode cX12_stacks 253 = .ok (.iload_n 2, 1) := by decide +kernel
theorem dX12_stacks_254 : decode cX12_stacks 254 = .ok (.isub, 1) := by decide +kernel
theorem dX12_stacks_255 : decode cX12_stacks 255 = .ok (.istore 4, 2) := by decide +kernel
theorem dX12_stacks_257 : decode cX12_stacks 257 = .ok (.iload 4, 2) := by decide +kernel
theorem dX12_stacks_259 : decode cX12_stacks 259 = .ok (.aload_n 0, 1) := by decide +kernel
theorem dX12_stacks_260 : decode cX12_stacks 260 = .ok (.getfield 418, 3) := by decide +kernel
theorem dX12_stacks_263 : decode cX12_stacks 263 = .ok (.iconst 1, 1) := by decide +kernel
theorem dX12_stacks_264 : decode cX12_stacks 264 = .ok (.isub, 1) := by decide +kernel
theorem dX12_stacks_265 : decode cX12_stacks 265 = .ok (.if_icmp .ge 25, 3) := by decide +kernel
theorem dX12_stacks_268 : decode cX12_stacks 268 = .ok (.aload_n 0, 1) := by decide +kernel
theorem dX12_stacks_269 : decode cX12_stacks 269 = .ok (.getfield 91, 3) := by decide +kernel
theorem dX12_stacks_272 : decode cX12_stacks 272 = .ok (.iload 4, 2) := by decide +kernel
theorem dX12_stacks_274 : decode cX12_stacks 274 = .ok (.aload_n 0, 1) := by decide +kernel
theorem dX12_stacks_275 : decode cX12_stacks 275 = .ok (.getfield 91, 3) := by decide +kernel
theorem dX12_stacks_278 : decode cX12_stacks 278 = .ok (.iload 4, 2) := by decide +kernel
theorem dX12_stacks_280 : decode cX12_stacks 280 = .ok (.iconst 1, 1) := by decide +kernel
theorem dX12_stacks_281 : decode cX12_stacks 281 = .ok (.iadd, 1) := by decide +kernel
theorem dX12_stacks_282 : decode cX12_stacks 282 = .ok (.iaload, 1) := by decide +kernel
theorem dX12_stacks_283 : decode cX12_stacks 283 = .ok (.iastore, 1) := by decide +kernel
theorem dX12_stacks_284 : decode cX12_stacks 284 = .ok (.iinc 4 1, 3) := by decide +kernel
theorem dX12_stacks_287 : decode cX12_stacks 287 = .ok (.goto (-30), 3) := by decide +kernel
theorem dX12_stacks_290 : decode cX12_stacks 290 = .ok (.aload_n 0, 1) := by decide +kernel
theorem dX12_stacks_291 : decode cX12_stacks 291 = .ok (.dup, 1) := by decide +kernel
theorem dX12_stacks_292 : decode cX12_stacks 292 = .ok (.getfield 418, 3) := by decide +kernel
theorem dX12_stacks_295 : decode cX12_stacks 295 = .ok (.iconst 1, 1) := by decide +kernel
theorem dX12_stacks_296 : decode cX12_stacks 296 = .ok (.isub, 1) := by decide +kernel
theorem dX12_stacks_297 : decode cX12_stacks 297 = .ok (.putfield 418, 3) := by decide +kernel
theorem dX12_stacks_300 : decode cX12_stacks 300 = .ok (.aload_n 0, 1) := by decide +kernel
theorem dX12_stacks_301 : decode cX12_stacks 301 = .ok (.iload_n 3, 1) := by decide +kernel
theorem dX12_stacks_302 : decode cX12_stacks 302 = .ok (.i2l, 1) := by decide +kernel
theorem dX12_stacks_303 : decode cX12_stacks 303 = .ok (.invokevirtual 564, 3) := by decide +kernel
theorem dX12_stacks_306 : decode cX12_stacks 306 = .ok (.return_, 1) := by decide +kernel
theorem dX12_stacks_307 : decode cX12_stacks 307 = .ok (.aload_n 0, 1) := by decide +kernel
theorem dX12_stacks_308 : decode cX12_stacks 308 = .ok (.iconst 2, 1) := by decide +kernel
theorem dX12_stacks_309 : decode cX12_stacks 309 = .ok (.invokevirtual 576, 3) := by decide +kernel
theorem dX12_stacks_312 : decode cX12_stacks 312 = .ok (.ifCond .eq 63, 3) := by decide +kernel
theorem dX12_stacks_315 : decode cX12_stacks 315 = .ok (.aload_n 0, 1) := by decide +kernel
theorem dX12_stacks_316 : decode cX12_stacks 316 = .ok (.aload_n 0, 1) := by decide +kernel
theorem dX12_stacks_317 : decode cX12_stacks 317 = .ok (.getfield 460, 3) := by decide +kernel
theorem dX12_stacks_320 : decode cX12_stacks 320 = .ok (.aload_n 0, 1) := by decide +kernel
theorem dX12_stacks_321 : decode cX12_stacks 321 = .ok (.invokevirtual 579, 3) := by decide +kernel
theorem dX12_stacks_324 : decode cX12_stacks 324 = .ok (.invokevirtual 582, 3) := by decide +kernel
theorem dX12_stacks_327 : decode cX12_stacks 327 = .ok (.istore_n 2, 1) := by decide +kernel
theorem dX12_stacks_328 : decode cX12_stacks 328 = .ok (.aload_n 0, 1) := by decide +kernel
theorem dX12_stacks_329 : decode cX12_stacks 329 = .ok (.aload_n 0, 1) := by decide +kernel
theorem dX12_stacks_330 : decode cX12_stacks 330 = .ok (.getfield 463, 3) := by decide +kernel
theorem dX12_stacks_333 : decode cX12_stacks 333 = .ok (.aload_n 0, 1) := by decide +kernel
theorem dX12_stacks_334 : decode cX12_stacks 334 = .ok (.invokevirtual 579, 3) := by decide +kernel
theorem dX12_stacks_337 : decode cX12_stacks 337 = .ok (.invokevirtual 582, 3) := by decide +kernel
theorem dX12_stacks_340 : decode cX12_stacks 340 = .ok (.istore_n 3, 1) := by decide +kernel
theorem dX12_stacks_341 : decode cX12_stacks 341 = .ok (.aload_n 0, 1) := by decide +kernel
theorem dX12_stacks_342 : decode cX12_stacks 342 = .ok (.getfield 409, 3) := by decide +kernel
theorem dX12_stacks_345 : decode cX12_stacks 345 = .ok (.ifCond .ne 30, 3) := by decide +kernel
theorem dX12_stacks_348 : decode cX12_stacks 348 = .ok (.aload_n 0, 1) := by decide +kernel
theorem dX12_stacks_349 : decode cX12_stacks 349 = .ok (.iload_n 2, 1) := by decide +kernel
theorem dX12_stacks_350 : decode cX12_stacks 350 = .ok (.iload_n 3, 1) := by decide +kernel
theorem dX12_stacks_351 : decode cX12_stacks 351 = .ok (.invokevirtual 627, 3) := by decide +kernel
theorem dX12_stacks_354 : decode cX12_stacks 354 = .ok (.iconst 2, 1) := by decide +kernel
theorem dX12_stacks_355 : decode cX12_stacks 355 = .ok (.idiv, 1) := by decide +kernel
theorem dX12_stacks_356 : decode cX12_stacks 356 = .ok (.istore 4, 2) := by decide +kernel
theorem dX12_stacks_358 : decode cX12_stacks 358 = .ok (.aload_n 0, 1) := by decide +kernel
theorem dX12_stacks_359 : decode cX12_stacks 359 = .ok (.iload_n 3, 1) := by decide +kernel
theorem dX12_stacks_360 : decode cX12_stacks 360 = .ok (.iload 4, 2) := by decide +kernel
theorem dX12_stacks_362 : decode cX12_stacks 362 = .ok (.i2l, 1) := by decide +kernel
theorem dX12_stacks_363 : decode cX12_stacks 363 = .ok (.invokevirtual 630, 3) := by decide +kernel
theorem dX12_stacks_366 : decode cX12_stacks 366 = .ok (.aload_n 0, 1) := by decide +kernel
theorem dX12_stacks_367 : decode cX12_stacks 367 = .ok (.iload_n 2, 1) := by decide +kernel
theorem dX12_stacks_368 : decode cX12_stacks 368 = .ok (.iload 4, 2) := by decide +kernel
theorem dX12_stacks_370 : decode cX12_stacks 370 = .ok (.i2l, 1) := by decide +kernel
theorem dX12_stacks_371 : decode cX12_stacks 371 = .ok (.lneg, 1) := by decide +kernel
theorem dX12_stacks_372 : decode cX12_stacks 372 = .ok (.invokevirtual 630, 3) := by decide +kernel
theorem dX12_stacks_375 : decode cX12_stacks 375 = .ok (.return_, 1) := by decide +kernel
theorem dX12_stacks_376 : decode cX12_stacks 376 = .ok (.aload_n 0, 1) := by decide +kernel
theorem dX12_stacks_377 : decode cX12_stacks 377 = .ok (.iconst 1, 1) := by decide +kernel
theorem dX12_stacks_378 : decode cX12_stacks 378 = .ok (.invokevirtual 576, 3) := by decide +kernel
theorem dX12_stacks_381 : decode cX12_stacks 381 = .ok (.ifCond .eq 63, 3) := by decide +kernel
theorem dX12_stacks_384 : decode cX12_stacks 384 = .ok (.aload_n 0, 1) := by decide +kernel
theorem dX12_stacks_385 : decode cX12_stacks 385 = .ok (.aload_n 0, 1) := by decide +kernel
theorem dX12_stacks_386 : decode cX12_stacks 386 = .ok (.getfield 460, 3) := by decide +kernel
theorem dX12_stacks_389 : decode cX12_stacks 389 = .ok (.aload_n 0, 1) := by decide +kernel
theorem dX12_stacks_390 : decode cX12_stacks 390 = .ok (.invokevirtual 579, 3) := by decide +kernel
theorem dX12_stacks_393 : decode cX12_stacks 393 = .ok (.invokevirtual 582, 3) := by decide +kernel
theorem dX12_stacks_396 : decode cX12_stacks 396 = .ok (.istore_n 2, 1) := by decide +kernel
theorem dX12_stacks_397 : decode cX12_stacks 397 = .ok (.aload_n 0, 1) := by decide +kernel
theorem dX12_stacks_398 : decode cX12_stacks 398 = .ok (.getfield 409, 3) := by decide +kernel
theorem dX12_stacks_401 : decode cX12_stacks 401 = .ok (.ifCond .ne 43, 3) := by decide +kernel
theorem dX12_stacks_404 : decode cX12_stacks 404 = .ok (.aload_n 0, 1) := by decide +kernel
theorem dX12_stacks_405 : decode cX12_stacks 405 = .ok (.getfield 82, 3) := by decide +kernel
theorem dX12_stacks_408 : decode cX12_stacks 408 = .ok (.iload_n 2, 1) := by decide +kernel
theorem dX12_stacks_409 : decode cX12_stacks 409 = .ok (.aload_n 0, 1) := by decide +kernel
theorem dX12_stacks_410 : decode cX12_stacks 410 = .ok (.getfield 82, 3) := by decide +kernel
theorem dX12_stacks_413 : decode cX12_stacks 413 = .ok (.iload_n 2, 1) := by decide +kernel
theorem dX12_stacks_414 : decode cX12_stacks 414 = .ok (.iaload, 1) := by decide +kernel
theorem dX12_stacks_415 : decode cX12_stacks 415 = .ok (.aload_n 0, 1) := by decide +kernel
theorem dX12_stacks_416 : decode cX12_stacks 416 = .ok (.getfield 433, 3) := by decide +kernel
theorem dX12_stacks_419 : decode cX12_stacks 419 = .ok (.ifCond .eq 7, 3) := by decide +kernel
theorem dX12_stacks_422 : decode cX12_stacks 422 = .ok (.iconst 1, 1) := by decide +kernel
theorem dX12_stacks_423 : decode cX12_stacks 423 = .ok (.goto 4, 3) := by decide +kernel
theorem dX12_stacks_426 : decode cX12_stacks 426 = .ok (.iconst 0, 1) := by decide +kernel
theorem dX12_stacks_427 : decode cX12_stacks 427 = .ok (.aload_n 0, 1) := by decide +kernel
theorem dX12_stacks_428 : decode cX12_stacks 428 = .ok (.getfield 436, 3) := by decide +kernel
theorem dX12_stacks_431 : decode cX12_stacks 431 = .ok (.ifCond .eq 7, 3) := by decide +kernel
theorem dX12_stacks_434 : decode cX12_stacks 434 = .ok (.iconst 2, 1) := by decide +kernel
theorem dX12_stacks_435 : decode cX12_stacks 435 = .ok (.goto 4, 3) := by decide +kernel
theorem dX12_stacks_438 : decode cX12_stacks 438 = .ok (.iconst 0, 1) := by decide +kernel
theorem dX12_stacks_439 : decode cX12_stacks 439 = .ok (.ior, 1) := by decide +kernel
theorem dX12_stacks_440 : decode cX12_stacks 440 = .ok (.iconst (-1), 1) := by decide +kernel
theorem dX12_stacks_441 : decode cX12_stacks 441 = .ok (.ixor, 1) := by decide +kernel
theorem dX12_stacks_442 : decode cX12_stacks 442 = .ok (.iand, 1) := by decide +kernel
theorem dX12_stacks_443 : decode cX12_stacks 443 = .ok (.iastore, 1) := by decide +kernel
theorem dX12_stacks_444 : decode cX12_stacks 444 = .ok (.return_, 1) := by decide +kernel
theorem dX12_stacks_445 : decode cX12_stacks 445 = .ok (.aload_n 0, 1) := by decide +kernel
theorem dX12_stacks_446 : decode cX12_stacks 446 = .ok (.iload_n 1, 1) := by decide +kernel
theorem dX12_stacks_447 : decode cX12_stacks 447 = .ok (.bipush 42, 2) := by decide +kernel
theorem dX12_stacks_449 : decode cX12_stacks 449 = .ok (.if_icmp .ne 7, 3) := by decide +kernel
theorem dX12_stacks_452 : decode cX12_stacks 452 = .ok (.iconst 1, 1) := by decide +kernel
theorem dX12_stacks_453 : decode cX12_stacks 453 = .ok (.goto 4, 3) := by decide +kernel
theorem dX12_stacks_456 : decode cX12_stacks 456 = .ok (.iconst 0, 1) := by decide +kernel
theorem dX12_stacks_457 : decode cX12_stacks 457 = .ok (.invokevirtual 634, 3) := by decide +kernel
theorem dX12_stacks_460 : decode cX12_stacks 460 = .ok (.return_, 1) := by decide +kernel
theorem dX12_stacks_461 : decode cX12_stacks 461 = .ok (.aload_n 0, 1) := by decide +kernel
theorem dX12_stacks_462 : decode cX12_stacks 462 = .ok (.invokevirtual 638, 3) := by decide +kernel
theorem dX12_stacks_465 : decode cX12_stacks 465 = .ok (.return_, 1) := by decide +kernel
theorem dX12_stacks_466 : decode cX12_stacks 466 = .ok (.aload_n 0, 1) := by decide +kernel
theorem dX12_stacks_467 : decode cX12_stacks 467 = .ok (.invokevirtual 641, 3) := by decide +kernel
theorem dX12_stacks_470 : decode cX12_stacks 470 = .ok (.return_, 1) := by decide +kernel
theorem dX12_stacks_471 : decode cX12_stacks 471 = .ok (.aload_n 0, 1) := by decide +kernel
theorem dX12_stacks_472 : decode cX12_stacks 472 = .ok (.iconst 1, 1) := by decide +kernel
theorem dX12_stacks_473 : decode cX12_stacks 473 = .ok (.invokevirtual 576, 3) := by decide +kernel
theorem dX12_stacks_476 : decode cX12_stacks 476 = .ok (.ifCond .eq 68, 3) := by decide +kernel
theorem dX12_stacks_479 : decode cX12_stacks 479 = .ok (.aload_n 0, 1) := by decide +kernel
theorem dX12_stacks_480 : decode cX12_stacks 480 = .ok (.invokevirtual 579, 3) := by decide +kernel
theorem dX12_stacks_483 : decode cX12_stacks 483 = .ok (.istore_n 2, 1) := by decide +kernel
theorem dX12_stacks_484 : decode cX12_stacks 484 = .ok (.aload_n 0, 1) := by decide +kernel
theorem dX12_stacks_485 : decode cX12_stacks 485 = .ok (.aload_n 0, 1) := by decide +kernel
theorem dX12_stacks_486 : decode cX12_stacks 486 = .ok (.getfield 460, 3) := by decide +kernel
theorem dX12_stacks_489 : decode cX12_stacks 489 = .ok (.iload_n 2, 1) := by decide +kernel
theorem dX12_stacks_490 : decode cX12_stacks 490 = .ok (.invokevirtual 582, 3) := by decide +kernel
theorem dX12_stacks_493 : decode cX12_stacks 493 = .ok (.istore_n 3, 1) := by decide +kernel
theorem dX12_stacks_494 : decode cX12_stacks 494 = .ok (.aload_n 0, 1) := by decide +kernel
theorem dX12_stacks_495 : decode cX12_stacks 495 = .ok (.getfield 409, 3) := by decide +kernel
theorem dX12_stacks_498 : decode cX12_stacks 498 = .ok (.ifCond .ne 46, 3) := by decide +kernel
theorem dX12_stacks_501 : decode cX12_stacks 501 = .ok (.aload_n 0, 1) := by decide +kernel
theorem dX12_stacks_502 : decode cX12_stacks 502 = .ok (.iload_n 3, 1) := by decide +kernel
theorem dX12_stacks_503 : decode cX12_stacks 503 = .ok (.invokevirtual 644, 3) := by decide +kernel
theorem dX12_stacks_506 : decode cX12_stacks 506 = .ok (.istore 4, 2) := by decide +kernel
theorem dX12_stacks_508 : decode cX12_stacks 508 = .ok (.aload_n 0, 1) := by decide +kernel
theorem dX12_stacks_509 : decode cX12_stacks 509 = .ok (.iload_n 3, 1) := by decide +kernel
theorem dX12_stacks_510 : decode cX12_stacks 510 = .ok (.iload_n 1, 1) := by decide +kernel
theorem dX12_stacks_511 : decode cX12_stacks 511 = .ok (.bipush 47, 2) := by decide +kernel
theorem dX12_stacks_513 : decode cX12_stacks 513 = .ok (.if_icmp .ne 17, 3) := by decide +kernel
theorem dX12_stacks_516 : decode cX12_stacks 516 = .ok (.aload_n 0, 1) := by decide +kernel
theorem dX12_stacks_517 : decode cX12_stacks 517 = .ok (.iload 4, 2) := by decide +kernel
theorem dX12_stacks_519 : decode cX12_stacks 519 = .ok (.i2l, 1) := by decide +kernel
theorem dX12_stacks_520 : decode cX12_stacks 520 = .ok (.invokevirtual 647, 3) := by decide +kernel
theorem dX12_stacks_523 : decode cX12_stacks 523 = .ok (.iload 4, 2) := by decide +kernel
theorem dX12_stacks_525 : decode cX12_stacks 525 = .ok (.i2l, 1) := by decide +kernel
theorem dX12_stacks_526 : decode cX12_stacks 526 = .ok (.lsub, 1) := by decide +kernel
theorem dX12_stacks_527 : decode cX12_stacks 527 = .ok (.goto 4, 3) := by decide +kernel
theorem dX12_stacks_530 : decode cX12_stacks 530 = .ok (.lconst 0, 1) := by decide +kernel
theorem dX12_stacks_531 : decode cX12_stacks 531 = .ok (.invokevirtual 630, 3) := by decide +kernel
theorem dX12_stacks_534 : decode cX12_stacks 534 = .ok (.aload_n 0, 1) := by decide +kernel
theorem dX12_stacks_535 : decode cX12_stacks 535 = .ok (.iload_n 2, 1) := by decide +kernel
theorem dX12_stacks_536 : decode cX12_stacks 536 = .ok (.putfield 451, 3) := by decide +kernel
theorem dX12_stacks_539 : decode cX12_stacks 539 = .ok (.aload_n 0, 1) := by decide +kernel
theorem dX12_stacks_540 : decode cX12_stacks 540 = .ok (.iload_n 2, 1) := by decide +kernel
theorem dX12_stacks_541 : decode cX12_stacks 541 = .ok (.putfield 454, 3) := by decide +kernel
theorem dX12_stacks_544 : decode cX12_stacks 544 = .ok (.return_, 1) := by decide +kernel
theorem dX12_stacks_545 : decode cX12_stacks 545 = .ok (.aload_n 0, 1) := by decide +kernel
theorem dX12_stacks_546 : decode cX12_stacks 546 = .ok (.iload_n 1, 1) := by decide +kernel
theorem dX12_stacks_547 : decode cX12_stacks 547 = .ok (.invokevirtual 650, 3) := by decide +kernel
theorem dX12_stacks_550 : decode cX12_stacks 550 = .ok (.return_, 1) := by decide +kernel
def B_X12_stacks_225 (N : Nat)   (V : sv_V) : Option sv_V := (F_X12_fail (1 : Int32) V).bind (fun V1 => some V1)
set_option maxRecDepth 20000 in
theorem tB_X12_stacks_225 {g : sx_G} (hG : sx_Go g) {P : Option Value → sv_V → Prop} {Vr : sv_V} (hP : P none Vr) {N : Nat}    {V : sv_V} (h : B_X12_stacks_225 N   V = some Vr) : sv_N g qX12_stacks 5 225 [(0, .ref 146)] [] V P := by
  unfold B_X12_stacks_225 at h
  refine sx_aload_n (pc := 225) dX12_stacks_225 sx_m0 ?_
  refine sx_iconst (pc := 226) (v := 1) dX12_stacks_226 (by decide) ?_
  obtain ⟨V1, g2, h⟩ := sx_bnd h
  refine sv_cV (pc := 227) (y := qX12_fail) (o := none) (as := [.int (1 : Int32)]) (V1 := V1) hG dX12_stacks_227 l_X12_421 y0X12_fail yvX12_fail rfl (Nat.le_of_ble_eq_true rfl) lay_146 kr_12 (by decide) (Nat.le_of_ble_eq_true rfl) rfl rfl rfl (t_X12_fail hG ⟨rfl, rfl⟩ g2) ?_
  exact sv_vret (pc := 230) dX12_stacks_230 rfl h hP
def B_X12_stacks_300 (N : Nat)  (l3 : Int32) (V : sv_V) : Option sv_V := (F_X12_push l3.toInt64 V).bind (fun V3 => some V3)
set_option maxRecDepth 20000 in
theorem tB_X12_stacks_300 {g : sx_G} (hG : sx_Go g) {P : Option Value → sv_V → Prop} {Vr : sv_V} (hP : P none Vr) {N : Nat}   {l3 : Int32} {V : sv_V} (h : B_X12_stacks_300 N  l3 V = some Vr) : sv_N g qX12_stacks 5 300 [(0, .ref 146), (3, .int l3)] [] V P := by
  unfold B_X12_stacks_300 at h
  refine sx_aload_n (pc := 300) dX12_stacks_300 sx_m0 ?_
  refine sx_iload_n (pc := 301) dX12_stacks_301 sx_m1 ?_
  refine sx_i2l (pc := 302) dX12_stacks_302 ?_
  obtain ⟨V3, g4, h⟩ := sx_bnd h
  refine sv_cV (pc := 303) (y := qX12_push) (o := none) (as := [.long l3.toInt64]) (V1 := V3) hG dX12_stacks_303 l_X12_564 y0X12_push yvX12_push rfl (Nat.le_of_ble_eq_true rfl) lay_146 kr_12 (by decide) (Nat.le_of_ble_eq_true rfl) rfl rfl rfl (t_X12_push hG ⟨rfl, rfl⟩ g4) ?_
  exact sv_vret (pc := 306) dX12_stacks_306 rfl h hP
def B_X12_stacks_257 (N : Nat) (k257 : Int32 → Int32 → sv_V → Option sv_V) (l3 : Int32) (l4 : Int32) (V : sv_V) : Option sv_V := if ((V.1 146 56) - (1 : Int32)) ≤ l4 then (sx_let (sv_I V 146 56 ((V.1 146 56) - (1 : Int32))) (fun V6 => B_X12_stacks_300 N  l3 V6)) else (if sx_in (l4 + (1 : Int32)) 256 = true then if sx_in l4 256 = true then sx_let (sv_I V 173 l4.toNatClampNeg (V.1 173 (l4 + (1 : Int32)).toNatClampNeg)) (fun V9 => sx_let (l4 + 1) (fun x10 => k257 l3 x10 V9)) else none else none)
set_option maxRecDepth 20000 in
theorem tB_X12_stacks_257 {g : sx_G} (hG : sx_Go g) {P : Option Value → sv_V → Prop} {Vr : sv_V} (hP : P none Vr) {N : Nat} {k257 : Int32 → Int32 → sv_V → Option sv_V} (hk257 : ∀ (l3 : Int32) (l4 : Int32) (V : sv_V), k257 l3 l4 V = some Vr → sv_N g qX12_stacks 5 257 [(0, .ref 146), (3, .int l3), (4, .int l4)] [] V P) {l3 : Int32} {l4 : Int32} {V : sv_V} (h : B_X12_stacks_257 N k257 l3 l4 V = some Vr) : sv_N g qX12_stacks 5 257 [(0, .ref 146), (3, .int l3), (4, .int l4)] [] V P := by
  unfold B_X12_stacks_257 at h
  refine sx_iload (pc := 257) dX12_stacks_257 sx_m2 ?_
  refine sx_aload_n (pc := 259) dX12_stacks_259 sx_m0 ?_
  refine sv_getI (pc := 260) hG dX12_stacks_260 f_12_418 lay_146 rfl ?_
  refine sx_iconst (pc := 263) (v := 1) dX12_stacks_263 (by decide) ?_
  refine sx_isub (pc := 264) dX12_stacks_264 ?_
  refine sx_icmp_ge (pc := 265) (tgt := 290) dX12_stacks_265 (by decide) (fun c5 => ?_) (fun c5 => ?_)
  · have h := sx_pos c5 h
    refine sx_aload_n (pc := 290) dX12_stacks_290 sx_m0 ?_
    refine sx_dup (pc := 291) dX12_stacks_291 rfl ?_
    refine sv_getI (pc := 292) hG dX12_stacks_292 f_12_418 lay_146 rfl ?_
    refine sx_iconst (pc := 295) (v := 1) dX12_stacks_295 (by decide) ?_
    refine sx_isub (pc := 296) dX12_stacks_296 ?_
    obtain ⟨V6, hV6⟩ : ∃ z : sv_V, z = sv_I V 146 56 ((V.1 146 56) - (1 : Int32)) := ⟨_, rfl⟩
    have h := sx_letE hV6 h
    refine sv_putI (pc := 297) hG dX12_stacks_297 f_12_418 lay_146 rfl hV6 ?_
    refine sx_wk (sx_s1 sx_m0 (sx_s1 sx_m1 sx_s0)) ?_
    exact tB_X12_stacks_300 hG hP  h
  · have h := sx_neg c5 h
    refine sx_aload_n (pc := 268) dX12_stacks_268 sx_m0 ?_
    refine sv_getA (pc := 269) hG dX12_stacks_269 f_12_91 lay_146 rfl cr_146_55 ?_
    refine sx_iload (pc := 272) dX12_stacks_272 sx_m2 ?_
    refine sx_aload_n (pc := 274) dX12_stacks_274 sx_m0 ?_
    refine sv_getA (pc := 275) hG dX12_stacks_275 f_12_91 lay_146 rfl cr_146_55 ?_
    refine sx_iload (pc := 278) dX12_stacks_278 sx_m2 ?_
    refine sx_iconst (pc := 280) (v := 1) dX12_stacks_280 (by decide) ?_
    refine sx_iadd (pc := 281) dX12_stacks_281 ?_
    obtain ⟨g7, h⟩ := sx_grd h
    refine sv_iald (pc := 282) hG dX12_stacks_282 lay_173 g7 ?_
    obtain ⟨g8, h⟩ := sx_grd h
    obtain ⟨V9, hV9⟩ : ∃ z : sv_V, z = sv_I V 173 l4.toNatClampNeg (V.1 173 (l4 + (1 : Int32)).toNatClampNeg) := ⟨_, rfl⟩
    have h := sx_letE hV9 h
    refine sv_iast (pc := 283) hG dX12_stacks_283 lay_173 g8 hV9 ?_
    obtain ⟨x10, hx10⟩ : ∃ z : Int32, z = l4 + 1 := ⟨_, rfl⟩
    have h := sx_letE hx10 h
    refine sx_iinc (pc := 284) (v := x10) (lo' := [(4, .int x10), (0, .ref 146), (3, .int l3)]) dX12_stacks_284 sx_m2 (by rw [hx10]; rfl) (by decide) rfl ?_
    refine sx_goto (pc := 287) (tgt := 257) dX12_stacks_287 (by decide) ?_
    refine sx_wk (sx_s1 sx_m1 (sx_s1 sx_m2 (sx_s1 sx_m0 sx_s0))) ?_
    exact hk257 _ _ _ h
theorem tL_X12_stacks_257 {g : sx_G} (hG : sx_Go g) {P : Option Value → sv_V → Prop} {Vr : sv_V} (hP : P none Vr) {N : Nat}   : ∀ (n : Nat) (l3 : Int32) (l4 : Int32) (V : sv_V), sx_lp3 (B_X12_stacks_257 N ) n l3 l4 V = some Vr → sv_N g qX12_stacks 5 257 [(0, .ref 146), (3, .int l3), (4, .int l4)] [] V P :=
  sx_lp3_ind (fun k0 ih _ _ V h => tB_X12_stacks_257 hG hP ih h)
def B_X12_stacks_199 (N : Nat)  (l1 : Int32) (V : sv_V) : Option sv_V := (F_X12_has (1 : Int32) V).bind (fun (x13, V11) => if x13 = 0 then (some V11) else ((F_X12_pop  V11).bind (fun (x17, V15) => if x17 < (1 : Int32) then (B_X12_stacks_225 N   V15) else (if x17 ≤ (V15.1 146 56) then (if sx_in ((V15.1 146 56) - x17) 256 = true then sx_let (V15.1 173 ((V15.1 146 56) - x17).toNatClampNeg) (fun x21 => if l1 = (38 : Int32) then (sx_let ((V15.1 146 56) - x17) (fun x23 => sx_lp3 (B_X12_stacks_257 N ) N x21 x23 V15)) else (B_X12_stacks_300 N  x21 V15)) else none) else (B_X12_stacks_225 N   V15)))))
set_option maxRecDepth 20000 in
theorem tB_X12_stacks_199 {g : sx_G} (hG : sx_Go g) {P : Option Value → sv_V → Prop} {Vr : sv_V} (hP : P none Vr) {N : Nat}   {l1 : Int32} {V : sv_V} (h : B_X12_stacks_199 N  l1 V = some Vr) : sv_N g qX12_stacks 5 199 [(0, .ref 146), (1, .int l1)] [] V P := by
  unfold B_X12_stacks_199 at h
  refine sx_aload_n (pc := 199) dX12_stacks_199 sx_m0 ?_
  refine sx_iconst (pc := 200) (v := 1) dX12_stacks_200 (by decide) ?_
  obtain ⟨⟨x13, V11⟩, g12, h⟩ := sx_bnd h
  refine sv_cV (pc := 201) (y := qX12_has) (o := (some (.int x13))) (as := [.int (1 : Int32)]) (V1 := V11) hG dX12_stacks_201 l_X12_576 y0X12_has yvX12_has rfl (Nat.le_of_ble_eq_true rfl) lay_146 kr_12 (by decide) (Nat.le_of_ble_eq_true rfl) rfl rfl rfl (t_X12_has hG ⟨rfl, rfl⟩ g12) ?_
  refine sx_if_eq (pc := 204) (tgt := 306) dX12_stacks_204 (by decide) (fun c14 => ?_) (fun c14 => ?_)
  · have h := sx_pos c14 h
    exact sv_vret (pc := 306) dX12_stacks_306 rfl h hP
  · have h := sx_neg c14 h
    refine sx_aload_n (pc := 207) dX12_stacks_207 sx_m0 ?_
    obtain ⟨⟨x17, V15⟩, g16, h⟩ := sx_bnd h
    refine sv_cV (pc := 208) (y := qX12_pop) (o := (some (.int x17))) (as := []) (V1 := V15) hG dX12_stacks_208 l_X12_579 y0X12_pop yvX12_pop rfl (Nat.le_of_ble_eq_true rfl) lay_146 kr_12 (by decide) (Nat.le_of_ble_eq_true rfl) rfl rfl rfl (t_X12_pop hG ⟨rfl, rfl⟩ g16) ?_
    refine sx_istore_n (pc := 211) (lo' := [(2, .int x17), (0, .ref 146), (1, .int l1)]) dX12_stacks_211 (by decide) rfl ?_
    refine sx_iload_n (pc := 212) dX12_stacks_212 sx_m0 ?_
    refine sx_iconst (pc := 213) (v := 1) dX12_stacks_213 (by decide) ?_
    refine sx_icmp_lt (pc := 214) (tgt := 225) dX12_stacks_214 (by decide) (fun c18 => ?_) (fun c18 => ?_)
    · have h := sx_pos c18 h
      refine sx_wk (sx_s1 sx_m1 sx_s0) ?_
      exact tB_X12_stacks_225 hG hP  h
    · have h := sx_neg c18 h
      refine sx_iload_n (pc := 217) dX12_stacks_217 sx_m0 ?_
      refine sx_aload_n (pc := 218) dX12_stacks_218 sx_m1 ?_
      refine sv_getI (pc := 219) hG dX12_stacks_219 f_12_418 lay_146 rfl ?_
      refine sx_icmp_le (pc := 222) (tgt := 231) dX12_stacks_222 (by decide) (fun c19 => ?_) (fun c19 => ?_)
      · have h := sx_pos c19 h
        refine sx_aload_n (pc := 231) dX12_stacks_231 sx_m1 ?_
        refine sv_getA (pc := 232) hG dX12_stacks_232 f_12_91 lay_146 rfl cr_146_55 ?_
        refine sx_aload_n (pc := 235) dX12_stacks_235 sx_m1 ?_
        refine sv_getI (pc := 236) hG dX12_stacks_236 f_12_418 lay_146 rfl ?_
        refine sx_iload_n (pc := 239) dX12_stacks_239 sx_m0 ?_
        refine sx_isub (pc := 240) dX12_stacks_240 ?_
        obtain ⟨g20, h⟩ := sx_grd h
        refine sv_iald (pc := 241) hG dX12_stacks_241 lay_173 g20 ?_
        refine sv_tI (fun x21 hx21 => ?_)
        have h := sx_letE hx21 h
        refine sx_istore_n (pc := 242) (lo' := [(3, .int x21), (2, .int x17), (0, .ref 146), (1, .int l1)]) dX12_stacks_242 (by decide) rfl ?_
        refine sx_iload_n (pc := 243) dX12_stacks_243 sx_m3 ?_
        refine sx_bipush (pc := 244) (v := 38) dX12_stacks_244 (by decide) ?_
        refine sx_icmp_ne (pc := 246) (tgt := 300) dX12_stacks_246 (by decide) (fun c22 => ?_) (fun c22 => ?_)
        · have h := sx_neg c22 h
          refine sx_wk (sx_s1 sx_m2 (sx_s1 sx_m0 sx_s0)) ?_
          exact tB_X12_stacks_300 hG hP  h
        · have h := sx_pos c22 h
          refine sx_aload_n (pc := 249) dX12_stacks_249 sx_m2 ?_
          refine sv_getI (pc := 250) hG dX12_stacks_250 f_12_418 lay_146 rfl ?_
          refine sx_iload_n (pc := 253) dX12_stacks_253 sx_m1 ?_
          refine sx_isub (pc := 254) dX12_stacks_254 ?_
          refine sv_tI (fun x23 hx23 => ?_)
          have h := sx_letE hx23 h
          refine sx_istore (pc := 255) (lo' := [(4, .int x23), (3, .int x21), (2, .int x17), (0, .ref 146), (1, .int l1)]) dX12_stacks_255 (by decide) rfl ?_
          refine sx_wk (sx_s1 sx_m3 (sx_s1 sx_m1 (sx_s1 sx_m0 sx_s0))) ?_
          exact tL_X12_stacks_257 hG hP  N _ _ _ h
      · have h := sx_neg c19 h
        refine sx_wk (sx_s1 sx_m1 sx_s0) ?_
        exact tB_X12_stacks_225 hG hP  h
def B_X12_stacks_427 (N : Nat)  (s1 : Int32) (s2 : Int32) (s3 : Int32) (V : sv_V) : Option sv_V := if (V.1 146 64) = 0 then (if sx_in s1 204 = true then sx_let (sv_I V 170 s1.toNatClampNeg (s2 &&& ((s3 ||| (0 : Int32)) ^^^ (-1 : Int32)))) (fun V26 => some V26) else none) else (if sx_in s1 204 = true then sx_let (sv_I V 170 s1.toNatClampNeg (s2 &&& ((s3 ||| (2 : Int32)) ^^^ (-1 : Int32)))) (fun V28 => some V28) else none)
set_option maxRecDepth 20000 in
theorem tB_X12_stacks_427 {g : sx_G} (hG : sx_Go g) {P : Option Value → sv_V → Prop} {Vr : sv_V} (hP : P none Vr) {N : Nat}   {s1 : Int32} {s2 : Int32} {s3 : Int32} {V : sv_V} (h : B_X12_stacks_427 N  s1 s2 s3 V = some Vr) : sv_N g qX12_stacks 5 427 [(0, .ref 146)] [.int s3, .int s2, .int s1, .ref 170] V P := by
  unfold B_X12_stacks_427 at h
  refine sx_aload_n (pc := 427) dX12_stacks_427 sx_m0 ?_
  refine sv_getI (pc := 428) hG dX12_stacks_428 f_12_436 lay_146 rfl ?_
  refine sx_if_eq (pc := 431) (tgt := 438) dX12_stacks_431 (by decide) (fun c24 => ?_) (fun c24 => ?_)
  · have h := sx_pos c24 h
    refine sx_iconst (pc := 438) (v := 0) dX12_stacks_438 (by decide) ?_
    refine sx_ior (pc := 439) dX12_stacks_439 ?_
    refine sx_iconst (pc := 440) (v := (-1)) dX12_stacks_440 (by decide) ?_
    refine sx_ixor (pc := 441) dX12_stacks_441 ?_
    refine sx_iand (pc := 442) dX12_stacks_442 ?_
    obtain ⟨g25, h⟩ := sx_grd h
    obtain ⟨V26, hV26⟩ : ∃ z : sv_V, z = sv_I V 170 s1.toNatClampNeg (s2 &&& ((s3 ||| (0 : Int32)) ^^^ (-1 : Int32))) := ⟨_, rfl⟩
    have h := sx_letE hV26 h
    refine sv_iast (pc := 443) hG dX12_stacks_443 lay_170 g25 hV26 ?_
    exact sv_vret (pc := 444) dX12_stacks_444 rfl h hP
  · have h := sx_neg c24 h
    refine sx_iconst (pc := 434) (v := 2) dX12_stacks_434 (by decide) ?_
    refine sx_goto (pc := 435) (tgt := 439) dX12_stacks_435 (by decide) ?_
    refine sx_ior (pc := 439) dX12_stacks_439 ?_
    refine sx_iconst (pc := 440) (v := (-1)) dX12_stacks_440 (by decide) ?_
    refine sx_ixor (pc := 441) dX12_stacks_441 ?_
    refine sx_iand (pc := 442) dX12_stacks_442 ?_
    obtain ⟨g27, h⟩ := sx_grd h
    obtain ⟨V28, hV28⟩ : ∃ z : sv_V, z = sv_I V 170 s1.toNatClampNeg (s2 &&& ((s3 ||| (2 : Int32)) ^^^ (-1 : Int32))) := ⟨_, rfl⟩
    have h := sx_letE hV28 h
    refine sv_iast (pc := 443) hG dX12_stacks_443 lay_170 g27 hV28 ?_
    exact sv_vret (pc := 444) dX12_stacks_444 rfl h hP
def B_X12_stacks_457 (N : Nat)  (s1 : Int32) (V : sv_V) : Option sv_V := (F_X12_callFunction s1 V).bind (fun V29 => some V29)
set_option maxRecDepth 20000 in
theorem tB_X12_stacks_457 {g : sx_G} (hG : sx_Go g) {P : Option Value → sv_V → Prop} {Vr : sv_V} (hP : P none Vr) {N : Nat}   {s1 : Int32} {V : sv_V} (h : B_X12_stacks_457 N  s1 V = some Vr) : sv_N g qX12_stacks 5 457 [] [.int s1, .ref 146] V P := by
  unfold B_X12_stacks_457 at h
  obtain ⟨V29, g30, h⟩ := sx_bnd h
  refine sv_cV (pc := 457) (y := qX12_callFunction) (o := none) (as := [.int s1]) (V1 := V29) hG dX12_stacks_457 l_X12_634 y0X12_callFunction yvX12_callFunction rfl (Nat.le_of_ble_eq_true rfl) lay_146 kr_12 (by decide) (Nat.le_of_ble_eq_true rfl) rfl rfl rfl (t_X12_callFunction hG ⟨rfl, rfl⟩ g30) ?_
  exact sv_vret (pc := 460) dX12_stacks_460 rfl h hP
def B_X12_stacks_445 (N : Nat)  (l1 : Int32) (V : sv_V) : Option sv_V := if l1 = (42 : Int32) then (B_X12_stacks_457 N  (1 : Int32) V) else (B_X12_stacks_457 N  (0 : Int32) V)
set_option maxRecDepth 20000 in
theorem tB_X12_stacks_445 {g : sx_G} (hG : sx_Go g) {P : Option Value → sv_V → Prop} {Vr : sv_V} (hP : P none Vr) {N : Nat}   {l1 : Int32} {V : sv_V} (h : B_X12_stacks_445 N  l1 V = some Vr) : sv_N g qX12_stacks 5 445 [(0, .ref 146), (1, .int l1)] [] V P := by
  unfold B_X12_stacks_445 at h
  refine sx_aload_n (pc := 445) dX12_stacks_445 sx_m0 ?_
  refine sx_iload_n (pc := 446) dX12_stacks_446 sx_m1 ?_
  refine sx_bipush (pc := 447) (v := 42) dX12_stacks_447 (by decide) ?_
  refine sx_icmp_ne (pc := 449) (tgt := 456) dX12_stacks_449 (by decide) (fun c31 => ?_) (fun c31 => ?_)
  · have h := sx_neg c31 h
    refine sx_iconst (pc := 456) (v := 0) dX12_stacks_456 (by decide) ?_
    refine sx_wk sx_s0 ?_
    exact tB_X12_stacks_457 hG hP  h
  · have h := sx_pos c31 h
    refine sx_iconst (pc := 452) (v := 1) dX12_stacks_452 (by decide) ?_
    refine sx_goto (pc := 453) (tgt := 457) dX12_stacks_453 (by decide) ?_
    refine sx_wk sx_s0 ?_
    exact tB_X12_stacks_457 hG hP  h
def B_X12_stacks_531 (N : Nat)  (l2 : Int32) (s1 : Int32) (s2 : Int64) (V : sv_V) : Option sv_V := (F_X12_move s1 s2 V).bind (fun V32 => sx_let (sv_I V32 146 69 l2) (fun V34 => sx_let (sv_I V34 146 70 l2) (fun V35 => some V35)))
set_option maxRecDepth 20000 in
theorem tB_X12_stacks_531 {g : sx_G} (hG : sx_Go g) {P : Option Value → sv_V → Prop} {Vr : sv_V} (hP : P none Vr) {N : Nat}   {l2 : Int32} {s1 : Int32} {s2 : Int64} {V : sv_V} (h : B_X12_stacks_531 N  l2 s1 s2 V = some Vr) : sv_N g qX12_stacks 5 531 [(0, .ref 146), (2, .int l2)] [.long s2, .int s1, .ref 146] V P := by
  unfold B_X12_stacks_531 at h
  obtain ⟨V32, g33, h⟩ := sx_bnd h
  refine sv_cV (pc := 531) (y := qX12_move) (o := none) (as := [.int s1, .long s2]) (V1 := V32) hG dX12_stacks_531 l_X12_630 y0X12_move yvX12_move rfl (Nat.le_of_ble_eq_true rfl) lay_146 kr_12 (by decide) (Nat.le_of_ble_eq_true rfl) rfl rfl rfl (t_X12_move hG ⟨rfl, rfl⟩ g33) ?_
  refine sx_aload_n (pc := 534) dX12_stacks_534 sx_m0 ?_
  refine sx_iload_n (pc := 535) dX12_stacks_535 sx_m1 ?_
  obtain ⟨V34, hV34⟩ : ∃ z : sv_V, z = sv_I V32 146 69 l2 := ⟨_, rfl⟩
  have h := sx_letE hV34 h
  refine sv_putI (pc := 536) hG dX12_stacks_536 f_12_451 lay_146 rfl hV34 ?_
  refine sx_aload_n (pc := 539) dX12_stacks_539 sx_m0 ?_
  refine sx_iload_n (pc := 540) dX12_stacks_540 sx_m1 ?_
  obtain ⟨V35, hV35⟩ : ∃ z : sv_V, z = sv_I V34 146 70 l2 := ⟨_, rfl⟩
  have h := sx_letE hV35 h
  refine sv_putI (pc := 541) hG dX12_stacks_541 f_12_454 lay_146 rfl hV35 ?_
  exact sv_vret (pc := 544) dX12_stacks_544 rfl h hP
def B_X12_stacks_471 (N : Nat)  (l1 : Int32) (V : sv_V) : Option sv_V := (F_X12_has (1 : Int32) V).bind (fun (x38, V36) => if x38 = 0 then (some V36) else ((F_X12_pop  V36).bind (fun (x42, V40) => (F_X12_pointOf (V40.1 146 72) x42 V40).bind (fun (x45, V43) => if (V43.1 146 59) = 0 then ((F_X12_longOf x45 V43).bind (fun (x49, V47) => if l1 = (47 : Int32) then ((F_X12_rounded x49.toInt64 V47).bind (fun (x53, V51) => B_X12_stacks_531 N  x42 x45 (x53 - x49.toInt64) V51)) else (B_X12_stacks_531 N  x42 x45 (0 : Int64) V47))) else (some V43)))))
set_option maxRecDepth 20000 in
theorem tB_X12_stacks_471 {g : sx_G} (hG : sx_Go g) {P : Option Value → sv_V → Prop} {Vr : sv_V} (hP : P none Vr) {N : Nat}   {l1 : Int32} {V : sv_V} (h : B_X12_stacks_471 N  l1 V = some Vr) : sv_N g qX12_stacks 5 471 [(0, .ref 146), (1, .int l1)] [] V P := by
  unfold B_X12_stacks_471 at h
  refine sx_aload_n (pc := 471) dX12_stacks_471 sx_m0 ?_
  refine sx_iconst (pc := 472) (v := 1) dX12_stacks_472 (by decide) ?_
  obtain ⟨⟨x38, V36⟩, g37, h⟩ := sx_bnd h
  refine sv_cV (pc := 473) (y := qX12_has) (o := (some (.int x38))) (as := [.int (1 : Int32)]) (V1 := V36) hG dX12_stacks_473 l_X12_576 y0X12_has yvX12_has rfl (Nat.le_of_ble_eq_true rfl) lay_146 kr_12 (by decide) (Nat.le_of_ble_eq_true rfl) rfl rfl rfl (t_X12_has hG ⟨rfl, rfl⟩ g37) ?_
  refine sx_if_eq (pc := 476) (tgt := 544) dX12_stacks_476 (by decide) (fun c39 => ?_) (fun c39 => ?_)
  · have h := sx_pos c39 h
    exact sv_vret (pc := 544) dX12_stacks_544 rfl h hP
  · have h := sx_neg c39 h
    refine sx_aload_n (pc := 479) dX12_stacks_479 sx_m0 ?_
    obtain ⟨⟨x42, V40⟩, g41, h⟩ := sx_bnd h
    refine sv_cV (pc := 480) (y := qX12_pop) (o := (some (.int x42))) (as := []) (V1 := V40) hG dX12_stacks_480 l_X12_579 y0X12_pop yvX12_pop rfl (Nat.le_of_ble_eq_true rfl) lay_146 kr_12 (by decide) (Nat.le_of_ble_eq_true rfl) rfl rfl rfl (t_X12_pop hG ⟨rfl, rfl⟩ g41) ?_
    refine sx_istore_n (pc := 483) (lo' := [(2, .int x42), (0, .ref 146), (1, .int l1)]) dX12_stacks_483 (by decide) rfl ?_
    refine sx_aload_n (pc := 484) dX12_stacks_484 sx_m1 ?_
    refine sx_aload_n (pc := 485) dX12_stacks_485 sx_m1 ?_
    refine sv_getI (pc := 486) hG dX12_stacks_486 f_12_460 lay_146 rfl ?_
    refine sx_iload_n (pc := 489) dX12_stacks_489 sx_m0 ?_
    obtain ⟨⟨x45, V43⟩, g44, h⟩ := sx_bnd h
    refine sv_cV (pc := 490) (y := qX12_pointOf) (o := (some (.int x45))) (as := [.int (V40.1 146 72), .int x42]) (V1 := V43) hG dX12_stacks_490 l_X12_582 y0X12_pointOf yvX12_pointOf rfl (Nat.le_of_ble_eq_true rfl) lay_146 kr_12 (by decide) (Nat.le_of_ble_eq_true rfl) rfl rfl rfl (t_X12_pointOf hG ⟨rfl, rfl⟩ g44) ?_
    refine sx_istore_n (pc := 493) (lo' := [(3, .int x45), (2, .int x42), (0, .ref 146), (1, .int l1)]) dX12_stacks_493 (by decide) rfl ?_
    refine sx_aload_n (pc := 494) dX12_stacks_494 sx_m2 ?_
    refine sv_getI (pc := 495) hG dX12_stacks_495 f_12_409 lay_146 rfl ?_
    refine sx_if_ne (pc := 498) (tgt := 544) dX12_stacks_498 (by decide) (fun c46 => ?_) (fun c46 => ?_)
    · have h := sx_neg c46 h
      exact sv_vret (pc := 544) dX12_stacks_544 rfl h hP
    · have h := sx_pos c46 h
      refine sx_aload_n (pc := 501) dX12_stacks_501 sx_m2 ?_
      refine sx_iload_n (pc := 502) dX12_stacks_502 sx_m0 ?_
      obtain ⟨⟨x49, V47⟩, g48, h⟩ := sx_bnd h
      refine sv_cV (pc := 503) (y := qX12_longOf) (o := (some (.int x49))) (as := [.int x45]) (V1 := V47) hG dX12_stacks_503 l_X12_644 y0X12_longOf yvX12_longOf rfl (Nat.le_of_ble_eq_true rfl) lay_146 kr_12 (by decide) (Nat.le_of_ble_eq_true rfl) rfl rfl rfl (t_X12_longOf hG ⟨rfl, rfl⟩ g48) ?_
      refine sx_istore (pc := 506) (lo' := [(4, .int x49), (3, .int x45), (2, .int x42), (0, .ref 146), (1, .int l1)]) dX12_stacks_506 (by decide) rfl ?_
      refine sx_aload_n (pc := 508) dX12_stacks_508 sx_m3 ?_
      refine sx_iload_n (pc := 509) dX12_stacks_509 sx_m1 ?_
      refine sx_iload_n (pc := 510) dX12_stacks_510 sx_m4 ?_
      refine sx_bipush (pc := 511) (v := 47) dX12_stacks_511 (by decide) ?_
      refine sx_icmp_ne (pc := 513) (tgt := 530) dX12_stacks_513 (by decide) (fun c50 => ?_) (fun c50 => ?_)
      · have h := sx_neg c50 h
        refine sx_lconst (pc := 530) (v := 0) dX12_stacks_530 rfl ?_
        refine sx_wk (sx_s1 sx_m3 (sx_s1 sx_m2 sx_s0)) ?_
        exact tB_X12_stacks_531 hG hP  h
      · have h := sx_pos c50 h
        refine sx_aload_n (pc := 516) dX12_stacks_516 sx_m3 ?_
        refine sx_iload (pc := 517) dX12_stacks_517 sx_m0 ?_
        refine sx_i2l (pc := 519) dX12_stacks_519 ?_
        obtain ⟨⟨x53, V51⟩, g52, h⟩ := sx_bnd h
        refine sv_cV (pc := 520) (y := qX12_rounded) (o := (some (.long x53))) (as := [.long x49.toInt64]) (V1 := V51) hG dX12_stacks_520 l_X12_647 y0X12_rounded yvX12_rounded rfl (Nat.le_of_ble_eq_true rfl) lay_146 kr_12 (by decide) (Nat.le_of_ble_eq_true rfl) rfl rfl rfl (t_X12_rounded hG ⟨rfl, rfl⟩ g52) ?_
        refine sx_iload (pc := 523) dX12_stacks_523 sx_m0 ?_
        refine sx_i2l (pc := 525) dX12_stacks_525 ?_
        refine sx_lsub (pc := 526) dX12_stacks_526 ?_
        refine sx_goto (pc := 527) (tgt := 531) dX12_stacks_527 (by decide) ?_
        refine sx_wk (sx_s1 sx_m3 (sx_s1 sx_m2 sx_s0)) ?_
        exact tB_X12_stacks_531 hG hP  h
def B_X12_stacks_545 (N : Nat)  (l1 : Int32) (V : sv_V) : Option sv_V := (F_X12_unknown l1 V).bind (fun V54 => some V54)
set_option maxRecDepth 20000 in
theorem tB_X12_stacks_545 {g : sx_G} (hG : sx_Go g) {P : Option Value → sv_V → Prop} {Vr : sv_V} (hP : P none Vr) {N : Nat}   {l1 : Int32} {V : sv_V} (h : B_X12_stacks_545 N  l1 V = some Vr) : sv_N g qX12_stacks 5 545 [(0, .ref 146), (1, .int l1)] [] V P := by
  unfold B_X12_stacks_545 at h
  refine sx_aload_n (pc := 545) dX12_stacks_545 sx_m0 ?_
  refine sx_iload_n (pc := 546) dX12_stacks_546 sx_m1 ?_
  obtain ⟨V54, g55, h⟩ := sx_bnd h
  refine sv_cV (pc := 547) (y := qX12_unknown) (o := none) (as := [.int l1]) (V1 := V54) hG dX12_stacks_547 l_X12_650 y0X12_unknown yvX12_unknown rfl (Nat.le_of_ble_eq_true rfl) lay_146 kr_12 (by decide) (Nat.le_of_ble_eq_true rfl) rfl rfl rfl (t_X12_unknown hG ⟨rfl, rfl⟩ g55) ?_
  exact sv_vret (pc := 550) dX12_stacks_550 rfl h hP
def F_X12_stacks (N : Nat) (l1 : Int32) (V : sv_V) : Option sv_V := if l1 = 32 then ((F_X12_has (1 : Int32) V).bind (fun (x59, V57) => if x59 = 0 then (some V57) else (if sx_in ((V57.1 146 56) - (1 : Int32)) 256 = true then (F_X12_push ((V57.1 173 ((V57.1 146 56) - (1 : Int32)).toNatClampNeg).toInt64) V57).bind (fun V62 => some V62) else none))) else (if l1 = 33 then ((F_X12_has (1 : Int32) V).bind (fun (x67, V65) => if x67 = 0 then (sx_let (sv_I V65 146 56 ((V.1 146 56) - (0 : Int32))) (fun V69 => some V69)) else (sx_let (sv_I V65 146 56 ((V.1 146 56) - (1 : Int32))) (fun V70 => some V70)))) else (if l1 = 34 then (sx_let (sv_I V 146 56 (0 : Int32)) (fun V72 => some V72)) else (if l1 = 35 then ((F_X12_has (2 : Int32) V).bind (fun (x76, V74) => if x76 = 0 then (some V74) else (if sx_in ((V74.1 146 56) - (1 : Int32)) 256 = true then sx_let (V74.1 173 ((V74.1 146 56) - (1 : Int32)).toNatClampNeg) (fun x79 => if sx_in ((V74.1 146 56) - (2 : Int32)) 256 = true then if sx_in ((V74.1 146 56) - (1 : Int32)) 256 = true then sx_let (sv_I V74 173 ((V74.1 146 56) - (1 : Int32)).toNatClampNeg (V74.1 173 ((V74.1 146 56) - (2 : Int32)).toNatClampNeg)) (fun V82 => if sx_in ((V82.1 146 56) - (2 : Int32)) 256 = true then sx_let (sv_I V82 173 ((V82.1 146 56) - (2 : Int32)).toNatClampNeg x79) (fun V84 => some V84) else none) else none else none) else none))) else (if l1 = 36 then ((F_X12_push ((V.1 146 56).toInt64) V).bind (fun V86 => some V86)) else (if l1 = 37 then (B_X12_stacks_199 N  l1 V) else (if l1 = 38 then (B_X12_stacks_199 N  l1 V) else (if l1 = 39 then ((F_X12_has (2 : Int32) V).bind (fun (x93, V91) => if x93 = 0 then (some V91) else ((F_X12_pop  V91).bind (fun (x97, V95) => (F_X12_pointOf (V91.1 146 72) x97 V95).bind (fun (x100, V98) => (F_X12_pop  V98).bind (fun (x103, V101) => (F_X12_pointOf (V98.1 146 73) x103 V101).bind (fun (x106, V104) => if (V104.1 146 59) = 0 then ((F_X12_between x100 x106 V104).bind (fun (x110, V108) => sx_let (x110 / (2 : Int32)) (fun x111 => (F_X12_move x106 x111.toInt64 V108).bind (fun V112 => (F_X12_move x100 (-x111.toInt64) V112).bind (fun V114 => some V114))))) else (some V104)))))))) else (if l1 = 40 then (B_X12_stacks_545 N  l1 V) else (if l1 = 41 then ((F_X12_has (1 : Int32) V).bind (fun (x120, V118) => if x120 = 0 then (some V118) else ((F_X12_pop  V118).bind (fun (x124, V122) => (F_X12_pointOf (V118.1 146 72) x124 V122).bind (fun (x127, V125) => if (V125.1 146 59) = 0 then (if sx_in x127 204 = true then if (V125.1 146 63) = 0 then (B_X12_stacks_427 N  x127 (V125.1 170 x127.toNatClampNeg) (0 : Int32) V125) else (B_X12_stacks_427 N  x127 (V125.1 170 x127.toNatClampNeg) (1 : Int32) V125) else none) else (some V125)))))) else (if l1 = 42 then (B_X12_stacks_445 N  l1 V) else (if l1 = 43 then (B_X12_stacks_445 N  l1 V) else (if l1 = 44 then ((F_X12_defineFunction N  V).bind (fun V134 => some V134)) else (if l1 = 45 then ((F_X12_endFunction  V).bind (fun V137 => some V137)) else (if l1 = 46 then (B_X12_stacks_471 N  l1 V) else (if l1 = 47 then (B_X12_stacks_471 N  l1 V) else (B_X12_stacks_545 N  l1 V))))))))))))))))
set_option maxRecDepth 20000 in
theorem t_X12_stacks {g : sx_G} (hG : sx_Go g) {P : Option Value → sv_V → Prop} {Vr : sv_V} (hP : P none Vr) {N : Nat} {l1 : Int32} {V : sv_V} (h : F_X12_stacks N l1 V = some Vr) : sv_N g qX12_stacks 5 0 [(0, .ref 146), (1, .int l1)] [] V P := by
  unfold F_X12_stacks at h
  refine sx_iload_n (pc := 0) dX12_stacks_0 sx_m1 ?_
  by_cases c56 : l1 = 32
  · have h := sx_pos c56 h
    refine sx_tabI (pc := 1) (off := 79) (tgt := 80) dX12_stacks_1 (by rw [c56]; decide) (by rw [c56]; decide) (by rw [c56]; rfl) (by decide) ?_
    refine sx_aload_n (pc := 80) dX12_stacks_80 sx_m0 ?_
    refine sx_iconst (pc := 81) (v := 1) dX12_stacks_81 (by decide) ?_
    obtain ⟨⟨x59, V57⟩, g58, h⟩ := sx_bnd h
    refine sv_cV (pc := 82) (y := qX12_has) (o := (some (.int x59))) (as := [.int (1 : Int32)]) (V1 := V57) hG dX12_stacks_82 l_X12_576 y0X12_has yvX12_has rfl (Nat.le_of_ble_eq_true rfl) lay_146 kr_12 (by decide) (Nat.le_of_ble_eq_true rfl) rfl rfl rfl (t_X12_has hG ⟨rfl, rfl⟩ g58) ?_
    refine sx_if_eq (pc := 85) (tgt := 104) dX12_stacks_85 (by decide) (fun c60 => ?_) (fun c60 => ?_)
    · have h := sx_pos c60 h
      exact sv_vret (pc := 104) dX12_stacks_104 rfl h hP
    · have h := sx_neg c60 h
      refine sx_aload_n (pc := 88) dX12_stacks_88 sx_m0 ?_
      refine sx_aload_n (pc := 89) dX12_stacks_89 sx_m0 ?_
      refine sv_getA (pc := 90) hG dX12_stacks_90 f_12_91 lay_146 rfl cr_146_55 ?_
      refine sx_aload_n (pc := 93) dX12_stacks_93 sx_m0 ?_
      refine sv_getI (pc := 94) hG dX12_stacks_94 f_12_418 lay_146 rfl ?_
      refine sx_iconst (pc := 97) (v := 1) dX12_stacks_97 (by decide) ?_
      refine sx_isub (pc := 98) dX12_stacks_98 ?_
      obtain ⟨g61, h⟩ := sx_grd h
      refine sv_iald (pc := 99) hG dX12_stacks_99 lay_173 g61 ?_
      refine sx_i2l (pc := 100) dX12_stacks_100 ?_
      obtain ⟨V62, g63, h⟩ := sx_bnd h
      refine sv_cV (pc := 101) (y := qX12_push) (o := none) (as := [.long ((V57.1 173 ((V57.1 146 56) - (1 : Int32)).toNatClampNeg).toInt64)]) (V1 := V62) hG dX12_stacks_101 l_X12_564 y0X12_push yvX12_push rfl (Nat.le_of_ble_eq_true rfl) lay_146 kr_12 (by decide) (Nat.le_of_ble_eq_true rfl) rfl rfl rfl (t_X12_push hG ⟨rfl, rfl⟩ g63) ?_
      exact sv_vret (pc := 104) dX12_stacks_104 rfl h hP
  have h := sx_neg c56 h
  by_cases c64 : l1 = 33
  · have h := sx_pos c64 h
    refine sx_tabI (pc := 1) (off := 104) (tgt := 105) dX12_stacks_1 (by rw [c64]; decide) (by rw [c64]; decide) (by rw [c64]; rfl) (by decide) ?_
    refine sx_aload_n (pc := 105) dX12_stacks_105 sx_m0 ?_
    refine sx_dup (pc := 106) dX12_stacks_106 rfl ?_
    refine sv_getI (pc := 107) hG dX12_stacks_107 f_12_418 lay_146 rfl ?_
    refine sx_aload_n (pc := 110) dX12_stacks_110 sx_m0 ?_
    refine sx_iconst (pc := 111) (v := 1) dX12_stacks_111 (by decide) ?_
    obtain ⟨⟨x67, V65⟩, g66, h⟩ := sx_bnd h
    refine sv_cV (pc := 112) (y := qX12_has) (o := (some (.int x67))) (as := [.int (1 : Int32)]) (V1 := V65) hG dX12_stacks_112 l_X12_576 y0X12_has yvX12_has rfl (Nat.le_of_ble_eq_true rfl) lay_146 kr_12 (by decide) (Nat.le_of_ble_eq_true rfl) rfl rfl rfl (t_X12_has hG ⟨rfl, rfl⟩ g66) ?_
    refine sx_if_eq (pc := 115) (tgt := 122) dX12_stacks_115 (by decide) (fun c68 => ?_) (fun c68 => ?_)
    · have h := sx_pos c68 h
      refine sx_iconst (pc := 122) (v := 0) dX12_stacks_122 (by decide) ?_
      refine sx_isub (pc := 123) dX12_stacks_123 ?_
      obtain ⟨V69, hV69⟩ : ∃ z : sv_V, z = sv_I V65 146 56 ((V.1 146 56) - (0 : Int32)) := ⟨_, rfl⟩
      have h := sx_letE hV69 h
      refine sv_putI (pc := 124) hG dX12_stacks_124 f_12_418 lay_146 rfl hV69 ?_
      exact sv_vret (pc := 127) dX12_stacks_127 rfl h hP
    · have h := sx_neg c68 h
      refine sx_iconst (pc := 118) (v := 1) dX12_stacks_118 (by decide) ?_
      refine sx_goto (pc := 119) (tgt := 123) dX12_stacks_119 (by decide) ?_
      refine sx_isub (pc := 123) dX12_stacks_123 ?_
      obtain ⟨V70, hV70⟩ : ∃ z : sv_V, z = sv_I V65 146 56 ((V.1 146 56) - (1 : Int32)) := ⟨_, rfl⟩
      have h := sx_letE hV70 h
      refine sv_putI (pc := 124) hG dX12_stacks_124 f_12_418 lay_146 rfl hV70 ?_
      exact sv_vret (pc := 127) dX12_stacks_127 rfl h hP
  have h := sx_neg c64 h
  by_cases c71 : l1 = 34
  · have h := sx_pos c71 h
    refine sx_tabI (pc := 1) (off := 127) (tgt := 128) dX12_stacks_1 (by rw [c71]; decide) (by rw [c71]; decide) (by rw [c71]; rfl) (by decide) ?_
    refine sx_aload_n (pc := 128) dX12_stacks_128 sx_m0 ?_
    refine sx_iconst (pc := 129) (v := 0) dX12_stacks_129 (by decide) ?_
    obtain ⟨V72, hV72⟩ : ∃ z : sv_V, z = sv_I V 146 56 (0 : Int32) := ⟨_, rfl⟩
    have h := sx_letE hV72 h
    refine sv_putI (pc := 130) hG dX12_stacks_130 f_12_418 lay_146 rfl hV72 ?_
    exact sv_vret (pc := 133) dX12_stacks_133 rfl h hP
  have h := sx_neg c71 h
  by_cases c73 : l1 = 35
  · have h := sx_pos c73 h
    refine sx_tabI (pc := 1) (off := 133) (tgt := 134) dX12_stacks_1 (by rw [c73]; decide) (by rw [c73]; decide) (by rw [c73]; rfl) (by decide) ?_
    refine sx_aload_n (pc := 134) dX12_stacks_134 sx_m0 ?_
    refine sx_iconst (pc := 135) (v := 2) dX12_stacks_135 (by decide) ?_
    obtain ⟨⟨x76, V74⟩, g75, h⟩ := sx_bnd h
    refine sv_cV (pc := 136) (y := qX12_has) (o := (some (.int x76))) (as := [.int (2 : Int32)]) (V1 := V74) hG dX12_stacks_136 l_X12_576 y0X12_has yvX12_has rfl (Nat.le_of_ble_eq_true rfl) lay_146 kr_12 (by decide) (Nat.le_of_ble_eq_true rfl) rfl rfl rfl (t_X12_has hG ⟨rfl, rfl⟩ g75) ?_
    refine sx_if_eq (pc := 139) (tgt := 188) dX12_stacks_139 (by decide) (fun c77 => ?_) (fun c77 => ?_)
    · have h := sx_pos c77 h
      exact sv_vret (pc := 188) dX12_stacks_188 rfl h hP
    · have h := sx_neg c77 h
      refine sx_aload_n (pc := 142) dX12_stacks_142 sx_m0 ?_
      refine sv_getA (pc := 143) hG dX12_stacks_143 f_12_91 lay_146 rfl cr_146_55 ?_
      refine sx_aload_n (pc := 146) dX12_stacks_146 sx_m0 ?_
      refine sv_getI (pc := 147) hG dX12_stacks_147 f_12_418 lay_146 rfl ?_
      refine sx_iconst (pc := 150) (v := 1) dX12_stacks_150 (by decide) ?_
      refine sx_isub (pc := 151) dX12_stacks_151 ?_
      obtain ⟨g78, h⟩ := sx_grd h
      refine sv_iald (pc := 152) hG dX12_stacks_152 lay_173 g78 ?_
      refine sv_tI (fun x79 hx79 => ?_)
      have h := sx_letE hx79 h
      refine sx_istore_n (pc := 153) (lo' := [(2, .int x79), (0, .ref 146), (1, .int l1)]) dX12_stacks_153 (by decide) rfl ?_
      refine sx_aload_n (pc := 154) dX12_stacks_154 sx_m1 ?_
      refine sv_getA (pc := 155) hG dX12_stacks_155 f_12_91 lay_146 rfl cr_146_55 ?_
      refine sx_aload_n (pc := 158) dX12_stacks_158 sx_m1 ?_
      refine sv_getI (pc := 159) hG dX12_stacks_159 f_12_418 lay_146 rfl ?_
      refine sx_iconst (pc := 162) (v := 1) dX12_stacks_162 (by decide) ?_
      refine sx_isub (pc := 163) dX12_stacks_163 ?_
      refine sx_aload_n (pc := 164) dX12_stacks_164 sx_m1 ?_
      refine sv_getA (pc := 165) hG dX12_stacks_165 f_12_91 lay_146 rfl cr_146_55 ?_
      refine sx_aload_n (pc := 168) dX12_stacks_168 sx_m1 ?_
      refine sv_getI (pc := 169) hG dX12_stacks_169 f_12_418 lay_146 rfl ?_
      refine sx_iconst (pc := 172) (v := 2) dX12_stacks_172 (by decide) ?_
      refine sx_isub (pc := 173) dX12_stacks_173 ?_
      obtain ⟨g80, h⟩ := sx_grd h
      refine sv_iald (pc := 174) hG dX12_stacks_174 lay_173 g80 ?_
      obtain ⟨g81, h⟩ := sx_grd h
      obtain ⟨V82, hV82⟩ : ∃ z : sv_V, z = sv_I V74 173 ((V74.1 146 56) - (1 : Int32)).toNatClampNeg (V74.1 173 ((V74.1 146 56) - (2 : Int32)).toNatClampNeg) := ⟨_, rfl⟩
      have h := sx_letE hV82 h
      refine sv_iast (pc := 175) hG dX12_stacks_175 lay_173 g81 hV82 ?_
      refine sx_aload_n (pc := 176) dX12_stacks_176 sx_m1 ?_
      refine sv_getA (pc := 177) hG dX12_stacks_177 f_12_91 lay_146 rfl cr_146_55 ?_
      refine sx_aload_n (pc := 180) dX12_stacks_180 sx_m1 ?_
      refine sv_getI (pc := 181) hG dX12_stacks_181 f_12_418 lay_146 rfl ?_
      refine sx_iconst (pc := 184) (v := 2) dX12_stacks_184 (by decide) ?_
      refine sx_isub (pc := 185) dX12_stacks_185 ?_
      refine sx_iload_n (pc := 186) dX12_stacks_186 sx_m0 ?_
      obtain ⟨g83, h⟩ := sx_grd h
      obtain ⟨V84, hV84⟩ : ∃ z : sv_V, z = sv_I V82 173 ((V82.1 146 56) - (2 : Int32)).toNatClampNeg x79 := ⟨_, rfl⟩
      have h := sx_letE hV84 h
      refine sv_iast (pc := 187) hG dX12_stacks_187 lay_173 g83 hV84 ?_
      exact sv_vret (pc := 188) dX12_stacks_188 rfl h hP
  have h := sx_neg c73 h
  by_cases c85 : l1 = 36
  · have h := sx_pos c85 h
    refine sx_tabI (pc := 1) (off := 188) (tgt := 189) dX12_stacks_1 (by rw [c85]; decide) (by rw [c85]; decide) (by rw [c85]; rfl) (by decide) ?_
    refine sx_aload_n (pc := 189) dX12_stacks_189 sx_m0 ?_
    refine sx_aload_n (pc := 190) dX12_stacks_190 sx_m0 ?_
    refine sv_getI (pc := 191) hG dX12_stacks_191 f_12_418 lay_146 rfl ?_
    refine sx_i2l (pc := 194) dX12_stacks_194 ?_
    obtain ⟨V86, g87, h⟩ := sx_bnd h
    refine sv_cV (pc := 195) (y := qX12_push) (o := none) (as := [.long ((V.1 146 56).toInt64)]) (V1 := V86) hG dX12_stacks_195 l_X12_564 y0X12_push yvX12_push rfl (Nat.le_of_ble_eq_true rfl) lay_146 kr_12 (by decide) (Nat.le_of_ble_eq_true rfl) rfl rfl rfl (t_X12_push hG ⟨rfl, rfl⟩ g87) ?_
    exact sv_vret (pc := 198) dX12_stacks_198 rfl h hP
  have h := sx_neg c85 h
  by_cases c88 : l1 = 37
  · have h := sx_pos c88 h
    refine sx_tabI (pc := 1) (off := 198) (tgt := 199) dX12_stacks_1 (by rw [c88]; decide) (by rw [c88]; decide) (by rw [c88]; rfl) (by decide) ?_
    refine sx_wk (sx_s1 sx_m0 (sx_s1 sx_m1 sx_s0)) ?_
    exact tB_X12_stacks_199 hG hP  h
  have h := sx_neg c88 h
  by_cases c89 : l1 = 38
  · have h := sx_pos c89 h
    refine sx_tabI (pc := 1) (off := 198) (tgt := 199) dX12_stacks_1 (by rw [c89]; decide) (by rw [c89]; decide) (by rw [c89]; rfl) (by decide) ?_
    refine sx_wk (sx_s1 sx_m0 (sx_s1 sx_m1 sx_s0)) ?_
    exact tB_X12_stacks_199 hG hP  h
  have h := sx_neg c89 h
  by_cases c90 : l1 = 39
  · have h := sx_pos c90 h
    refine sx_tabI (pc := 1) (off := 306) (tgt := 307) dX12_stacks_1 (by rw [c90]; decide) (by rw [c90]; decide) (by rw [c90]; rfl) (by decide) ?_
    refine sx_aload_n (pc := 307) dX12_stacks_307 sx_m0 ?_
    refine sx_iconst (pc := 308) (v := 2) dX12_stacks_308 (by decide) ?_
    obtain ⟨⟨x93, V91⟩, g92, h⟩ := sx_bnd h
    refine sv_cV (pc := 309) (y := qX12_has) (o := (some (.int x93))) (as := [.int (2 : Int32)]) (V1 := V91) hG dX12_stacks_309 l_X12_576 y0X12_has yvX12_has rfl (Nat.le_of_ble_eq_true rfl) lay_146 kr_12 (by decide) (Nat.le_of_ble_eq_true rfl) rfl rfl rfl (t_X12_has hG ⟨rfl, rfl⟩ g92) ?_
    refine sx_if_eq (pc := 312) (tgt := 375) dX12_stacks_312 (by decide) (fun c94 => ?_) (fun c94 => ?_)
    · have h := sx_pos c94 h
      exact sv_vret (pc := 375) dX12_stacks_375 rfl h hP
    · have h := sx_neg c94 h
      refine sx_aload_n (pc := 315) dX12_stacks_315 sx_m0 ?_
      refine sx_aload_n (pc := 316) dX12_stacks_316 sx_m0 ?_
      refine sv_getI (pc := 317) hG dX12_stacks_317 f_12_460 lay_146 rfl ?_
      refine sx_aload_n (pc := 320) dX12_stacks_320 sx_m0 ?_
      obtain ⟨⟨x97, V95⟩, g96, h⟩ := sx_bnd h
      refine sv_cV (pc := 321) (y := qX12_pop) (o := (some (.int x97))) (as := []) (V1 := V95) hG dX12_stacks_321 l_X12_579 y0X12_pop yvX12_pop rfl (Nat.le_of_ble_eq_true rfl) lay_146 kr_12 (by decide) (Nat.le_of_ble_eq_true rfl) rfl rfl rfl (t_X12_pop hG ⟨rfl, rfl⟩ g96) ?_
      obtain ⟨⟨x100, V98⟩, g99, h⟩ := sx_bnd h
      refine sv_cV (pc := 324) (y := qX12_pointOf) (o := (some (.int x100))) (as := [.int (V91.1 146 72), .int x97]) (V1 := V98) hG dX12_stacks_324 l_X12_582 y0X12_pointOf yvX12_pointOf rfl (Nat.le_of_ble_eq_true rfl) lay_146 kr_12 (by decide) (Nat.le_of_ble_eq_true rfl) rfl rfl rfl (t_X12_pointOf hG ⟨rfl, rfl⟩ g99) ?_
      refine sx_istore_n (pc := 327) (lo' := [(2, .int x100), (0, .ref 146), (1, .int l1)]) dX12_stacks_327 (by decide) rfl ?_
      refine sx_aload_n (pc := 328) dX12_stacks_328 sx_m1 ?_
      refine sx_aload_n (pc := 329) dX12_stacks_329 sx_m1 ?_
      refine sv_getI (pc := 330) hG dX12_stacks_330 f_12_463 lay_146 rfl ?_
      refine sx_aload_n (pc := 333) dX12_stacks_333 sx_m1 ?_
      obtain ⟨⟨x103, V101⟩, g102, h⟩ := sx_bnd h
      refine sv_cV (pc := 334) (y := qX12_pop) (o := (some (.int x103))) (as := []) (V1 := V101) hG dX12_stacks_334 l_X12_579 y0X12_pop yvX12_pop rfl (Nat.le_of_ble_eq_true rfl) lay_146 kr_12 (by decide) (Nat.le_of_ble_eq_true rfl) rfl rfl rfl (t_X12_pop hG ⟨rfl, rfl⟩ g102) ?_
      obtain ⟨⟨x106, V104⟩, g105, h⟩ := sx_bnd h
      refine sv_cV (pc := 337) (y := qX12_pointOf) (o := (some (.int x106))) (as := [.int (V98.1 146 73), .int x103]) (V1 := V104) hG dX12_stacks_337 l_X12_582 y0X12_pointOf yvX12_pointOf rfl (Nat.le_of_ble_eq_true rfl) lay_146 kr_12 (by decide) (Nat.le_of_ble_eq_true rfl) rfl rfl rfl (t_X12_pointOf hG ⟨rfl, rfl⟩ g105) ?_
      refine sx_istore_n (pc := 340) (lo' := [(3, .int x106), (2, .int x100), (0, .ref 146), (1, .int l1)]) dX12_stacks_340 (by decide) rfl ?_
      refine sx_aload_n (pc := 341) dX12_stacks_341 sx_m2 ?_
      refine sv_getI (pc := 342) hG dX12_stacks_342 f_12_409 lay_146 rfl ?_
      refine sx_if_ne (pc := 345) (tgt := 375) dX12_stacks_345 (by decide) (fun c107 => ?_) (fun c107 => ?_)
      · have h := sx_neg c107 h
        exact sv_vret (pc := 375) dX12_stacks_375 rfl h hP
      · have h := sx_pos c107 h
        refine sx_aload_n (pc := 348) dX12_stacks_348 sx_m2 ?_
        refine sx_iload_n (pc := 349) dX12_stacks_349 sx_m1 ?_
        refine sx_iload_n (pc := 350) dX12_stacks_350 sx_m0 ?_
        obtain ⟨⟨x110, V108⟩, g109, h⟩ := sx_bnd h
        refine sv_cV (pc := 351) (y := qX12_between) (o := (some (.int x110))) (as := [.int x100, .int x106]) (V1 := V108) hG dX12_stacks_351 l_X12_627 y0X12_between yvX12_between rfl (Nat.le_of_ble_eq_true rfl) lay_146 kr_12 (by decide) (Nat.le_of_ble_eq_true rfl) rfl rfl rfl (t_X12_between hG ⟨rfl, rfl⟩ g109) ?_
        refine sx_iconst (pc := 354) (v := 2) dX12_stacks_354 (by decide) ?_
        refine sx_idiv (pc := 355) dX12_stacks_355 (by decide) ?_
        refine sv_tI (fun x111 hx111 => ?_)
        have h := sx_letE hx111 h
        refine sx_istore (pc := 356) (lo' := [(4, .int x111), (3, .int x106), (2, .int x100), (0, .ref 146), (1, .int l1)]) dX12_stacks_356 (by decide) rfl ?_
        refine sx_aload_n (pc := 358) dX12_stacks_358 sx_m3 ?_
        refine sx_iload_n (pc := 359) dX12_stacks_359 sx_m1 ?_
        refine sx_iload (pc := 360) dX12_stacks_360 sx_m0 ?_
        refine sx_i2l (pc := 362) dX12_stacks_362 ?_
        obtain ⟨V112, g113, h⟩ := sx_bnd h
        refine sv_cV (pc := 363) (y := qX12_move) (o := none) (as := [.int x106, .long x111.toInt64]) (V1 := V112) hG dX12_stacks_363 l_X12_630 y0X12_move yvX12_move rfl (Nat.le_of_ble_eq_true rfl) lay_146 kr_12 (by decide) (Nat.le_of_ble_eq_true rfl) rfl rfl rfl (t_X12_move hG ⟨rfl, rfl⟩ g113) ?_
        refine sx_aload_n (pc := 366) dX12_stacks_366 sx_m3 ?_
        refine sx_iload_n (pc := 367) dX12_stacks_367 sx_m2 ?_
        refine sx_iload (pc := 368) dX12_stacks_368 sx_m0 ?_
        refine sx_i2l (pc := 370) dX12_stacks_370 ?_
        refine sx_lneg (pc := 371) dX12_stacks_371 ?_
        obtain ⟨V114, g115, h⟩ := sx_bnd h
        refine sv_cV (pc := 372) (y := qX12_move) (o := none) (as := [.int x100, .long (-x111.toInt64)]) (V1 := V114) hG dX12_stacks_372 l_X12_630 y0X12_move yvX12_move rfl (Nat.le_of_ble_eq_true rfl) lay_146 kr_12 (by decide) (Nat.le_of_ble_eq_true rfl) rfl rfl rfl (t_X12_move hG ⟨rfl, rfl⟩ g115) ?_
        exact sv_vret (pc := 375) dX12_stacks_375 rfl h hP
  have h := sx_neg c90 h
  by_cases c116 : l1 = 40
  · have h := sx_pos c116 h
    refine sx_tabI (pc := 1) (off := 544) (tgt := 545) dX12_stacks_1 (by rw [c116]; decide) (by rw [c116]; decide) (by rw [c116]; rfl) (by decide) ?_
    refine sx_wk (sx_s1 sx_m0 (sx_s1 sx_m1 sx_s0)) ?_
    exact tB_X12_stacks_545 hG hP  h
  have h := sx_neg c116 h
  by_cases c117 : l1 = 41
  · have h := sx_pos c117 h
    refine sx_tabI (pc := 1) (off := 375) (tgt := 376) dX12_stacks_1 (by rw [c117]; decide) (by rw [c117]; decide) (by rw [c117]; rfl) (by decide) ?_
    refine sx_aload_n (pc := 376) dX12_stacks_376 sx_m0 ?_
    refine sx_iconst (pc := 377) (v := 1) dX12_stacks_377 (by decide) ?_
    obtain ⟨⟨x120, V118⟩, g119, h⟩ := sx_bnd h
    refine sv_cV (pc := 378) (y := qX12_has) (o := (some (.int x120))) (as := [.int (1 : Int32)]) (V1 := V118) hG dX12_stacks_378 l_X12_576 y0X12_has yvX12_has rfl (Nat.le_of_ble_eq_true rfl) lay_146 kr_12 (by decide) (Nat.le_of_ble_eq_true rfl) rfl rfl rfl (t_X12_has hG ⟨rfl, rfl⟩ g119) ?_
    refine sx_if_eq (pc := 381) (tgt := 444) dX12_stacks_381 (by decide) (fun c121 => ?_) (fun c121 => ?_)
    · have h := sx_pos c121 h
      exact sv_vret (pc := 444) dX12_stacks_444 rfl h hP
    · have h := sx_neg c121 h
      refine sx_aload_n (pc := 384) dX12_stacks_384 sx_m0 ?_
      refine sx_aload_n (pc := 385) dX12_stacks_385 sx_m0 ?_
      refine sv_getI (pc := 386) hG dX12_stacks_386 f_12_460 lay_146 rfl ?_
      refine sx_aload_n (pc := 389) dX12_stacks_389 sx_m0 ?_
      obtain ⟨⟨x124, V122⟩, g123, h⟩ := sx_bnd h
      refine sv_cV (pc := 390) (y := qX12_pop) (o := (some (.int x124))) (as := []) (V1 := V122) hG dX12_stacks_390 l_X12_579 y0X12_pop yvX12_pop rfl (Nat.le_of_ble_eq_true rfl) lay_146 kr_12 (by decide) (Nat.le_of_ble_eq_true rfl) rfl rfl rfl (t_X12_pop hG ⟨rfl, rfl⟩ g123) ?_
      obtain ⟨⟨x127, V125⟩, g126, h⟩ := sx_bnd h
      refine sv_cV (pc := 393) (y := qX12_pointOf) (o := (some (.int x127))) (as := [.int (V118.1 146 72), .int x124]) (V1 := V125) hG dX12_stacks_393 l_X12_582 y0X12_pointOf yvX12_pointOf rfl (Nat.le_of_ble_eq_true rfl) lay_146 kr_12 (by decide) (Nat.le_of_ble_eq_true rfl) rfl rfl rfl (t_X12_pointOf hG ⟨rfl, rfl⟩ g126) ?_
      refine sx_istore_n (pc := 396) (lo' := [(2, .int x127), (0, .ref 146), (1, .int l1)]) dX12_stacks_396 (by decide) rfl ?_
      refine sx_aload_n (pc := 397) dX12_stacks_397 sx_m1 ?_
      refine sv_getI (pc := 398) hG dX12_stacks_398 f_12_409 lay_146 rfl ?_
      refine sx_if_ne (pc := 401) (tgt := 444) dX12_stacks_401 (by decide) (fun c128 => ?_) (fun c128 => ?_)
      · have h := sx_neg c128 h
        exact sv_vret (pc := 444) dX12_stacks_444 rfl h hP
      · have h := sx_pos c128 h
        refine sx_aload_n (pc := 404) dX12_stacks_404 sx_m1 ?_
        refine sv_getA (pc := 405) hG dX12_stacks_405 f_12_82 lay_146 rfl cr_146_50 ?_
        refine sx_iload_n (pc := 408) dX12_stacks_408 sx_m0 ?_
        refine sx_aload_n (pc := 409) dX12_stacks_409 sx_m1 ?_
        refine sv_getA (pc := 410) hG dX12_stacks_410 f_12_82 lay_146 rfl cr_146_50 ?_
        refine sx_iload_n (pc := 413) dX12_stacks_413 sx_m0 ?_
        obtain ⟨g129, h⟩ := sx_grd h
        refine sv_iald (pc := 414) hG dX12_stacks_414 lay_170 g129 ?_
        refine sx_aload_n (pc := 415) dX12_stacks_415 sx_m1 ?_
        refine sv_getI (pc := 416) hG dX12_stacks_416 f_12_433 lay_146 rfl ?_
        refine sx_if_eq (pc := 419) (tgt := 426) dX12_stacks_419 (by decide) (fun c130 => ?_) (fun c130 => ?_)
        · have h := sx_pos c130 h
          refine sx_iconst (pc := 426) (v := 0) dX12_stacks_426 (by decide) ?_
          refine sx_wk (sx_s1 sx_m1 sx_s0) ?_
          exact tB_X12_stacks_427 hG hP  h
        · have h := sx_neg c130 h
          refine sx_iconst (pc := 422) (v := 1) dX12_stacks_422 (by decide) ?_
          refine sx_goto (pc := 423) (tgt := 427) dX12_stacks_423 (by decide) ?_
          refine sx_wk (sx_s1 sx_m1 sx_s0) ?_
          exact tB_X12_stacks_427 hG hP  h
  have h := sx_neg c117 h
  by_cases c131 : l1 = 42
  · have h := sx_pos c131 h
    refine sx_tabI (pc := 1) (off := 444) (tgt := 445) dX12_stacks_1 (by rw [c131]; decide) (by rw [c131]; decide) (by rw [c131]; rfl) (by decide) ?_
    refine sx_wk (sx_s1 sx_m0 (sx_s1 sx_m1 sx_s0)) ?_
    exact tB_X12_stacks_445 hG hP  h
  have h := sx_neg c131 h
  by_cases c132 : l1 = 43
  · have h := sx_pos c132 h
    refine sx_tabI (pc := 1) (off := 444) (tgt := 445) dX12_stacks_1 (by rw [c132]; decide) (by rw [c132]; decide) (by rw [c132]; rfl) (by decide) ?_
    refine sx_wk (sx_s1 sx_m0 (sx_s1 sx_m1 sx_s0)) ?_
    exact tB_X12_stacks_445 hG hP  h
  have h := sx_neg c132 h
  by_cases c133 : l1 = 44
  · have h := sx_pos c133 h
    refine sx_tabI (pc := 1) (off := 460) (tgt := 461) dX12_stacks_1 (by rw [c133]; decide) (by rw [c133]; decide) (by rw [c133]; rfl) (by decide) ?_
    refine sx_aload_n (pc := 461) dX12_stacks_461 sx_m0 ?_
    obtain ⟨V134, g135, h⟩ := sx_bnd h
    refine sv_cV (pc := 462) (y := qX12_defineFunction) (o := none) (as := []) (V1 := V134) hG dX12_stacks_462 l_X12_638 y0X12_defineFunction yvX12_defineFunction rfl (Nat.le_of_ble_eq_true rfl) lay_146 kr_12 (by decide) (Nat.le_of_ble_eq_true rfl) rfl rfl rfl (t_X12_defineFunction hG ⟨rfl, rfl⟩ g135) ?_
    exact sv_vret (pc := 465) dX12_stacks_465 rfl h hP
  have h := sx_neg c133 h
  by_cases c136 : l1 = 45
  · have h := sx_pos c136 h
    refine sx_tabI (pc := 1) (off := 465) (tgt := 466) dX12_stacks_1 (by rw [c136]; decide) (by rw [c136]; decide) (by rw [c136]; rfl) (by decide) ?_
    refine sx_aload_n (pc := 466) dX12_stacks_466 sx_m0 ?_
    obtain ⟨V137, g138, h⟩ := sx_bnd h
    refine sv_cV (pc := 467) (y := qX12_endFunction) (o := none) (as := []) (V1 := V137) hG dX12_stacks_467 l_X12_641 y0X12_endFunction yvX12_endFunction rfl (Nat.le_of_ble_eq_true rfl) lay_146 kr_12 (by decide) (Nat.le_of_ble_eq_true rfl) rfl rfl rfl (t_X12_endFunction hG ⟨rfl, rfl⟩ g138) ?_
    exact sv_vret (pc := 470) dX12_stacks_470 rfl h hP
  have h := sx_neg c136 h
  by_cases c139 : l1 = 46
  · have h := sx_pos c139 h
    refine sx_tabI (pc := 1) (off := 470) (tgt := 471) dX12_stacks_1 (by rw [c139]; decide) (by rw [c139]; decide) (by rw [c139]; rfl) (by decide) ?_
    refine sx_wk (sx_s1 sx_m0 (sx_s1 sx_m1 sx_s0)) ?_
    exact tB_X12_stacks_471 hG hP  h
  have h := sx_neg c139 h
  by_cases c140 : l1 = 47
  · have h := sx_pos c140 h
    refine sx_tabI (pc := 1) (off := 470) (tgt := 471) dX12_stacks_1 (by rw [c140]; decide) (by rw [c140]; decide) (by rw [c140]; rfl) (by decide) ?_
    refine sx_wk (sx_s1 sx_m0 (sx_s1 sx_m1 sx_s0)) ?_
    exact tB_X12_stacks_471 hG hP  h
  have h := sx_neg c140 h
  refine sx_tabO (pc := 1) (tgt := 545) dX12_stacks_1 (by have ec56 := lv_neT (a := 32) c56 rfl; have ec64 := lv_neT (a := 33) c64 rfl; have ec71 := lv_neT (a := 34) c71 rfl; have ec73 := lv_neT (a := 35) c73 rfl; have ec85 := lv_neT (a := 36) c85 rfl; have ec88 := lv_neT (a := 37) c88 rfl; have ec89 := lv_neT (a := 38) c89 rfl; have ec90 := lv_neT (a := 39) c90 rfl; have ec116 := lv_neT (a := 40) c116 rfl; have ec117 := lv_neT (a := 41) c117 rfl; have ec131 := lv_neT (a := 42) c131 rfl; have ec132 := lv_neT (a := 43) c132 rfl; have ec133 := lv_neT (a := 44) c133 rfl; have ec136 := lv_neT (a := 45) c136 rfl; have ec139 := lv_neT (a := 46) c139 rfl; have ec140 := lv_neT (a := 47) c140 rfl; omega) (by decide) ?_
  refine sx_wk (sx_s1 sx_m0 (sx_s1 sx_m1 sx_s0)) ?_
  exact tB_X12_stacks_545 hG hP  h
theorem dX12_setCvt_0 : decode cX12_setCvt 0 = .ok (.aload_n 0, 1) := by decide +kernel
theorem dX12_setCvt_1 : decode cX12_setCvt 1 = .ok (.iconst 2, 1) := by decide +kernel
theorem dX12_setCvt_2 : decode cX12_setCvt 2 = .ok (.invokevirtual 576, 3) := by decide +kernel
theorem dX12_setCvt_5 : decode cX12_setCvt 5 = .ok (.ifCond .ne 4, 3) := by decide +kernel
theorem dX12_setCvt_8 : decode cX12_setCvt 8 = .ok (.return_, 1) := by decide +kernel
theorem dX12_setCvt_9 : decode cX12_setCvt 9 = .ok (.aload_n 0, 1) := by decide +kernel
theorem dX12_setCvt_10 : decode cX12_setCvt 10 = .ok (.invokevirtual 579, 3) := by decide +kernel
theorem dX12_setCvt_13 : decode cX12_setCvt 13 = .ok (.istore_n 2, 1) := by decide +kernel
theorem dX12_setCvt_14 : decode cX12_setCvt 14 = .ok (.aload_n 0, 1) := by decide +kernel
theorem dX12_setCvt_15 : decode cX12_setCvt 15 = .ok (.invokevirtual 579, 3) := by decide +kernel
theorem dX12_setCvt_18 : decode cX12_setCvt 18 = .ok (.istore_n 3, 1) := by decide +kernel
theorem dX12_setCvt_19 : decode cX12_setCvt 19 = .ok (.aload_n 0, 1) := by decide +kernel
theorem dX12_setCvt_20 : decode cX12_setCvt 20 = .ok (.iload_n 3, 1) := by decide +kernel
theorem dX12_setCvt_21 : decode cX12_setCvt 21 = .ok (.invokevirtual 677, 3) := by decide +kernel
theorem dX12_setCvt_24 : decode cX12_setCvt 24 = .ok (.istore 4, 2) := by decide +kernel
theorem dX12_setCvt_26 : decode cX12_setCvt 26 = .ok (.aload_n 0, 1) := by decide +kernel
theorem dX12_setCvt_27 : decode cX12_setCvt 27 = .ok (.getfield 409, 3) := by decide +kernel
theorem dX12_setCvt_30 : decode cX12_setCvt 30 = .ok (.ifCond .ne 23, 3) := by decide +kernel
theorem dX12_setCvt_33 : decode cX12_setCvt 33 = .ok (.aload_n 0, 1) := by decide +kernel
theorem dX12_setCvt_34 : decode cX12_setCvt 34 = .ok (.getfield 64, 3) := by decide +kernel
theorem dX12_setCvt_37 : decode cX12_setCvt 37 = .ok (.iload_n 3, 1) := by decide +kernel
theorem dX12_setCvt_38 : decode cX12_setCvt 38 = .ok (.iload_n 1, 1) := by decide +kernel
theorem dX12_setCvt_39 : decode cX12_setCvt 39 = .ok (.ifCond .eq 12, 3) := by decide +kernel
theorem dX12_setCvt_42 : decode cX12_setCvt 42 = .ok (.aload_n 0, 1) := by decide +kernel
theorem dX12_setCvt_43 : decode cX12_setCvt 43 = .ok (.iload_n 2, 1) := by decide +kernel
theorem dX12_setCvt_44 : decode cX12_setCvt 44 = .ok (.i2l, 1) := by decide +kernel
theorem dX12_setCvt_45 : decode cX12_setCvt 45 = .ok (.invokevirtual 611, 3) := by decide +kernel
theorem dX12_setCvt_48 : decode cX12_setCvt 48 = .ok (.goto 4, 3) := by decide +kernel
theorem dX12_setCvt_51 : decode cX12_setCvt 51 = .ok (.iload_n 2, 1) := by decide +kernel
theorem dX12_setCvt_52 : decode cX12_setCvt 52 = .ok (.iastore, 1) := by decide +kernel
theorem dX12_setCvt_53 : decode cX12_setCvt 53 = .ok (.return_, 1) := by decide +kernel
def F_X12_setCvt (l1 : Int32) (V : sv_V) : Option sv_V := (F_X12_has (2 : Int32) V).bind (fun (x3, V1) => if x3 = 0 then (some V1) else ((F_X12_pop  V1).bind (fun (x7, V5) => (F_X12_pop  V5).bind (fun (x10, V8) => (F_X12_cvtOf x10 V8).bind (fun (x13, V11) => if (V11.1 146 59) = 0 then (if l1 = 0 then (if sx_in x10 256 = true then sx_let (sv_I V11 164 x10.toNatClampNeg x7) (fun V17 => some V17) else none) else ((F_X12_scaled x7.toInt64 V11).bind (fun (x20, V18) => if sx_in x10 256 = true then sx_let (sv_I V18 164 x10.toNatClampNeg x20) (fun V22 => some V22) else none))) else (some V11))))))
set_option maxRecDepth 20000 in
theorem t_X12_setCvt {g : sx_G} (hG : sx_Go g) {P : Option Value → sv_V → Prop} {Vr : sv_V} (hP : P none Vr) {l1 : Int32} {V : sv_V} (h : F_X12_setCvt l1 V = some Vr) : sv_N g qX12_setCvt 4 0 [(0, .ref 146), (1, .int l1)] [] V P := by
  unfold F_X12_setCvt at h
  refine sx_aload_n (pc := 0) dX12_setCvt_0 sx_m0 ?_
  refine sx_iconst (pc := 1) (v := 2) dX12_setCvt_1 (by decide) ?_
  obtain ⟨⟨x3, V1⟩, g2, h⟩ := sx_bnd h
  refine sv_cV (pc := 2) (y := qX12_has) (o := (some (.int x3))) (as := [.int (2 : Int32)]) (V1 := V1) hG dX12_setCvt_2 l_X12_576 y0X12_has yvX12_has rfl (Nat.le_of_ble_eq_true rfl) lay_146 kr_12 (by decide) (Nat.le_of_ble_eq_true rfl) rfl rfl rfl (t_X12_has hG ⟨rfl, rfl⟩ g2) ?_
  refine sx_if_ne (pc := 5) (tgt := 9) dX12_setCvt_5 (by decide) (fun c4 => ?_) (fun c4 => ?_)
  · have h := sx_neg c4 h
    refine sx_aload_n (pc := 9) dX12_setCvt_9 sx_m0 ?_
    obtain ⟨⟨x7, V5⟩, g6, h⟩ := sx_bnd h
    refine sv_cV (pc := 10) (y := qX12_pop) (o := (some (.int x7))) (as := []) (V1 := V5) hG dX12_setCvt_10 l_X12_579 y0X12_pop yvX12_pop rfl (Nat.le_of_ble_eq_true rfl) lay_146 kr_12 (by decide) (Nat.le_of_ble_eq_true rfl) rfl rfl rfl (t_X12_pop hG ⟨rfl, rfl⟩ g6) ?_
    refine sx_istore_n (pc := 13) (lo' := [(2, .int x7), (0, .ref 146), (1, .int l1)]) dX12_setCvt_13 (by decide) rfl ?_
    refine sx_aload_n (pc := 14) dX12_setCvt_14 sx_m1 ?_
    obtain ⟨⟨x10, V8⟩, g9, h⟩ := sx_bnd h
    refine sv_cV (pc := 15) (y := qX12_pop) (o := (some (.int x10))) (as := []) (V1 := V8) hG dX12_setCvt_15 l_X12_579 y0X12_pop yvX12_pop rfl (Nat.le_of_ble_eq_true rfl) lay_146 kr_12 (by decide) (Nat.le_of_ble_eq_true rfl) rfl rfl rfl (t_X12_pop hG ⟨rfl, rfl⟩ g9) ?_
    refine sx_istore_n (pc := 18) (lo' := [(3, .int x10), (2, .int x7), (0, .ref 146), (1, .int l1)]) dX12_setCvt_18 (by decide) rfl ?_
    refine sx_aload_n (pc := 19) dX12_setCvt_19 sx_m2 ?_
    refine sx_iload_n (pc := 20) dX12_setCvt_20 sx_m0 ?_
    obtain ⟨⟨x13, V11⟩, g12, h⟩ := sx_bnd h
    refine sv_cV (pc := 21) (y := qX12_cvtOf) (o := (some (.int x13))) (as := [.int x10]) (V1 := V11) hG dX12_setCvt_21 l_X12_677 y0X12_cvtOf yvX12_cvtOf rfl (Nat.le_of_ble_eq_true rfl) lay_146 kr_12 (by decide) (Nat.le_of_ble_eq_true rfl) rfl rfl rfl (t_X12_cvtOf hG ⟨rfl, rfl⟩ g12) ?_
    refine sx_istore (pc := 24) (lo' := [(4, .int x13), (3, .int x10), (2, .int x7), (0, .ref 146), (1, .int l1)]) dX12_setCvt_24 (by decide) rfl ?_
    refine sx_aload_n (pc := 26) dX12_setCvt_26 sx_m3 ?_
    refine sv_getI (pc := 27) hG dX12_setCvt_27 f_12_409 lay_146 rfl ?_
    refine sx_if_ne (pc := 30) (tgt := 53) dX12_setCvt_30 (by decide) (fun c14 => ?_) (fun c14 => ?_)
    · have h := sx_neg c14 h
      exact sv_vret (pc := 53) dX12_setCvt_53 rfl h hP
    · have h := sx_pos c14 h
      refine sx_aload_n (pc := 33) dX12_setCvt_33 sx_m3 ?_
      refine sv_getA (pc := 34) hG dX12_setCvt_34 f_12_64 lay_146 rfl cr_146_44 ?_
      refine sx_iload_n (pc := 37) dX12_setCvt_37 sx_m1 ?_
      refine sx_iload_n (pc := 38) dX12_setCvt_38 sx_m4 ?_
      refine sx_if_eq (pc := 39) (tgt := 51) dX12_setCvt_39 (by decide) (fun c15 => ?_) (fun c15 => ?_)
      · have h := sx_pos c15 h
        refine sx_iload_n (pc := 51) dX12_setCvt_51 sx_m2 ?_
        obtain ⟨g16, h⟩ := sx_grd h
        obtain ⟨V17, hV17⟩ : ∃ z : sv_V, z = sv_I V11 164 x10.toNatClampNeg x7 := ⟨_, rfl⟩
        have h := sx_letE hV17 h
        refine sv_iast (pc := 52) hG dX12_setCvt_52 lay_164 g16 hV17 ?_
        exact sv_vret (pc := 53) dX12_setCvt_53 rfl h hP
      · have h := sx_neg c15 h
        refine sx_aload_n (pc := 42) dX12_setCvt_42 sx_m3 ?_
        refine sx_iload_n (pc := 43) dX12_setCvt_43 sx_m2 ?_
        refine sx_i2l (pc := 44) dX12_setCvt_44 ?_
        obtain ⟨⟨x20, V18⟩, g19, h⟩ := sx_bnd h
        refine sv_cV (pc := 45) (y := qX12_scaled) (o := (some (.int x20))) (as := [.long x7.toInt64]) (V1 := V18) hG dX12_setCvt_45 l_X12_611 y0X12_scaled yvX12_scaled rfl (Nat.le_of_ble_eq_true rfl) lay_146 kr_12 (by decide) (Nat.le_of_ble_eq_true rfl) rfl rfl rfl (t_X12_scaled hG ⟨rfl, rfl⟩ g19) ?_
        refine sx_goto (pc := 48) (tgt := 52) dX12_setCvt_48 (by decide) ?_
        obtain ⟨g21, h⟩ := sx_grd h
        obtain ⟨V22, hV22⟩ : ∃ z : sv_V, z = sv_I V18 164 x10.toNatClampNeg x20 := ⟨_, rfl⟩
        have h := sx_letE hV22 h
        refine sv_iast (pc := 52) hG dX12_setCvt_52 lay_164 g21 hV22 ?_
        exact sv_vret (pc := 53) dX12_setCvt_53 rfl h hP
  · have h := sx_pos c4 h
    exact sv_vret (pc := 8) dX12_setCvt_8 rfl h hP
