/-! methods: X12_straight, X12_meetsZero, X12_curve, X12_contour, X12_isInside, X12_isIn, X12_canvas, X12_drawIt, X12_draw, X12_pixel, X12_type -/
theorem dX12_straight_0 : decode cX12_straight 0 = .ok (.lload_n 1, 1) := by decide +kernel
theorem dX12_straight_1 : decode cX12_straight 1 = .ok (.lload_n 3, 1) := by decide +kernel
theorem dX12_straight_2 : decode cX12_straight 2 = .ok (.lload 5, 2) := by decide +kernel
theorem dX12_straight_4 : decode cX12_straight 4 = .ok (.lload 7, 2) := by decide +kernel
theorem dX12_straight_6 : decode cX12_straight 6 = .ok (.invokestatic 838, 3) := by decide +kernel
theorem dX12_straight_9 : decode cX12_straight 9 = .ok (.lstore 9, 2) := by decide +kernel
theorem dX12_straight_11 : decode cX12_straight 11 = .ok (.lload 9, 2) := by decide +kernel
theorem dX12_straight_13 : decode cX12_straight 13 = .ok (.lconst 0, 1) := by decide +kernel
theorem dX12_straight_14 : decode cX12_straight 14 = .ok (.lcmp, 1) := by decide +kernel
theorem dX12_straight_15 : decode cX12_straight 15 = .ok (.ifCond .ne 26, 3) := by decide +kernel
theorem dX12_straight_18 : decode cX12_straight 18 = .ok (.lload_n 1, 1) := by decide +kernel
theorem dX12_straight_19 : decode cX12_straight 19 = .ok (.lload 5, 2) := by decide +kernel
theorem dX12_straight_21 : decode cX12_straight 21 = .ok (.invokestatic 842, 3) := by decide +kernel
theorem dX12_straight_24 : decode cX12_straight 24 = .ok (.ifCond .eq 17, 3) := by decide +kernel
theorem dX12_straight_27 : decode cX12_straight 27 = .ok (.lload_n 3, 1) := by decide +kernel
theorem dX12_straight_28 : decode cX12_straight 28 = .ok (.lload 7, 2) := by decide +kernel
theorem dX12_straight_30 : decode cX12_straight 30 = .ok (.invokestatic 842, 3) := by decide +kernel
theorem dX12_straight_33 : decode cX12_straight 33 = .ok (.ifCond .eq 8, 3) := by decide +kernel
theorem dX12_straight_36 : decode cX12_straight 36 = .ok (.aload_n 0, 1) := by decide +kernel
theorem dX12_straight_37 : decode cX12_straight 37 = .ok (.iconst 1, 1) := by decide +kernel
theorem dX12_straight_38 : decode cX12_straight 38 = .ok (.putfield 846, 3) := by decide +kernel
theorem dX12_straight_41 : decode cX12_straight 41 = .ok (.lload_n 3, 1) := by decide +kernel
theorem dX12_straight_42 : decode cX12_straight 42 = .ok (.lconst 0, 1) := by decide +kernel
theorem dX12_straight_43 : decode cX12_straight 43 = .ok (.lcmp, 1) := by decide +kernel
theorem dX12_straight_44 : decode cX12_straight 44 = .ok (.ifCond .gt 30, 3) := by decide +kernel
theorem dX12_straight_47 : decode cX12_straight 47 = .ok (.lload 7, 2) := by decide +kernel
theorem dX12_straight_49 : decode cX12_straight 49 = .ok (.lconst 0, 1) := by decide +kernel
theorem dX12_straight_50 : decode cX12_straight 50 = .ok (.lcmp, 1) := by decide +kernel
theorem dX12_straight_51 : decode cX12_straight 51 = .ok (.ifCond .le 23, 3) := by decide +kernel
theorem dX12_straight_54 : decode cX12_straight 54 = .ok (.lload 9, 2) := by decide +kernel
theorem dX12_straight_56 : decode cX12_straight 56 = .ok (.lconst 0, 1) := by decide +kernel
theorem dX12_straight_57 : decode cX12_straight 57 = .ok (.lcmp, 1) := by decide +kernel
theorem dX12_straight_58 : decode cX12_straight 58 = .ok (.ifCond .le 16, 3) := by decide +kernel
theorem dX12_straight_61 : decode cX12_straight 61 = .ok (.aload_n 0, 1) := by decide +kernel
theorem dX12_straight_62 : decode cX12_straight 62 = .ok (.dup, 1) := by decide +kernel
theorem dX12_straight_63 : decode cX12_straight 63 = .ok (.getfield 849, 3) := by decide +kernel
theorem dX12_straight_66 : decode cX12_straight 66 = .ok (.iconst 1, 1) := by decide +kernel
theorem dX12_straight_67 : decode cX12_straight 67 = .ok (.iadd, 1) := by decide +kernel
theorem dX12_straight_68 : decode cX12_straight 68 = .ok (.putfield 849, 3) := by decide +kernel
theorem dX12_straight_71 : decode cX12_straight 71 = .ok (.goto 33, 3) := by decide +kernel
theorem dX12_straight_74 : decode cX12_straight 74 = .ok (.lload_n 3, 1) := by decide +kernel
theorem dX12_straight_75 : decode cX12_straight 75 = .ok (.lconst 0, 1) := by decide +kernel
theorem dX12_straight_76 : decode cX12_straight 76 = .ok (.lcmp, 1) := by decide +kernel
theorem dX12_straight_77 : decode cX12_straight 77 = .ok (.ifCond .le 27, 3) := by decide +kernel
theorem dX12_straight_80 : decode cX12_straight 80 = .ok (.lload 7, 2) := by decide +kernel
theorem dX12_straight_82 : decode cX12_straight 82 = .ok (.lconst 0, 1) := by decide +kernel
theorem dX12_straight_83 : decode cX12_straight 83 = .ok (.lcmp, 1) := by decide +kernel
theorem dX12_straight_84 : decode cX12_straight 84 = .ok (.ifCond .gt 20, 3) := by decide +kernel
theorem dX12_straight_87 : decode cX12_straight 87 = .ok (.lload 9, 2) := by decide +kernel
theorem dX12_straight_89 : decode cX12_straight 89 = .ok (.lconst 0, 1) := by decide +kernel
theorem dX12_straight_90 : decode cX12_straight 90 = .ok (.lcmp, 1) := by decide +kernel
theorem dX12_straight_91 : decode cX12_straight 91 = .ok (.ifCond .ge 13, 3) := by decide +kernel
theorem dX12_straight_94 : decode cX12_straight 94 = .ok (.aload_n 0, 1) := by decide +kernel
theorem dX12_straight_95 : decode cX12_straight 95 = .ok (.dup, 1) := by decide +kernel
theorem dX12_straight_96 : decode cX12_straight 96 = .ok (.getfield 849, 3) := by decide +kernel
theorem dX12_straight_99 : decode cX12_straight 99 = .ok (.iconst 1, 1) := by decide +kernel
theorem dX12_straight_100 : decode cX12_straight 100 = .ok (.isub, 1) := by decide +kernel
theorem dX12_straight_101 : decode cX12_straight 101 = .ok (.putfield 849, 3) := by decide +kernel
theorem dX12_straight_104 : decode cX12_straight 104 = .ok (.return_, 1) := by decide +kernel
def B_X12_straight_74  (l3 : Int64) (l7 : Int64) (l9 : Int64) (V : sv_V) : Option sv_V := if (lg_cmp l3 (0 : Int64)) ≤ 0 then (some V) else (if 0 < (lg_cmp l7 (0 : Int64)) then (some V) else (if 0 ≤ (lg_cmp l9 (0 : Int64)) then (some V) else (sx_let (sv_I V 146 139 ((V.1 146 139) - (1 : Int32))) (fun V4 => some V4))))
set_option maxRecDepth 20000 in
theorem tB_X12_straight_74 {g : sx_G} (hG : sx_Go g) {P : Option Value → sv_V → Prop} {Vr : sv_V} (hP : P none Vr)   {l3 : Int64} {l7 : Int64} {l9 : Int64} {V : sv_V} (h : B_X12_straight_74  l3 l7 l9 V = some Vr) : sv_N g qX12_straight 1 74 [(0, .ref 146), (3, .long l3), (7, .long l7), (9, .long l9)] [] V P := by
  unfold B_X12_straight_74 at h
  refine sx_lload_n (pc := 74) dX12_straight_74 sx_m1 ?_
  refine sx_lconst (pc := 75) (v := 0) dX12_straight_75 rfl ?_
  refine sx_lcmp (pc := 76) dX12_straight_76 ?_
  refine sx_if_le (pc := 77) (tgt := 104) dX12_straight_77 (by decide) (fun c1 => ?_) (fun c1 => ?_)
  · have h := sx_pos c1 h
    exact sv_vret (pc := 104) dX12_straight_104 rfl h hP
  · have h := sx_neg c1 h
    refine sx_lload (pc := 80) dX12_straight_80 sx_m2 ?_
    refine sx_lconst (pc := 82) (v := 0) dX12_straight_82 rfl ?_
    refine sx_lcmp (pc := 83) dX12_straight_83 ?_
    refine sx_if_gt (pc := 84) (tgt := 104) dX12_straight_84 (by decide) (fun c2 => ?_) (fun c2 => ?_)
    · have h := sx_pos c2 h
      exact sv_vret (pc := 104) dX12_straight_104 rfl h hP
    · have h := sx_neg c2 h
      refine sx_lload (pc := 87) dX12_straight_87 sx_m3 ?_
      refine sx_lconst (pc := 89) (v := 0) dX12_straight_89 rfl ?_
      refine sx_lcmp (pc := 90) dX12_straight_90 ?_
      refine sx_if_ge (pc := 91) (tgt := 104) dX12_straight_91 (by decide) (fun c3 => ?_) (fun c3 => ?_)
      · have h := sx_pos c3 h
        exact sv_vret (pc := 104) dX12_straight_104 rfl h hP
      · have h := sx_neg c3 h
        refine sx_aload_n (pc := 94) dX12_straight_94 sx_m0 ?_
        refine sx_dup (pc := 95) dX12_straight_95 rfl ?_
        refine sv_getI (pc := 96) hG dX12_straight_96 f_12_849 lay_146 rfl ?_
        refine sx_iconst (pc := 99) (v := 1) dX12_straight_99 (by decide) ?_
        refine sx_isub (pc := 100) dX12_straight_100 ?_
        obtain ⟨V4, hV4⟩ : ∃ z : sv_V, z = sv_I V 146 139 ((V.1 146 139) - (1 : Int32)) := ⟨_, rfl⟩
        have h := sx_letE hV4 h
        refine sv_putI (pc := 101) hG dX12_straight_101 f_12_849 lay_146 rfl hV4 ?_
        exact sv_vret (pc := 104) dX12_straight_104 rfl h hP
def B_X12_straight_41  (l3 : Int64) (l7 : Int64) (l9 : Int64) (V : sv_V) : Option sv_V := if 0 < (lg_cmp l3 (0 : Int64)) then (B_X12_straight_74  l3 l7 l9 V) else (if (lg_cmp l7 (0 : Int64)) ≤ 0 then (B_X12_straight_74  l3 l7 l9 V) else (if (lg_cmp l9 (0 : Int64)) ≤ 0 then (B_X12_straight_74  l3 l7 l9 V) else (sx_let (sv_I V 146 139 ((V.1 146 139) + (1 : Int32))) (fun V8 => some V8))))
set_option maxRecDepth 20000 in
theorem tB_X12_straight_41 {g : sx_G} (hG : sx_Go g) {P : Option Value → sv_V → Prop} {Vr : sv_V} (hP : P none Vr)   {l3 : Int64} {l7 : Int64} {l9 : Int64} {V : sv_V} (h : B_X12_straight_41  l3 l7 l9 V = some Vr) : sv_N g qX12_straight 1 41 [(0, .ref 146), (3, .long l3), (7, .long l7), (9, .long l9)] [] V P := by
  unfold B_X12_straight_41 at h
  refine sx_lload_n (pc := 41) dX12_straight_41 sx_m1 ?_
  refine sx_lconst (pc := 42) (v := 0) dX12_straight_42 rfl ?_
  refine sx_lcmp (pc := 43) dX12_straight_43 ?_
  refine sx_if_gt (pc := 44) (tgt := 74) dX12_straight_44 (by decide) (fun c5 => ?_) (fun c5 => ?_)
  · have h := sx_pos c5 h
    refine sx_wk (sx_s1 sx_m0 (sx_s1 sx_m1 (sx_s1 sx_m2 (sx_s1 sx_m3 sx_s0)))) ?_
    exact tB_X12_straight_74 hG hP  h
  · have h := sx_neg c5 h
    refine sx_lload (pc := 47) dX12_straight_47 sx_m2 ?_
    refine sx_lconst (pc := 49) (v := 0) dX12_straight_49 rfl ?_
    refine sx_lcmp (pc := 50) dX12_straight_50 ?_
    refine sx_if_le (pc := 51) (tgt := 74) dX12_straight_51 (by decide) (fun c6 => ?_) (fun c6 => ?_)
    · have h := sx_pos c6 h
      refine sx_wk (sx_s1 sx_m0 (sx_s1 sx_m1 (sx_s1 sx_m2 (sx_s1 sx_m3 sx_s0)))) ?_
      exact tB_X12_straight_74 hG hP  h
    · have h := sx_neg c6 h
      refine sx_lload (pc := 54) dX12_straight_54 sx_m3 ?_
      refine sx_lconst (pc := 56) (v := 0) dX12_straight_56 rfl ?_
      refine sx_lcmp (pc := 57) dX12_straight_57 ?_
      refine sx_if_le (pc := 58) (tgt := 74) dX12_straight_58 (by decide) (fun c7 => ?_) (fun c7 => ?_)
      · have h := sx_pos c7 h
        refine sx_wk (sx_s1 sx_m0 (sx_s1 sx_m1 (sx_s1 sx_m2 (sx_s1 sx_m3 sx_s0)))) ?_
        exact tB_X12_straight_74 hG hP  h
      · have h := sx_neg c7 h
        refine sx_aload_n (pc := 61) dX12_straight_61 sx_m0 ?_
        refine sx_dup (pc := 62) dX12_straight_62 rfl ?_
        refine sv_getI (pc := 63) hG dX12_straight_63 f_12_849 lay_146 rfl ?_
        refine sx_iconst (pc := 66) (v := 1) dX12_straight_66 (by decide) ?_
        refine sx_iadd (pc := 67) dX12_straight_67 ?_
        obtain ⟨V8, hV8⟩ : ∃ z : sv_V, z = sv_I V 146 139 ((V.1 146 139) + (1 : Int32)) := ⟨_, rfl⟩
        have h := sx_letE hV8 h
        refine sv_putI (pc := 68) hG dX12_straight_68 f_12_849 lay_146 rfl hV8 ?_
        refine sx_goto (pc := 71) (tgt := 104) dX12_straight_71 (by decide) ?_
        exact sv_vret (pc := 104) dX12_straight_104 rfl h hP
def F_X12_straight (l1 : Int64) (l3 : Int64) (l5 : Int64) (l7 : Int64) (V : sv_V) : Option sv_V := (F_X12_cross l1 l3 l5 l7 V).bind (fun (x11, V9) => if (lg_cmp x11 (0 : Int64)) = 0 then ((F_X12_between0 l1 l5 V9).bind (fun (x15, V13) => if x15 = 0 then (B_X12_straight_41  l3 l7 x11 V13) else ((F_X12_between0 l3 l7 V13).bind (fun (x19, V17) => if x19 = 0 then (B_X12_straight_41  l3 l7 x11 V17) else (sx_let (sv_I V17 146 140 (1 : Int32)) (fun V21 => B_X12_straight_41  l3 l7 x11 V21)))))) else (B_X12_straight_41  l3 l7 x11 V9))
set_option maxRecDepth 20000 in
theorem t_X12_straight {g : sx_G} (hG : sx_Go g) {P : Option Value → sv_V → Prop} {Vr : sv_V} (hP : P none Vr) {l1 : Int64} {l3 : Int64} {l5 : Int64} {l7 : Int64} {V : sv_V} (h : F_X12_straight l1 l3 l5 l7 V = some Vr) : sv_N g qX12_straight 1 0 [(0, .ref 146), (1, .long l1), (3, .long l3), (5, .long l5), (7, .long l7)] [] V P := by
  unfold F_X12_straight at h
  refine sx_lload_n (pc := 0) dX12_straight_0 sx_m1 ?_
  refine sx_lload_n (pc := 1) dX12_straight_1 sx_m2 ?_
  refine sx_lload (pc := 2) dX12_straight_2 sx_m3 ?_
  refine sx_lload (pc := 4) dX12_straight_4 sx_m4 ?_
  obtain ⟨⟨x11, V9⟩, g10, h⟩ := sx_bnd h
  refine sv_cS (pc := 6) (y := qX12_cross) (o := (some (.long x11))) (as := [.long l1, .long l3, .long l5, .long l7]) (V1 := V9) dX12_straight_6 l_X12_838 y0X12_cross ysX12_cross rfl (Nat.le_of_ble_eq_true rfl) (by decide) (Nat.le_of_ble_eq_true rfl) rfl rfl rfl (t_X12_cross hG ⟨rfl, rfl⟩ g10) ?_
  refine sx_lstore (pc := 9) (lo' := [(9, .long x11), (0, .ref 146), (1, .long l1), (3, .long l3), (5, .long l5), (7, .long l7)]) dX12_straight_9 (by decide) rfl ?_
  refine sx_lload (pc := 11) dX12_straight_11 sx_m0 ?_
  refine sx_lconst (pc := 13) (v := 0) dX12_straight_13 rfl ?_
  refine sx_lcmp (pc := 14) dX12_straight_14 ?_
  refine sx_if_ne (pc := 15) (tgt := 41) dX12_straight_15 (by decide) (fun c12 => ?_) (fun c12 => ?_)
  · have h := sx_neg c12 h
    refine sx_wk (sx_s1 sx_m1 (sx_s1 sx_m3 (sx_s1 sx_m5 (sx_s1 sx_m0 sx_s0)))) ?_
    exact tB_X12_straight_41 hG hP  h
  · have h := sx_pos c12 h
    refine sx_lload_n (pc := 18) dX12_straight_18 sx_m2 ?_
    refine sx_lload (pc := 19) dX12_straight_19 sx_m4 ?_
    obtain ⟨⟨x15, V13⟩, g14, h⟩ := sx_bnd h
    refine sv_cS (pc := 21) (y := qX12_between0) (o := (some (.int x15))) (as := [.long l1, .long l5]) (V1 := V13) dX12_straight_21 l_X12_842 y0X12_between0 ysX12_between0 rfl (Nat.le_of_ble_eq_true rfl) (by decide) (Nat.le_of_ble_eq_true rfl) rfl rfl rfl (t_X12_between0 hG ⟨rfl, rfl⟩ g14) ?_
    refine sx_if_eq (pc := 24) (tgt := 41) dX12_straight_24 (by decide) (fun c16 => ?_) (fun c16 => ?_)
    · have h := sx_pos c16 h
      refine sx_wk (sx_s1 sx_m1 (sx_s1 sx_m3 (sx_s1 sx_m5 (sx_s1 sx_m0 sx_s0)))) ?_
      exact tB_X12_straight_41 hG hP  h
    · have h := sx_neg c16 h
      refine sx_lload_n (pc := 27) dX12_straight_27 sx_m3 ?_
      refine sx_lload (pc := 28) dX12_straight_28 sx_m5 ?_
      obtain ⟨⟨x19, V17⟩, g18, h⟩ := sx_bnd h
      refine sv_cS (pc := 30) (y := qX12_between0) (o := (some (.int x19))) (as := [.long l3, .long l7]) (V1 := V17) dX12_straight_30 l_X12_842 y0X12_between0 ysX12_between0 rfl (Nat.le_of_ble_eq_true rfl) (by decide) (Nat.le_of_ble_eq_true rfl) rfl rfl rfl (t_X12_between0 hG ⟨rfl, rfl⟩ g18) ?_
      refine sx_if_eq (pc := 33) (tgt := 41) dX12_straight_33 (by decide) (fun c20 => ?_) (fun c20 => ?_)
      · have h := sx_pos c20 h
        refine sx_wk (sx_s1 sx_m1 (sx_s1 sx_m3 (sx_s1 sx_m5 (sx_s1 sx_m0 sx_s0)))) ?_
        exact tB_X12_straight_41 hG hP  h
      · have h := sx_neg c20 h
        refine sx_aload_n (pc := 36) dX12_straight_36 sx_m1 ?_
        refine sx_iconst (pc := 37) (v := 1) dX12_straight_37 (by decide) ?_
        obtain ⟨V21, hV21⟩ : ∃ z : sv_V, z = sv_I V17 146 140 (1 : Int32) := ⟨_, rfl⟩
        have h := sx_letE hV21 h
        refine sv_putZ (pc := 38) hG dX12_straight_38 f_12_846 lay_146 rfl rfl hV21 ?_
        refine sx_wk (sx_s1 sx_m1 (sx_s1 sx_m3 (sx_s1 sx_m5 (sx_s1 sx_m0 sx_s0)))) ?_
        exact tB_X12_straight_41 hG hP  h
theorem dX12_meetsZero_0 : decode cX12_meetsZero 0 = .ok (.lload_n 0, 1) := by decide +kernel
theorem dX12_meetsZero_1 : decode cX12_meetsZero 1 = .ok (.lconst 0, 1) := by decide +kernel
theorem dX12_meetsZero_2 : decode cX12_meetsZero 2 = .ok (.lcmp, 1) := by decide +kernel
theorem dX12_meetsZero_3 : decode cX12_meetsZero 3 = .ok (.ifCond .eq 36, 3) := by decide +kernel
theorem dX12_meetsZero_6 : decode cX12_meetsZero 6 = .ok (.lload 4, 2) := by decide +kernel
theorem dX12_meetsZero_8 : decode cX12_meetsZero 8 = .ok (.lconst 0, 1) := by decide +kernel
theorem dX12_meetsZero_9 : decode cX12_meetsZero 9 = .ok (.lcmp, 1) := by decide +kernel
theorem dX12_meetsZero_10 : decode cX12_meetsZero 10 = .ok (.ifCond .eq 29, 3) := by decide +kernel
theorem dX12_meetsZero_13 : decode cX12_meetsZero 13 = .ok (.lload_n 0, 1) := by decide +kernel
theorem dX12_meetsZero_14 : decode cX12_meetsZero 14 = .ok (.lconst 0, 1) := by decide +kernel
theorem dX12_meetsZero_15 : decode cX12_meetsZero 15 = .ok (.lcmp, 1) := by decide +kernel
theorem dX12_meetsZero_16 : decode cX12_meetsZero 16 = .ok (.ifCond .ge 7, 3) := by decide +kernel
theorem dX12_meetsZero_19 : decode cX12_meetsZero 19 = .ok (.iconst 1, 1) := by decide +kernel
theorem dX12_meetsZero_20 : decode cX12_meetsZero 20 = .ok (.goto 4, 3) := by decide +kernel
theorem dX12_meetsZero_23 : decode cX12_meetsZero 23 = .ok (.iconst 0, 1) := by decide +kernel
theorem dX12_meetsZero_24 : decode cX12_meetsZero 24 = .ok (.lload 4, 2) := by decide +kernel
theorem dX12_meetsZero_26 : decode cX12_meetsZero 26 = .ok (.lconst 0, 1) := by decide +kernel
theorem dX12_meetsZero_27 : decode cX12_meetsZero 27 = .ok (.lcmp, 1) := by decide +kernel
theorem dX12_meetsZero_28 : decode cX12_meetsZero 28 = .ok (.ifCond .ge 7, 3) := by decide +kernel
theorem dX12_meetsZero_31 : decode cX12_meetsZero 31 = .ok (.iconst 1, 1) := by decide +kernel
theorem dX12_meetsZero_32 : decode cX12_meetsZero 32 = .ok (.goto 4, 3) := by decide +kernel
theorem dX12_meetsZero_35 : decode cX12_meetsZero 35 = .ok (.iconst 0, 1) := by decide +kernel
theorem dX12_meetsZero_36 : decode cX12_meetsZero 36 = .ok (.if_icmp .eq 5, 3) := by decide +kernel
theorem dX12_meetsZero_39 : decode cX12_meetsZero 39 = .ok (.iconst 1, 1) := by decide +kernel
theorem dX12_meetsZero_40 : decode cX12_meetsZero 40 = .ok (.ireturn, 1) := by decide +kernel
theorem dX12_meetsZero_41 : decode cX12_meetsZero 41 = .ok (.lload_n 0, 1) := by decide +kernel
theorem dX12_meetsZero_42 : decode cX12_meetsZero 42 = .ok (.lconst 0, 1) := by decide +kernel
theorem dX12_meetsZero_43 : decode cX12_meetsZero 43 = .ok (.lcmp, 1) := by decide +kernel
theorem dX12_meetsZero_44 : decode cX12_meetsZero 44 = .ok (.ifCond .ge 7, 3) := by decide +kernel
theorem dX12_meetsZero_47 : decode cX12_meetsZero 47 = .ok (.iconst 1, 1) := by decide +kernel
theorem dX12_meetsZero_48 : decode cX12_meetsZero 48 = .ok (.goto 4, 3) := by decide +kernel
theorem dX12_meetsZero_51 : decode cX12_meetsZero 51 = .ok (.iconst 0, 1) := by decide +kernel
theorem dX12_meetsZero_52 : decode cX12_meetsZero 52 = .ok (.lload_n 2, 1) := by decide +kernel
theorem dX12_meetsZero_53 : decode cX12_meetsZero 53 = .ok (.lconst 0, 1) := by decide +kernel
theorem dX12_meetsZero_54 : decode cX12_meetsZero 54 = .ok (.lcmp, 1) := by decide +kernel
theorem dX12_meetsZero_55 : decode cX12_meetsZero 55 = .ok (.ifCond .ge 7, 3) := by decide +kernel
theorem dX12_meetsZero_58 : decode cX12_meetsZero 58 = .ok (.iconst 1, 1) := by decide +kernel
theorem dX12_meetsZero_59 : decode cX12_meetsZero 59 = .ok (.goto 4, 3) := by decide +kernel
theorem dX12_meetsZero_62 : decode cX12_meetsZero 62 = .ok (.iconst 0, 1) := by decide +kernel
theorem dX12_meetsZero_63 : decode cX12_meetsZero 63 = .ok (.if_icmp .eq 24, 3) := by decide +kernel
theorem dX12_meetsZero_66 : decode cX12_meetsZero 66 = .ok (.lload_n 2, 1) := by decide +kernel
theorem dX12_meetsZero_67 : decode cX12_meetsZero 67 = .ok (.lconst 0, 1) := by decide +kernel
theorem dX12_meetsZero_68 : decode cX12_meetsZero 68 = .ok (.lcmp, 1) := by decide +kernel
theorem dX12_meetsZero_69 : decode cX12_meetsZero 69 = .ok (.ifCond .eq 18, 3) := by decide +kernel
theorem dX12_meetsZero_72 : decode cX12_meetsZero 72 = .ok (.lload_n 2, 1) := by decide +kernel
theorem dX12_meetsZero_73 : decode cX12_meetsZero 73 = .ok (.lload_n 2, 1) := by decide +kernel
theorem dX12_meetsZero_74 : decode cX12_meetsZero 74 = .ok (.lmul, 1) := by decide +kernel
theorem dX12_meetsZero_75 : decode cX12_meetsZero 75 = .ok (.lload_n 0, 1) := by decide +kernel
theorem dX12_meetsZero_76 : decode cX12_meetsZero 76 = .ok (.lload 4, 2) := by decide +kernel
theorem dX12_meetsZero_78 : decode cX12_meetsZero 78 = .ok (.lmul, 1) := by decide +kernel
theorem dX12_meetsZero_79 : decode cX12_meetsZero 79 = .ok (.lcmp, 1) := by decide +kernel
theorem dX12_meetsZero_80 : decode cX12_meetsZero 80 = .ok (.ifCond .lt 7, 3) := by decide +kernel
theorem dX12_meetsZero_83 : decode cX12_meetsZero 83 = .ok (.iconst 1, 1) := by decide +kernel
theorem dX12_meetsZero_84 : decode cX12_meetsZero 84 = .ok (.goto 4, 3) := by decide +kernel
theorem dX12_meetsZero_87 : decode cX12_meetsZero 87 = .ok (.iconst 0, 1) := by decide +kernel
theorem dX12_meetsZero_88 : decode cX12_meetsZero 88 = .ok (.ireturn, 1) := by decide +kernel
def B_X12_meetsZero_63  (l0 : Int64) (l2 : Int64) (l4 : Int64) (s0 : Int32) (s1 : Int32) (V : sv_V) : Option (Int32 × sv_V) := if s0 = s1 then (some ((0 : Int32), V)) else (if (lg_cmp l2 (0 : Int64)) = 0 then (some ((0 : Int32), V)) else (if (lg_cmp (l2 * l2) (l0 * l4)) < 0 then (some ((0 : Int32), V)) else (some ((1 : Int32), V))))
set_option maxRecDepth 20000 in
theorem tB_X12_meetsZero_63 {g : sx_G} (hG : sx_Go g) {P : Option Value → sv_V → Prop} {r : Int32} {Vr : sv_V} (hP : P (some (.int r)) Vr)   {l0 : Int64} {l2 : Int64} {l4 : Int64} {s0 : Int32} {s1 : Int32} {V : sv_V} (h : B_X12_meetsZero_63  l0 l2 l4 s0 s1 V = some (r, Vr)) : sv_N g qX12_meetsZero 0 63 [(0, .long l0), (2, .long l2), (4, .long l4)] [.int s1, .int s0] V P := by
  unfold B_X12_meetsZero_63 at h
  refine sx_icmp_eq (pc := 63) (tgt := 87) dX12_meetsZero_63 (by decide) (fun c1 => ?_) (fun c1 => ?_)
  · have h := sx_pos c1 h
    refine sx_iconst (pc := 87) (v := 0) dX12_meetsZero_87 (by decide) ?_
    exact sv_zret (pc := 88) dX12_meetsZero_88 rfl rfl h hP
  · have h := sx_neg c1 h
    refine sx_lload_n (pc := 66) dX12_meetsZero_66 sx_m1 ?_
    refine sx_lconst (pc := 67) (v := 0) dX12_meetsZero_67 rfl ?_
    refine sx_lcmp (pc := 68) dX12_meetsZero_68 ?_
    refine sx_if_eq (pc := 69) (tgt := 87) dX12_meetsZero_69 (by decide) (fun c2 => ?_) (fun c2 => ?_)
    · have h := sx_pos c2 h
      refine sx_iconst (pc := 87) (v := 0) dX12_meetsZero_87 (by decide) ?_
      exact sv_zret (pc := 88) dX12_meetsZero_88 rfl rfl h hP
    · have h := sx_neg c2 h
      refine sx_lload_n (pc := 72) dX12_meetsZero_72 sx_m1 ?_
      refine sx_lload_n (pc := 73) dX12_meetsZero_73 sx_m1 ?_
      refine sx_lmul (pc := 74) dX12_meetsZero_74 ?_
      refine sx_lload_n (pc := 75) dX12_meetsZero_75 sx_m0 ?_
      refine sx_lload (pc := 76) dX12_meetsZero_76 sx_m2 ?_
      refine sx_lmul (pc := 78) dX12_meetsZero_78 ?_
      refine sx_lcmp (pc := 79) dX12_meetsZero_79 ?_
      refine sx_if_lt (pc := 80) (tgt := 87) dX12_meetsZero_80 (by decide) (fun c3 => ?_) (fun c3 => ?_)
      · have h := sx_pos c3 h
        refine sx_iconst (pc := 87) (v := 0) dX12_meetsZero_87 (by decide) ?_
        exact sv_zret (pc := 88) dX12_meetsZero_88 rfl rfl h hP
      · have h := sx_neg c3 h
        refine sx_iconst (pc := 83) (v := 1) dX12_meetsZero_83 (by decide) ?_
        refine sx_goto (pc := 84) (tgt := 88) dX12_meetsZero_84 (by decide) ?_
        exact sv_zret (pc := 88) dX12_meetsZero_88 rfl rfl h hP
def B_X12_meetsZero_52  (l0 : Int64) (l2 : Int64) (l4 : Int64) (s0 : Int32) (V : sv_V) : Option (Int32 × sv_V) := if 0 ≤ (lg_cmp l2 (0 : Int64)) then (B_X12_meetsZero_63  l0 l2 l4 s0 (0 : Int32) V) else (B_X12_meetsZero_63  l0 l2 l4 s0 (1 : Int32) V)
set_option maxRecDepth 20000 in
theorem tB_X12_meetsZero_52 {g : sx_G} (hG : sx_Go g) {P : Option Value → sv_V → Prop} {r : Int32} {Vr : sv_V} (hP : P (some (.int r)) Vr)   {l0 : Int64} {l2 : Int64} {l4 : Int64} {s0 : Int32} {V : sv_V} (h : B_X12_meetsZero_52  l0 l2 l4 s0 V = some (r, Vr)) : sv_N g qX12_meetsZero 0 52 [(0, .long l0), (2, .long l2), (4, .long l4)] [.int s0] V P := by
  unfold B_X12_meetsZero_52 at h
  refine sx_lload_n (pc := 52) dX12_meetsZero_52 sx_m1 ?_
  refine sx_lconst (pc := 53) (v := 0) dX12_meetsZero_53 rfl ?_
  refine sx_lcmp (pc := 54) dX12_meetsZero_54 ?_
  refine sx_if_ge (pc := 55) (tgt := 62) dX12_meetsZero_55 (by decide) (fun c4 => ?_) (fun c4 => ?_)
  · have h := sx_pos c4 h
    refine sx_iconst (pc := 62) (v := 0) dX12_meetsZero_62 (by decide) ?_
    refine sx_wk (sx_s1 sx_m0 (sx_s1 sx_m1 (sx_s1 sx_m2 sx_s0))) ?_
    exact tB_X12_meetsZero_63 hG hP  h
  · have h := sx_neg c4 h
    refine sx_iconst (pc := 58) (v := 1) dX12_meetsZero_58 (by decide) ?_
    refine sx_goto (pc := 59) (tgt := 63) dX12_meetsZero_59 (by decide) ?_
    refine sx_wk (sx_s1 sx_m0 (sx_s1 sx_m1 (sx_s1 sx_m2 sx_s0))) ?_
    exact tB_X12_meetsZero_63 hG hP  h
def B_X12_meetsZero_36  (l0 : Int64) (l2 : Int64) (l4 : Int64) (s0 : Int32) (s1 : Int32) (V : sv_V) : Option (Int32 × sv_V) := if s0 = s1 then (if 0 ≤ (lg_cmp l0 (0 : Int64)) then (B_X12_meetsZero_52  l0 l2 l4 (0 : Int32) V) else (B_X12_meetsZero_52  l0 l2 l4 (1 : Int32) V)) else (some ((1 : Int32), V))
set_option maxRecDepth 20000 in
theorem tB_X12_meetsZero_36 {g : sx_G} (hG : sx_Go g) {P : Option Value → sv_V → Prop} {r : Int32} {Vr : sv_V} (hP : P (some (.int r)) Vr)   {l0 : Int64} {l2 : Int64} {l4 : Int64} {s0 : Int32} {s1 : Int32} {V : sv_V} (h : B_X12_meetsZero_36  l0 l2 l4 s0 s1 V = some (r, Vr)) : sv_N g qX12_meetsZero 0 36 [(0, .long l0), (2, .long l2), (4, .long l4)] [.int s1, .int s0] V P := by
  unfold B_X12_meetsZero_36 at h
  refine sx_icmp_eq (pc := 36) (tgt := 41) dX12_meetsZero_36 (by decide) (fun c5 => ?_) (fun c5 => ?_)
  · have h := sx_pos c5 h
    refine sx_lload_n (pc := 41) dX12_meetsZero_41 sx_m0 ?_
    refine sx_lconst (pc := 42) (v := 0) dX12_meetsZero_42 rfl ?_
    refine sx_lcmp (pc := 43) dX12_meetsZero_43 ?_
    refine sx_if_ge (pc := 44) (tgt := 51) dX12_meetsZero_44 (by decide) (fun c6 => ?_) (fun c6 => ?_)
    · have h := sx_pos c6 h
      refine sx_iconst (pc := 51) (v := 0) dX12_meetsZero_51 (by decide) ?_
      refine sx_wk (sx_s1 sx_m0 (sx_s1 sx_m1 (sx_s1 sx_m2 sx_s0))) ?_
      exact tB_X12_meetsZero_52 hG hP  h
    · have h := sx_neg c6 h
      refine sx_iconst (pc := 47) (v := 1) dX12_meetsZero_47 (by decide) ?_
      refine sx_goto (pc := 48) (tgt := 52) dX12_meetsZero_48 (by decide) ?_
      refine sx_wk (sx_s1 sx_m0 (sx_s1 sx_m1 (sx_s1 sx_m2 sx_s0))) ?_
      exact tB_X12_meetsZero_52 hG hP  h
  · have h := sx_neg c5 h
    refine sx_iconst (pc := 39) (v := 1) dX12_meetsZero_39 (by decide) ?_
    exact sv_zret (pc := 40) dX12_meetsZero_40 rfl rfl h hP
def B_X12_meetsZero_24  (l0 : Int64) (l2 : Int64) (l4 : Int64) (s0 : Int32) (V : sv_V) : Option (Int32 × sv_V) := if 0 ≤ (lg_cmp l4 (0 : Int64)) then (B_X12_meetsZero_36  l0 l2 l4 s0 (0 : Int32) V) else (B_X12_meetsZero_36  l0 l2 l4 s0 (1 : Int32) V)
set_option maxRecDepth 20000 in
theorem tB_X12_meetsZero_24 {g : sx_G} (hG : sx_Go g) {P : Option Value → sv_V → Prop} {r : Int32} {Vr : sv_V} (hP : P (some (.int r)) Vr)   {l0 : Int64} {l2 : Int64} {l4 : Int64} {s0 : Int32} {V : sv_V} (h : B_X12_meetsZero_24  l0 l2 l4 s0 V = some (r, Vr)) : sv_N g qX12_meetsZero 0 24 [(0, .long l0), (2, .long l2), (4, .long l4)] [.int s0] V P := by
  unfold B_X12_meetsZero_24 at h
  refine sx_lload (pc := 24) dX12_meetsZero_24 sx_m2 ?_
  refine sx_lconst (pc := 26) (v := 0) dX12_meetsZero_26 rfl ?_
  refine sx_lcmp (pc := 27) dX12_meetsZero_27 ?_
  refine sx_if_ge (pc := 28) (tgt := 35) dX12_meetsZero_28 (by decide) (fun c7 => ?_) (fun c7 => ?_)
  · have h := sx_pos c7 h
    refine sx_iconst (pc := 35) (v := 0) dX12_meetsZero_35 (by decide) ?_
    refine sx_wk (sx_s1 sx_m0 (sx_s1 sx_m1 (sx_s1 sx_m2 sx_s0))) ?_
    exact tB_X12_meetsZero_36 hG hP  h
  · have h := sx_neg c7 h
    refine sx_iconst (pc := 31) (v := 1) dX12_meetsZero_31 (by decide) ?_
    refine sx_goto (pc := 32) (tgt := 36) dX12_meetsZero_32 (by decide) ?_
    refine sx_wk (sx_s1 sx_m0 (sx_s1 sx_m1 (sx_s1 sx_m2 sx_s0))) ?_
    exact tB_X12_meetsZero_36 hG hP  h
def F_X12_meetsZero (l0 : Int64) (l2 : Int64) (l4 : Int64) (V : sv_V) : Option (Int32 × sv_V) := if (lg_cmp l0 (0 : Int64)) = 0 then (some ((1 : Int32), V)) else (if (lg_cmp l4 (0 : Int64)) = 0 then (some ((1 : Int32), V)) else (if 0 ≤ (lg_cmp l0 (0 : Int64)) then (B_X12_meetsZero_24  l0 l2 l4 (0 : Int32) V) else (B_X12_meetsZero_24  l0 l2 l4 (1 : Int32) V)))
set_option maxRecDepth 20000 in
theorem t_X12_meetsZero {g : sx_G} (hG : sx_Go g) {P : Option Value → sv_V → Prop} {r : Int32} {Vr : sv_V} (hP : P (some (.int r)) Vr) {l0 : Int64} {l2 : Int64} {l4 : Int64} {V : sv_V} (h : F_X12_meetsZero l0 l2 l4 V = some (r, Vr)) : sv_N g qX12_meetsZero 0 0 [(0, .long l0), (2, .long l2), (4, .long l4)] [] V P := by
  unfold F_X12_meetsZero at h
  refine sx_lload_n (pc := 0) dX12_meetsZero_0 sx_m0 ?_
  refine sx_lconst (pc := 1) (v := 0) dX12_meetsZero_1 rfl ?_
  refine sx_lcmp (pc := 2) dX12_meetsZero_2 ?_
  refine sx_if_eq (pc := 3) (tgt := 39) dX12_meetsZero_3 (by decide) (fun c8 => ?_) (fun c8 => ?_)
  · have h := sx_pos c8 h
    refine sx_iconst (pc := 39) (v := 1) dX12_meetsZero_39 (by decide) ?_
    exact sv_zret (pc := 40) dX12_meetsZero_40 rfl rfl h hP
  · have h := sx_neg c8 h
    refine sx_lload (pc := 6) dX12_meetsZero_6 sx_m2 ?_
    refine sx_lconst (pc := 8) (v := 0) dX12_meetsZero_8 rfl ?_
    refine sx_lcmp (pc := 9) dX12_meetsZero_9 ?_
    refine sx_if_eq (pc := 10) (tgt := 39) dX12_meetsZero_10 (by decide) (fun c9 => ?_) (fun c9 => ?_)
    · have h := sx_pos c9 h
      refine sx_iconst (pc := 39) (v := 1) dX12_meetsZero_39 (by decide) ?_
      exact sv_zret (pc := 40) dX12_meetsZero_40 rfl rfl h hP
    · have h := sx_neg c9 h
      refine sx_lload_n (pc := 13) dX12_meetsZero_13 sx_m0 ?_
      refine sx_lconst (pc := 14) (v := 0) dX12_meetsZero_14 rfl ?_
      refine sx_lcmp (pc := 15) dX12_meetsZero_15 ?_
      refine sx_if_ge (pc := 16) (tgt := 23) dX12_meetsZero_16 (by decide) (fun c10 => ?_) (fun c10 => ?_)
      · have h := sx_pos c10 h
        refine sx_iconst (pc := 23) (v := 0) dX12_meetsZero_23 (by decide) ?_
        refine sx_wk (sx_s1 sx_m0 (sx_s1 sx_m1 (sx_s1 sx_m2 sx_s0))) ?_
        exact tB_X12_meetsZero_24 hG hP  h
      · have h := sx_neg c10 h
        refine sx_iconst (pc := 19) (v := 1) dX12_meetsZero_19 (by decide) ?_
        refine sx_goto (pc := 20) (tgt := 24) dX12_meetsZero_20 (by decide) ?_
        refine sx_wk (sx_s1 sx_m0 (sx_s1 sx_m1 (sx_s1 sx_m2 sx_s0))) ?_
        exact tB_X12_meetsZero_24 hG hP  h
theorem dX12_curve_0 : decode cX12_curve 0 = .ok (.lload 5, 2) := by decide +kernel
theorem dX12_curve_2 : decode cX12_curve 2 = .ok (.lload 7, 2) := by decide +kernel
theorem dX12_curve_4 : decode cX12_curve 4 = .ok (.lload 9, 2) := by decide +kernel
theorem dX12_curve_6 : decode cX12_curve 6 = .ok (.lload 11, 2) := by decide +kernel
theorem dX12_curve_8 : decode cX12_curve 8 = .ok (.invokestatic 838, 3) := by decide +kernel
theorem dX12_curve_11 : decode cX12_curve 11 = .ok (.lstore 13, 2) := by decide +kernel
theorem dX12_curve_13 : decode cX12_curve 13 = .ok (.lload 9, 2) := by decide +kernel
theorem dX12_curve_15 : decode cX12_curve 15 = .ok (.lload 11, 2) := by decide +kernel
theorem dX12_curve_17 : decode cX12_curve 17 = .ok (.lload_n 1, 1) := by decide +kernel
theorem dX12_curve_18 : decode cX12_curve 18 = .ok (.lload_n 3, 1) := by decide +kernel
theorem dX12_curve_19 : decode cX12_curve 19 = .ok (.invokestatic 838, 3) := by decide +kernel
theorem dX12_curve_22 : decode cX12_curve 22 = .ok (.lstore 15, 2) := by decide +kernel
theorem dX12_curve_24 : decode cX12_curve 24 = .ok (.lload_n 1, 1) := by decide +kernel
theorem dX12_curve_25 : decode cX12_curve 25 = .ok (.lload_n 3, 1) := by decide +kernel
theorem dX12_curve_26 : decode cX12_curve 26 = .ok (.lload 5, 2) := by decide +kernel
theorem dX12_curve_28 : decode cX12_curve 28 = .ok (.lload 7, 2) := by decide +kernel
theorem dX12_curve_30 : decode cX12_curve 30 = .ok (.invokestatic 838, 3) := by decide +kernel
theorem dX12_curve_33 : decode cX12_curve 33 = .ok (.lstore 17, 2) := by decide +kernel
theorem dX12_curve_35 : decode cX12_curve 35 = .ok (.lload 13, 2) := by decide +kernel
theorem dX12_curve_37 : decode cX12_curve 37 = .ok (.lload 15, 2) := by decide +kernel
theorem dX12_curve_39 : decode cX12_curve 39 = .ok (.ladd, 1) := by decide +kernel
theorem dX12_curve_40 : decode cX12_curve 40 = .ok (.lload 17, 2) := by decide +kernel
theorem dX12_curve_42 : decode cX12_curve 42 = .ok (.ladd, 1) := by decide +kernel
theorem dX12_curve_43 : decode cX12_curve 43 = .ok (.lstore 19, 2) := by decide +kernel
theorem dX12_curve_45 : decode cX12_curve 45 = .ok (.lload 19, 2) := by decide +kernel
theorem dX12_curve_47 : decode cX12_curve 47 = .ok (.lconst 0, 1) := by decide +kernel
theorem dX12_curve_48 : decode cX12_curve 48 = .ok (.lcmp, 1) := by decide +kernel
theorem dX12_curve_49 : decode cX12_curve 49 = .ok (.ifCond .ne 98, 3) := by decide +kernel
theorem dX12_curve_52 : decode cX12_curve 52 = .ok (.lload 13, 2) := by decide +kernel
theorem dX12_curve_54 : decode cX12_curve 54 = .ok (.lconst 0, 1) := by decide +kernel
theorem dX12_curve_55 : decode cX12_curve 55 = .ok (.lcmp, 1) := by decide +kernel
theorem dX12_curve_56 : decode cX12_curve 56 = .ok (.ifCond .ne 80, 3) := by decide +kernel
theorem dX12_curve_59 : decode cX12_curve 59 = .ok (.lload 15, 2) := by decide +kernel
theorem dX12_curve_61 : decode cX12_curve 61 = .ok (.lconst 0, 1) := by decide +kernel
theorem dX12_curve_62 : decode cX12_curve 62 = .ok (.lcmp, 1) := by decide +kernel
theorem dX12_curve_63 : decode cX12_curve 63 = .ok (.ifCond .ne 73, 3) := by decide +kernel
theorem dX12_curve_66 : decode cX12_curve 66 = .ok (.lload 17, 2) := by decide +kernel
theorem dX12_curve_68 : decode cX12_curve 68 = .ok (.lconst 0, 1) := by decide +kernel
theorem dX12_curve_69 : decode cX12_curve 69 = .ok (.lcmp, 1) := by decide +kernel
theorem dX12_curve_70 : decode cX12_curve 70 = .ok (.ifCond .ne 66, 3) := by decide +kernel
theorem dX12_curve_73 : decode cX12_curve 73 = .ok (.lload_n 1, 1) := by decide +kernel
theorem dX12_curve_74 : decode cX12_curve 74 = .ok (.lload 5, 2) := by decide +kernel
theorem dX12_curve_76 : decode cX12_curve 76 = .ok (.lcmp, 1) := by decide +kernel
theorem dX12_curve_77 : decode cX12_curve 77 = .ok (.ifCond .ne 14, 3) := by decide +kernel
theorem dX12_curve_80 : decode cX12_curve 80 = .ok (.lload_n 1, 1) := by decide +kernel
theorem dX12_curve_81 : decode cX12_curve 81 = .ok (.lload 9, 2) := by decide +kernel
theorem dX12_curve_83 : decode cX12_curve 83 = .ok (.lcmp, 1) := by decide +kernel
theorem dX12_curve_84 : decode cX12_curve 84 = .ok (.ifCond .ne 7, 3) := by decide +kernel
theorem dX12_curve_87 : decode cX12_curve 87 = .ok (.iconst 1, 1) := by decide +kernel
theorem dX12_curve_88 : decode cX12_curve 88 = .ok (.goto 4, 3) := by decide +kernel
theorem dX12_curve_91 : decode cX12_curve 91 = .ok (.iconst 0, 1) := by decide +kernel
theorem dX12_curve_92 : decode cX12_curve 92 = .ok (.istore 21, 2) := by decide +kernel
theorem dX12_curve_94 : decode cX12_curve 94 = .ok (.iload 21, 2) := by decide +kernel
theorem dX12_curve_96 : decode cX12_curve 96 = .ok (.ifCond .eq 23, 3) := by decide +kernel
theorem dX12_curve_99 : decode cX12_curve 99 = .ok (.lload_n 3, 1) := by decide +kernel
theorem dX12_curve_100 : decode cX12_curve 100 = .ok (.lload 7, 2) := by decide +kernel
theorem dX12_curve_102 : decode cX12_curve 102 = .ok (.lload 11, 2) := by decide +kernel
theorem dX12_curve_104 : decode cX12_curve 104 = .ok (.invokestatic 852, 3) := by decide +kernel
theorem dX12_curve_107 : decode cX12_curve 107 = .ok (.ifCond .eq 29, 3) := by decide +kernel
theorem dX12_curve_110 : decode cX12_curve 110 = .ok (.lload_n 1, 1) := by decide +kernel
theorem dX12_curve_111 : decode cX12_curve 111 = .ok (.lconst 0, 1) := by decide +kernel
theorem dX12_curve_112 : decode cX12_curve 112 = .ok (.lcmp, 1) := by decide +kernel
theorem dX12_curve_113 : decode cX12_curve 113 = .ok (.ifCond .ne 23, 3) := by decide +kernel
theorem dX12_curve_116 : decode cX12_curve 116 = .ok (.goto 14, 3) := by decide +kernel
theorem dX12_curve_119 : decode cX12_curve 119 = .ok (.lload_n 1, 1) := by decide +kernel
theorem dX12_curve_120 : decode cX12_curve 120 = .ok (.lload 5, 2) := by decide +kernel
theorem dX12_curve_122 : decode cX12_curve 122 = .ok (.lload 9, 2) := by decide +kernel
theorem dX12_curve_124 : decode cX12_curve 124 = .ok (.invokestatic 852, 3) := by decide +kernel
theorem dX12_curve_127 : decode cX12_curve 127 = .ok (.ifCond .eq 9, 3) := by decide +kernel
theorem dX12_curve_130 : decode cX12_curve 130 = .ok (.aload_n 0, 1) := by decide +kernel
theorem dX12_curve_131 : decode cX12_curve 131 = .ok (.iconst 1, 1) := by decide +kernel
theorem dX12_curve_132 : decode cX12_curve 132 = .ok (.putfield 846, 3) := by decide +kernel
theorem dX12_curve_135 : decode cX12_curve 135 = .ok (.return_, 1) := by decide +kernel
theorem dX12_curve_136 : decode cX12_curve 136 = .ok (.aload_n 0, 1) := by decide +kernel
theorem dX12_curve_137 : decode cX12_curve 137 = .ok (.lload_n 1, 1) := by decide +kernel
theorem dX12_curve_138 : decode cX12_curve 138 = .ok (.lload_n 3, 1) := by decide +kernel
theorem dX12_curve_139 : decode cX12_curve 139 = .ok (.lload 9, 2) := by decide +kernel
theorem dX12_curve_141 : decode cX12_curve 141 = .ok (.lload 11, 2) := by decide +kernel
theorem dX12_curve_143 : decode cX12_curve 143 = .ok (.invokevirtual 855, 3) := by decide +kernel
theorem dX12_curve_146 : decode cX12_curve 146 = .ok (.return_, 1) := by decide +kernel
theorem dX12_curve_147 : decode cX12_curve 147 = .ok (.lload 19, 2) := by decide +kernel
theorem dX12_curve_149 : decode cX12_curve 149 = .ok (.lconst 0, 1) := by decide +kernel
theorem dX12_curve_150 : decode cX12_curve 150 = .ok (.lcmp, 1) := by decide +kernel
theorem dX12_curve_151 : decode cX12_curve 151 = .ok (.ifCond .ge 18, 3) := by decide +kernel
theorem dX12_curve_154 : decode cX12_curve 154 = .ok (.lload 13, 2) := by decide +kernel
theorem dX12_curve_156 : decode cX12_curve 156 = .ok (.lneg, 1) := by decide +kernel
theorem dX12_curve_157 : decode cX12_curve 157 = .ok (.lstore 13, 2) := by decide +kernel
theorem dX12_curve_159 : decode cX12_curve 159 = .ok (.lload 15, 2) := by decide +kernel
theorem dX12_curve_161 : decode cX12_curve 161 = .ok (.lneg, 1) := by decide +kernel
theorem dX12_curve_162 : decode cX12_curve 162 = .ok (.lstore 15, 2) := by decide +kernel
theorem dX12_curve_164 : decode cX12_curve 164 = .ok (.lload 17, 2) := by decide +kernel
theorem dX12_curve_166 : decode cX12_curve 166 = .ok (.lneg, 1) := by decide +kernel
theorem dX12_curve_167 : decode cX12_curve 167 = .ok (.lstore 17, 2) := by decide +kernel
theorem dX12_curve_169 : decode cX12_curve 169 = .ok (.lload 13, 2) := by decide +kernel
theorem dX12_curve_171 : decode cX12_curve 171 = .ok (.lconst 0, 1) := by decide +kernel
theorem dX12_curve_172 : decode cX12_curve 172 = .ok (.lcmp, 1) := by decide +kernel
theorem dX12_curve_173 : decode cX12_curve 173 = .ok (.ifCond .lt 77, 3) := by decide +kernel
theorem dX12_curve_176 : decode cX12_curve 176 = .ok (.lload 15, 2) := by decide +kernel
theorem dX12_curve_178 : decode cX12_curve 178 = .ok (.lconst 0, 1) := by decide +kernel
theorem dX12_curve_179 : decode cX12_curve 179 = .ok (.lcmp, 1) := by decide +kernel
theorem dX12_curve_180 : decode cX12_curve 180 = .ok (.ifCond .lt 70, 3) := by decide +kernel
theorem dX12_curve_183 : decode cX12_curve 183 = .ok (.lload 17, 2) := by decide +kernel
theorem dX12_curve_185 : decode cX12_curve 185 = .ok (.lconst 0, 1) := by decide +kernel
theorem dX12_curve_186 : decode cX12_curve 186 = .ok (.lcmp, 1) := by decide +kernel
theorem dX12_curve_187 : decode cX12_curve 187 = .ok (.ifCond .lt 63, 3) := by decide +kernel
theorem dX12_curve_190 : decode cX12_curve 190 = .ok (.lload 15, 2) := by decide +kernel
theorem dX12_curve_192 : decode cX12_curve 192 = .ok (.lload 15, 2) := by decide +kernel
theorem dX12_curve_194 : decode cX12_curve 194 = .ok (.lmul, 1) := by decide +kernel
theorem dX12_curve_195 : decode cX12_curve 195 = .ok (.ldc2_w 228, 3) := by decide +kernel
theorem dX12_curve_198 : decode cX12_curve 198 = .ok (.lload 13, 2) := by decide +kernel
theorem dX12_curve_200 : decode cX12_curve 200 = .ok (.lmul, 1) := by decide +kernel
theorem dX12_curve_201 : decode cX12_curve 201 = .ok (.lload 17, 2) := by decide +kernel
theorem dX12_curve_203 : decode cX12_curve 203 = .ok (.lmul, 1) := by decide +kernel
theorem dX12_curve_204 : decode cX12_curve 204 = .ok (.lsub, 1) := by decide +kernel
theorem dX12_curve_205 : decode cX12_curve 205 = .ok (.lstore 21, 2) := by decide +kernel
theorem dX12_curve_207 : decode cX12_curve 207 = .ok (.lload 21, 2) := by decide +kernel
theorem dX12_curve_209 : decode cX12_curve 209 = .ok (.lconst 0, 1) := by decide +kernel
theorem dX12_curve_210 : decode cX12_curve 210 = .ok (.lcmp, 1) := by decide +kernel
theorem dX12_curve_211 : decode cX12_curve 211 = .ok (.ifCond .ne 9, 3) := by decide +kernel
theorem dX12_curve_214 : decode cX12_curve 214 = .ok (.aload_n 0, 1) := by decide +kernel
theorem dX12_curve_215 : decode cX12_curve 215 = .ok (.iconst 1, 1) := by decide +kernel
theorem dX12_curve_216 : decode cX12_curve 216 = .ok (.putfield 846, 3) := by decide +kernel
theorem dX12_curve_219 : decode cX12_curve 219 = .ok (.return_, 1) := by decide +kernel
theorem dX12_curve_220 : decode cX12_curve 220 = .ok (.lload 21, 2) := by decide +kernel
theorem dX12_curve_222 : decode cX12_curve 222 = .ok (.lconst 0, 1) := by decide +kernel
theorem dX12_curve_223 : decode cX12_curve 223 = .ok (.lcmp, 1) := by decide +kernel
theorem dX12_curve_224 : decode cX12_curve 224 = .ok (.ifCond .ge 26, 3) := by decide +kernel
theorem dX12_curve_227 : decode cX12_curve 227 = .ok (.aload_n 0, 1) := by decide +kernel
theorem dX12_curve_228 : decode cX12_curve 228 = .ok (.lload_n 1, 1) := by decide +kernel
theorem dX12_curve_229 : decode cX12_curve 229 = .ok (.lload_n 3, 1) := by decide +kernel
theorem dX12_curve_230 : decode cX12_curve 230 = .ok (.lload 5, 2) := by decide +kernel
theorem dX12_curve_232 : decode cX12_curve 232 = .ok (.lload 7, 2) := by decide +kernel
theorem dX12_curve_234 : decode cX12_curve 234 = .ok (.invokevirtual 855, 3) := by decide +kernel
theorem dX12_curve_237 : decode cX12_curve 237 = .ok (.aload_n 0, 1) := by decide +kernel
theorem dX12_curve_238 : decode cX12_curve 238 = .ok (.lload 5, 2) := by decide +kernel
theorem dX12_curve_240 : decode cX12_curve 240 = .ok (.lload 7, 2) := by decide +kernel
theorem dX12_curve_242 : decode cX12_curve 242 = .ok (.lload 9, 2) := by decide +kernel
theorem dX12_curve_244 : decode cX12_curve 244 = .ok (.lload 11, 2) := by decide +kernel
theorem dX12_curve_246 : decode cX12_curve 246 = .ok (.invokevirtual 855, 3) := by decide +kernel
theorem dX12_curve_249 : decode cX12_curve 249 = .ok (.return_, 1) := by decide +kernel
theorem dX12_curve_250 : decode cX12_curve 250 = .ok (.aload_n 0, 1) := by decide +kernel
theorem dX12_curve_251 : decode cX12_curve 251 = .ok (.lload_n 1, 1) := by decide +kernel
theorem dX12_curve_252 : decode cX12_curve 252 = .ok (.lload_n 3, 1) := by decide +kernel
theorem dX12_curve_253 : decode cX12_curve 253 = .ok (.lload 9, 2) := by decide +kernel
theorem dX12_curve_255 : decode cX12_curve 255 = .ok (.lload 11, 2) := by decide +kernel
theorem dX12_curve_257 : decode cX12_curve 257 = .ok (.invokevirtual 855, 3) := by decide +kernel
theorem dX12_curve_260 : decode cX12_curve 260 = .ok (.return_, 1) := by decide +kernel
def B_X12_curve_136  (l1 : Int64) (l3 : Int64) (l9 : Int64) (l11 : Int64) (V : sv_V) : Option sv_V := (F_X12_straight l1 l3 l9 l11 V).bind (fun V1 => some V1)
set_option maxRecDepth 20000 in
theorem tB_X12_curve_136 {g : sx_G} (hG : sx_Go g) {P : Option Value → sv_V → Prop} {Vr : sv_V} (hP : P none Vr)   {l1 : Int64} {l3 : Int64} {l9 : Int64} {l11 : Int64} {V : sv_V} (h : B_X12_curve_136  l1 l3 l9 l11 V = some Vr) : sv_N g qX12_curve 2 136 [(0, .ref 146), (1, .long l1), (3, .long l3), (9, .long l9), (11, .long l11)] [] V P := by
  unfold B_X12_curve_136 at h
  refine sx_aload_n (pc := 136) dX12_curve_136 sx_m0 ?_
  refine sx_lload_n (pc := 137) dX12_curve_137 sx_m1 ?_
  refine sx_lload_n (pc := 138) dX12_curve_138 sx_m2 ?_
  refine sx_lload (pc := 139) dX12_curve_139 sx_m3 ?_
  refine sx_lload (pc := 141) dX12_curve_141 sx_m4 ?_
  obtain ⟨V1, g2, h⟩ := sx_bnd h
  refine sv_cV (pc := 143) (y := qX12_straight) (o := none) (as := [.long l1, .long l3, .long l9, .long l11]) (V1 := V1) hG dX12_curve_143 l_X12_855 y0X12_straight yvX12_straight rfl (Nat.le_of_ble_eq_true rfl) lay_146 kr_12 (by decide) (Nat.le_of_ble_eq_true rfl) rfl rfl rfl (t_X12_straight hG ⟨rfl, rfl⟩ g2) ?_
  exact sv_vret (pc := 146) dX12_curve_146 rfl h hP
def B_X12_curve_92  (l1 : Int64) (l3 : Int64) (l5 : Int64) (l7 : Int64) (l9 : Int64) (l11 : Int64) (s0 : Int32) (V : sv_V) : Option sv_V := if s0 = 0 then ((F_X12_meetsZero l1 l5 l9 V).bind (fun (x6, V4) => if x6 = 0 then (B_X12_curve_136  l1 l3 l9 l11 V4) else (sx_let (sv_I V4 146 140 (1 : Int32)) (fun V8 => some V8)))) else ((F_X12_meetsZero l3 l7 l11 V).bind (fun (x11, V9) => if x11 = 0 then (B_X12_curve_136  l1 l3 l9 l11 V9) else (if (lg_cmp l1 (0 : Int64)) = 0 then (sx_let (sv_I V9 146 140 (1 : Int32)) (fun V14 => some V14)) else (B_X12_curve_136  l1 l3 l9 l11 V9))))
set_option maxRecDepth 20000 in
theorem tB_X12_curve_92 {g : sx_G} (hG : sx_Go g) {P : Option Value → sv_V → Prop} {Vr : sv_V} (hP : P none Vr)   {l1 : Int64} {l3 : Int64} {l5 : Int64} {l7 : Int64} {l9 : Int64} {l11 : Int64} {s0 : Int32} {V : sv_V} (h : B_X12_curve_92  l1 l3 l5 l7 l9 l11 s0 V = some Vr) : sv_N g qX12_curve 2 92 [(0, .ref 146), (1, .long l1), (3, .long l3), (5, .long l5), (7, .long l7), (9, .long l9), (11, .long l11)] [.int s0] V P := by
  unfold B_X12_curve_92 at h
  refine sx_istore (pc := 92) (lo' := [(21, .int s0), (0, .ref 146), (1, .long l1), (3, .long l3), (5, .long l5), (7, .long l7), (9, .long l9), (11, .long l11)]) dX12_curve_92 (by decide) rfl ?_
  refine sx_iload (pc := 94) dX12_curve_94 sx_m0 ?_
  refine sx_if_eq (pc := 96) (tgt := 119) dX12_curve_96 (by decide) (fun c3 => ?_) (fun c3 => ?_)
  · have h := sx_pos c3 h
    refine sx_lload_n (pc := 119) dX12_curve_119 sx_m2 ?_
    refine sx_lload (pc := 120) dX12_curve_120 sx_m4 ?_
    refine sx_lload (pc := 122) dX12_curve_122 sx_m6 ?_
    obtain ⟨⟨x6, V4⟩, g5, h⟩ := sx_bnd h
    refine sv_cS (pc := 124) (y := qX12_meetsZero) (o := (some (.int x6))) (as := [.long l1, .long l5, .long l9]) (V1 := V4) dX12_curve_124 l_X12_852 y0X12_meetsZero ysX12_meetsZero rfl (Nat.le_of_ble_eq_true rfl) (by decide) (Nat.le_of_ble_eq_true rfl) rfl rfl rfl (t_X12_meetsZero hG ⟨rfl, rfl⟩ g5) ?_
    refine sx_if_eq (pc := 127) (tgt := 136) dX12_curve_127 (by decide) (fun c7 => ?_) (fun c7 => ?_)
    · have h := sx_pos c7 h
      refine sx_wk (sx_s1 sx_m1 (sx_s1 sx_m2 (sx_s1 sx_m3 (sx_s1 sx_m6 (sx_s1 sx_m7 sx_s0))))) ?_
      exact tB_X12_curve_136 hG hP  h
    · have h := sx_neg c7 h
      refine sx_aload_n (pc := 130) dX12_curve_130 sx_m1 ?_
      refine sx_iconst (pc := 131) (v := 1) dX12_curve_131 (by decide) ?_
      obtain ⟨V8, hV8⟩ : ∃ z : sv_V, z = sv_I V4 146 140 (1 : Int32) := ⟨_, rfl⟩
      have h := sx_letE hV8 h
      refine sv_putZ (pc := 132) hG dX12_curve_132 f_12_846 lay_146 rfl rfl hV8 ?_
      exact sv_vret (pc := 135) dX12_curve_135 rfl h hP
  · have h := sx_neg c3 h
    refine sx_lload_n (pc := 99) dX12_curve_99 sx_m3 ?_
    refine sx_lload (pc := 100) dX12_curve_100 sx_m5 ?_
    refine sx_lload (pc := 102) dX12_curve_102 sx_m7 ?_
    obtain ⟨⟨x11, V9⟩, g10, h⟩ := sx_bnd h
    refine sv_cS (pc := 104) (y := qX12_meetsZero) (o := (some (.int x11))) (as := [.long l3, .long l7, .long l11]) (V1 := V9) dX12_curve_104 l_X12_852 y0X12_meetsZero ysX12_meetsZero rfl (Nat.le_of_ble_eq_true rfl) (by decide) (Nat.le_of_ble_eq_true rfl) rfl rfl rfl (t_X12_meetsZero hG ⟨rfl, rfl⟩ g10) ?_
    refine sx_if_eq (pc := 107) (tgt := 136) dX12_curve_107 (by decide) (fun c12 => ?_) (fun c12 => ?_)
    · have h := sx_pos c12 h
      refine sx_wk (sx_s1 sx_m1 (sx_s1 sx_m2 (sx_s1 sx_m3 (sx_s1 sx_m6 (sx_s1 sx_m7 sx_s0))))) ?_
      exact tB_X12_curve_136 hG hP  h
    · have h := sx_neg c12 h
      refine sx_lload_n (pc := 110) dX12_curve_110 sx_m2 ?_
      refine sx_lconst (pc := 111) (v := 0) dX12_curve_111 rfl ?_
      refine sx_lcmp (pc := 112) dX12_curve_112 ?_
      refine sx_if_ne (pc := 113) (tgt := 136) dX12_curve_113 (by decide) (fun c13 => ?_) (fun c13 => ?_)
      · have h := sx_neg c13 h
        refine sx_wk (sx_s1 sx_m1 (sx_s1 sx_m2 (sx_s1 sx_m3 (sx_s1 sx_m6 (sx_s1 sx_m7 sx_s0))))) ?_
        exact tB_X12_curve_136 hG hP  h
      · have h := sx_pos c13 h
        refine sx_goto (pc := 116) (tgt := 130) dX12_curve_116 (by decide) ?_
        refine sx_aload_n (pc := 130) dX12_curve_130 sx_m1 ?_
        refine sx_iconst (pc := 131) (v := 1) dX12_curve_131 (by decide) ?_
        obtain ⟨V14, hV14⟩ : ∃ z : sv_V, z = sv_I V9 146 140 (1 : Int32) := ⟨_, rfl⟩
        have h := sx_letE hV14 h
        refine sv_putZ (pc := 132) hG dX12_curve_132 f_12_846 lay_146 rfl rfl hV14 ?_
        exact sv_vret (pc := 135) dX12_curve_135 rfl h hP
def B_X12_curve_91  (l1 : Int64) (l3 : Int64) (l5 : Int64) (l7 : Int64) (l9 : Int64) (l11 : Int64) (V : sv_V) : Option sv_V := B_X12_curve_92  l1 l3 l5 l7 l9 l11 (0 : Int32) V
set_option maxRecDepth 20000 in
theorem tB_X12_curve_91 {g : sx_G} (hG : sx_Go g) {P : Option Value → sv_V → Prop} {Vr : sv_V} (hP : P none Vr)   {l1 : Int64} {l3 : Int64} {l5 : Int64} {l7 : Int64} {l9 : Int64} {l11 : Int64} {V : sv_V} (h : B_X12_curve_91  l1 l3 l5 l7 l9 l11 V = some Vr) : sv_N g qX12_curve 2 91 [(0, .ref 146), (1, .long l1), (3, .long l3), (5, .long l5), (7, .long l7), (9, .long l9), (11, .long l11)] [] V P := by
  unfold B_X12_curve_91 at h
  refine sx_iconst (pc := 91) (v := 0) dX12_curve_91 (by decide) ?_
  refine sx_wk (sx_s1 sx_m0 (sx_s1 sx_m1 (sx_s1 sx_m2 (sx_s1 sx_m3 (sx_s1 sx_m4 (sx_s1 sx_m5 (sx_s1 sx_m6 sx_s0))))))) ?_
  exact tB_X12_curve_92 hG hP  h
def B_X12_curve_250  (l1 : Int64) (l3 : Int64) (l9 : Int64) (l11 : Int64) (V : sv_V) : Option sv_V := (F_X12_straight l1 l3 l9 l11 V).bind (fun V15 => some V15)
set_option maxRecDepth 20000 in
theorem tB_X12_curve_250 {g : sx_G} (hG : sx_Go g) {P : Option Value → sv_V → Prop} {Vr : sv_V} (hP : P none Vr)   {l1 : Int64} {l3 : Int64} {l9 : Int64} {l11 : Int64} {V : sv_V} (h : B_X12_curve_250  l1 l3 l9 l11 V = some Vr) : sv_N g qX12_curve 2 250 [(0, .ref 146), (1, .long l1), (3, .long l3), (9, .long l9), (11, .long l11)] [] V P := by
  unfold B_X12_curve_250 at h
  refine sx_aload_n (pc := 250) dX12_curve_250 sx_m0 ?_
  refine sx_lload_n (pc := 251) dX12_curve_251 sx_m1 ?_
  refine sx_lload_n (pc := 252) dX12_curve_252 sx_m2 ?_
  refine sx_lload (pc := 253) dX12_curve_253 sx_m3 ?_
  refine sx_lload (pc := 255) dX12_curve_255 sx_m4 ?_
  obtain ⟨V15, g16, h⟩ := sx_bnd h
  refine sv_cV (pc := 257) (y := qX12_straight) (o := none) (as := [.long l1, .long l3, .long l9, .long l11]) (V1 := V15) hG dX12_curve_257 l_X12_855 y0X12_straight yvX12_straight rfl (Nat.le_of_ble_eq_true rfl) lay_146 kr_12 (by decide) (Nat.le_of_ble_eq_true rfl) rfl rfl rfl (t_X12_straight hG ⟨rfl, rfl⟩ g16) ?_
  exact sv_vret (pc := 260) dX12_curve_260 rfl h hP
def B_X12_curve_169  (l1 : Int64) (l3 : Int64) (l5 : Int64) (l7 : Int64) (l9 : Int64) (l11 : Int64) (l13 : Int64) (l15 : Int64) (l17 : Int64) (V : sv_V) : Option sv_V := if (lg_cmp l13 (0 : Int64)) < 0 then (B_X12_curve_250  l1 l3 l9 l11 V) else (if (lg_cmp l15 (0 : Int64)) < 0 then (B_X12_curve_250  l1 l3 l9 l11 V) else (if (lg_cmp l17 (0 : Int64)) < 0 then (B_X12_curve_250  l1 l3 l9 l11 V) else (sx_let ((l15 * l15) - (((4 : Int64) * l13) * l17)) (fun x20 => if (lg_cmp x20 (0 : Int64)) = 0 then (sx_let (sv_I V 146 140 (1 : Int32)) (fun V27 => some V27)) else (if 0 ≤ (lg_cmp x20 (0 : Int64)) then (B_X12_curve_250  l1 l3 l9 l11 V) else ((F_X12_straight l1 l3 l5 l7 V).bind (fun V23 => (F_X12_straight l5 l7 l9 l11 V23).bind (fun V25 => some V25))))))))
set_option maxRecDepth 20000 in
theorem tB_X12_curve_169 {g : sx_G} (hG : sx_Go g) {P : Option Value → sv_V → Prop} {Vr : sv_V} (hP : P none Vr)   {l1 : Int64} {l3 : Int64} {l5 : Int64} {l7 : Int64} {l9 : Int64} {l11 : Int64} {l13 : Int64} {l15 : Int64} {l17 : Int64} {V : sv_V} (h : B_X12_curve_169  l1 l3 l5 l7 l9 l11 l13 l15 l17 V = some Vr) : sv_N g qX12_curve 2 169 [(0, .ref 146), (1, .long l1), (3, .long l3), (5, .long l5), (7, .long l7), (9, .long l9), (11, .long l11), (13, .long l13), (15, .long l15), (17, .long l17)] [] V P := by
  unfold B_X12_curve_169 at h
  refine sx_lload (pc := 169) dX12_curve_169 sx_m7 ?_
  refine sx_lconst (pc := 171) (v := 0) dX12_curve_171 rfl ?_
  refine sx_lcmp (pc := 172) dX12_curve_172 ?_
  refine sx_if_lt (pc := 173) (tgt := 250) dX12_curve_173 (by decide) (fun c17 => ?_) (fun c17 => ?_)
  · have h := sx_pos c17 h
    refine sx_wk (sx_s1 sx_m0 (sx_s1 sx_m1 (sx_s1 sx_m2 (sx_s1 sx_m5 (sx_s1 sx_m6 sx_s0))))) ?_
    exact tB_X12_curve_250 hG hP  h
  · have h := sx_neg c17 h
    refine sx_lload (pc := 176) dX12_curve_176 sx_m8 ?_
    refine sx_lconst (pc := 178) (v := 0) dX12_curve_178 rfl ?_
    refine sx_lcmp (pc := 179) dX12_curve_179 ?_
    refine sx_if_lt (pc := 180) (tgt := 250) dX12_curve_180 (by decide) (fun c18 => ?_) (fun c18 => ?_)
    · have h := sx_pos c18 h
      refine sx_wk (sx_s1 sx_m0 (sx_s1 sx_m1 (sx_s1 sx_m2 (sx_s1 sx_m5 (sx_s1 sx_m6 sx_s0))))) ?_
      exact tB_X12_curve_250 hG hP  h
    · have h := sx_neg c18 h
      refine sx_lload (pc := 183) dX12_curve_183 sx_m9 ?_
      refine sx_lconst (pc := 185) (v := 0) dX12_curve_185 rfl ?_
      refine sx_lcmp (pc := 186) dX12_curve_186 ?_
      refine sx_if_lt (pc := 187) (tgt := 250) dX12_curve_187 (by decide) (fun c19 => ?_) (fun c19 => ?_)
      · have h := sx_pos c19 h
        refine sx_wk (sx_s1 sx_m0 (sx_s1 sx_m1 (sx_s1 sx_m2 (sx_s1 sx_m5 (sx_s1 sx_m6 sx_s0))))) ?_
        exact tB_X12_curve_250 hG hP  h
      · have h := sx_neg c19 h
        refine sx_lload (pc := 190) dX12_curve_190 sx_m8 ?_
        refine sx_lload (pc := 192) dX12_curve_192 sx_m8 ?_
        refine sx_lmul (pc := 194) dX12_curve_194 ?_
        refine sx_ldc2 (pc := 195) dX12_curve_195 k_X12_228 ?_
        refine sx_lload (pc := 198) dX12_curve_198 sx_m7 ?_
        refine sx_lmul (pc := 200) dX12_curve_200 ?_
        refine sx_lload (pc := 201) dX12_curve_201 sx_m9 ?_
        refine sx_lmul (pc := 203) dX12_curve_203 ?_
        refine sx_lsub (pc := 204) dX12_curve_204 ?_
        refine sv_tJ (fun x20 hx20 => ?_)
        have h := sx_letE hx20 h
        refine sx_lstore (pc := 205) (lo' := [(21, .long x20), (0, .ref 146), (1, .long l1), (3, .long l3), (5, .long l5), (7, .long l7), (9, .long l9), (11, .long l11), (13, .long l13), (15, .long l15), (17, .long l17)]) dX12_curve_205 (by decide) rfl ?_
        refine sx_lload (pc := 207) dX12_curve_207 sx_m0 ?_
        refine sx_lconst (pc := 209) (v := 0) dX12_curve_209 rfl ?_
        refine sx_lcmp (pc := 210) dX12_curve_210 ?_
        refine sx_if_ne (pc := 211) (tgt := 220) dX12_curve_211 (by decide) (fun c21 => ?_) (fun c21 => ?_)
        · have h := sx_neg c21 h
          refine sx_lload (pc := 220) dX12_curve_220 sx_m0 ?_
          refine sx_lconst (pc := 222) (v := 0) dX12_curve_222 rfl ?_
          refine sx_lcmp (pc := 223) dX12_curve_223 ?_
          refine sx_if_ge (pc := 224) (tgt := 250) dX12_curve_224 (by decide) (fun c22 => ?_) (fun c22 => ?_)
          · have h := sx_pos c22 h
            refine sx_wk (sx_s1 sx_m1 (sx_s1 sx_m2 (sx_s1 sx_m3 (sx_s1 sx_m6 (sx_s1 sx_m7 sx_s0))))) ?_
            exact tB_X12_curve_250 hG hP  h
          · have h := sx_neg c22 h
            refine sx_aload_n (pc := 227) dX12_curve_227 sx_m1 ?_
            refine sx_lload_n (pc := 228) dX12_curve_228 sx_m2 ?_
            refine sx_lload_n (pc := 229) dX12_curve_229 sx_m3 ?_
            refine sx_lload (pc := 230) dX12_curve_230 sx_m4 ?_
            refine sx_lload (pc := 232) dX12_curve_232 sx_m5 ?_
            obtain ⟨V23, g24, h⟩ := sx_bnd h
            refine sv_cV (pc := 234) (y := qX12_straight) (o := none) (as := [.long l1, .long l3, .long l5, .long l7]) (V1 := V23) hG dX12_curve_234 l_X12_855 y0X12_straight yvX12_straight rfl (Nat.le_of_ble_eq_true rfl) lay_146 kr_12 (by decide) (Nat.le_of_ble_eq_true rfl) rfl rfl rfl (t_X12_straight hG ⟨rfl, rfl⟩ g24) ?_
            refine sx_aload_n (pc := 237) dX12_curve_237 sx_m1 ?_
            refine sx_lload (pc := 238) dX12_curve_238 sx_m4 ?_
            refine sx_lload (pc := 240) dX12_curve_240 sx_m5 ?_
            refine sx_lload (pc := 242) dX12_curve_242 sx_m6 ?_
            refine sx_lload (pc := 244) dX12_curve_244 sx_m7 ?_
            obtain ⟨V25, g26, h⟩ := sx_bnd h
            refine sv_cV (pc := 246) (y := qX12_straight) (o := none) (as := [.long l5, .long l7, .long l9, .long l11]) (V1 := V25) hG dX12_curve_246 l_X12_855 y0X12_straight yvX12_straight rfl (Nat.le_of_ble_eq_true rfl) lay_146 kr_12 (by decide) (Nat.le_of_ble_eq_true rfl) rfl rfl rfl (t_X12_straight hG ⟨rfl, rfl⟩ g26) ?_
            exact sv_vret (pc := 249) dX12_curve_249 rfl h hP
        · have h := sx_pos c21 h
          refine sx_aload_n (pc := 214) dX12_curve_214 sx_m1 ?_
          refine sx_iconst (pc := 215) (v := 1) dX12_curve_215 (by decide) ?_
          obtain ⟨V27, hV27⟩ : ∃ z : sv_V, z = sv_I V 146 140 (1 : Int32) := ⟨_, rfl⟩
          have h := sx_letE hV27 h
          refine sv_putZ (pc := 216) hG dX12_curve_216 f_12_846 lay_146 rfl rfl hV27 ?_
          exact sv_vret (pc := 219) dX12_curve_219 rfl h hP
def F_X12_curve (l1 : Int64) (l3 : Int64) (l5 : Int64) (l7 : Int64) (l9 : Int64) (l11 : Int64) (V : sv_V) : Option sv_V := (F_X12_cross l5 l7 l9 l11 V).bind (fun (x30, V28) => (F_X12_cross l9 l11 l1 l3 V28).bind (fun (x33, V31) => (F_X12_cross l1 l3 l5 l7 V31).bind (fun (x36, V34) => sx_let ((x30 + x33) + x36) (fun x37 => if (lg_cmp x37 (0 : Int64)) = 0 then (if (lg_cmp x30 (0 : Int64)) = 0 then (if (lg_cmp x33 (0 : Int64)) = 0 then (if (lg_cmp x36 (0 : Int64)) = 0 then (if (lg_cmp l1 l5) = 0 then (if (lg_cmp l1 l9) = 0 then (B_X12_curve_92  l1 l3 l5 l7 l9 l11 (1 : Int32) V34) else (B_X12_curve_91  l1 l3 l5 l7 l9 l11 V34)) else (B_X12_curve_91  l1 l3 l5 l7 l9 l11 V34)) else (B_X12_curve_136  l1 l3 l9 l11 V34)) else (B_X12_curve_136  l1 l3 l9 l11 V34)) else (B_X12_curve_136  l1 l3 l9 l11 V34)) else (if 0 ≤ (lg_cmp x37 (0 : Int64)) then (B_X12_curve_169  l1 l3 l5 l7 l9 l11 x30 x33 x36 V34) else (sx_let (-x30) (fun x40 => sx_let (-x33) (fun x41 => sx_let (-x36) (fun x42 => B_X12_curve_169  l1 l3 l5 l7 l9 l11 x40 x41 x42 V34)))))))))
set_option maxRecDepth 20000 in
theorem t_X12_curve {g : sx_G} (hG : sx_Go g) {P : Option Value → sv_V → Prop} {Vr : sv_V} (hP : P none Vr) {l1 : Int64} {l3 : Int64} {l5 : Int64} {l7 : Int64} {l9 : Int64} {l11 : Int64} {V : sv_V} (h : F_X12_curve l1 l3 l5 l7 l9 l11 V = some Vr) : sv_N g qX12_curve 2 0 [(0, .ref 146), (1, .long l1), (3, .long l3), (5, .long l5), (7, .long l7), (9, .long l9), (11, .long l11)] [] V P := by
  unfold F_X12_curve at h
  refine sx_lload (pc := 0) dX12_curve_0 sx_m3 ?_
  refine sx_lload (pc := 2) dX12_curve_2 sx_m4 ?_
  refine sx_lload (pc := 4) dX12_curve_4 sx_m5 ?_
  refine sx_lload (pc := 6) dX12_curve_6 sx_m6 ?_
  obtain ⟨⟨x30, V28⟩, g29, h⟩ := sx_bnd h
  refine sv_cS (pc := 8) (y := qX12_cross) (o := (some (.long x30))) (as := [.long l5, .long l7, .long l9, .long l11]) (V1 := V28) dX12_curve_8 l_X12_838 y0X12_cross ysX12_cross rfl (Nat.le_of_ble_eq_true rfl) (by decide) (Nat.le_of_ble_eq_true rfl) rfl rfl rfl (t_X12_cross hG ⟨rfl, rfl⟩ g29) ?_
  refine sx_lstore (pc := 11) (lo' := [(13, .long x30), (0, .ref 146), (1, .long l1), (3, .long l3), (5, .long l5), (7, .long l7), (9, .long l9), (11, .long l11)]) dX12_curve_11 (by decide) rfl ?_
  refine sx_lload (pc := 13) dX12_curve_13 sx_m6 ?_
  refine sx_lload (pc := 15) dX12_curve_15 sx_m7 ?_
  refine sx_lload_n (pc := 17) dX12_curve_17 sx_m2 ?_
  refine sx_lload_n (pc := 18) dX12_curve_18 sx_m3 ?_
  obtain ⟨⟨x33, V31⟩, g32, h⟩ := sx_bnd h
  refine sv_cS (pc := 19) (y := qX12_cross) (o := (some (.long x33))) (as := [.long l9, .long l11, .long l1, .long l3]) (V1 := V31) dX12_curve_19 l_X12_838 y0X12_cross ysX12_cross rfl (Nat.le_of_ble_eq_true rfl) (by decide) (Nat.le_of_ble_eq_true rfl) rfl rfl rfl (t_X12_cross hG ⟨rfl, rfl⟩ g32) ?_
  refine sx_lstore (pc := 22) (lo' := [(15, .long x33), (13, .long x30), (0, .ref 146), (1, .long l1), (3, .long l3), (5, .long l5), (7, .long l7), (9, .long l9), (11, .long l11)]) dX12_curve_22 (by decide) rfl ?_
  refine sx_lload_n (pc := 24) dX12_curve_24 sx_m3 ?_
  refine sx_lload_n (pc := 25) dX12_curve_25 sx_m4 ?_
  refine sx_lload (pc := 26) dX12_curve_26 sx_m5 ?_
  refine sx_lload (pc := 28) dX12_curve_28 sx_m6 ?_
  obtain ⟨⟨x36, V34⟩, g35, h⟩ := sx_bnd h
  refine sv_cS (pc := 30) (y := qX12_cross) (o := (some (.long x36))) (as := [.long l1, .long l3, .long l5, .long l7]) (V1 := V34) dX12_curve_30 l_X12_838 y0X12_cross ysX12_cross rfl (Nat.le_of_ble_eq_true rfl) (by decide) (Nat.le_of_ble_eq_true rfl) rfl rfl rfl (t_X12_cross hG ⟨rfl, rfl⟩ g35) ?_
  refine sx_lstore (pc := 33) (lo' := [(17, .long x36), (15, .long x33), (13, .long x30), (0, .ref 146), (1, .long l1), (3, .long l3), (5, .long l5), (7, .long l7), (9, .long l9), (11, .long l11)]) dX12_curve_33 (by decide) rfl ?_
  refine sx_lload (pc := 35) dX12_curve_35 sx_m2 ?_
  refine sx_lload (pc := 37) dX12_curve_37 sx_m1 ?_
  refine sx_ladd (pc := 39) dX12_curve_39 ?_
  refine sx_lload (pc := 40) dX12_curve_40 sx_m0 ?_
  refine sx_ladd (pc := 42) dX12_curve_42 ?_
  refine sv_tJ (fun x37 hx37 => ?_)
  have h := sx_letE hx37 h
  refine sx_lstore (pc := 43) (lo' := [(19, .long x37), (17, .long x36), (15, .long x33), (13, .long x30), (0, .ref 146), (1, .long l1), (3, .long l3), (5, .long l5), (7, .long l7), (9, .long l9), (11, .long l11)]) dX12_curve_43 (by decide) rfl ?_
  refine sx_lload (pc := 45) dX12_curve_45 sx_m0 ?_
  refine sx_lconst (pc := 47) (v := 0) dX12_curve_47 rfl ?_
  refine sx_lcmp (pc := 48) dX12_curve_48 ?_
  refine sx_if_ne (pc := 49) (tgt := 147) dX12_curve_49 (by decide) (fun c38 => ?_) (fun c38 => ?_)
  · have h := sx_neg c38 h
    refine sx_lload (pc := 147) dX12_curve_147 sx_m0 ?_
    refine sx_lconst (pc := 149) (v := 0) dX12_curve_149 rfl ?_
    refine sx_lcmp (pc := 150) dX12_curve_150 ?_
    refine sx_if_ge (pc := 151) (tgt := 169) dX12_curve_151 (by decide) (fun c39 => ?_) (fun c39 => ?_)
    · have h := sx_pos c39 h
      refine sx_wk (sx_s1 sx_m4 (sx_s1 sx_m5 (sx_s1 sx_m6 (sx_s1 sx_m7 (sx_s1 sx_m8 (sx_s1 sx_m9 (sx_s1 sx_m10 (sx_s1 sx_m3 (sx_s1 sx_m2 (sx_s1 sx_m1 sx_s0)))))))))) ?_
      exact tB_X12_curve_169 hG hP  h
    · have h := sx_neg c39 h
      refine sx_lload (pc := 154) dX12_curve_154 sx_m3 ?_
      refine sx_lneg (pc := 156) dX12_curve_156 ?_
      refine sv_tJ (fun x40 hx40 => ?_)
      have h := sx_letE hx40 h
      refine sx_lstore (pc := 157) (lo' := [(13, .long x40), (19, .long x37), (17, .long x36), (15, .long x33), (0, .ref 146), (1, .long l1), (3, .long l3), (5, .long l5), (7, .long l7), (9, .long l9), (11, .long l11)]) dX12_curve_157 (by decide) rfl ?_
      refine sx_lload (pc := 159) dX12_curve_159 sx_m3 ?_
      refine sx_lneg (pc := 161) dX12_curve_161 ?_
      refine sv_tJ (fun x41 hx41 => ?_)
      have h := sx_letE hx41 h
      refine sx_lstore (pc := 162) (lo' := [(15, .long x41), (13, .long x40), (19, .long x37), (17, .long x36), (0, .ref 146), (1, .long l1), (3, .long l3), (5, .long l5), (7, .long l7), (9, .long l9), (11, .long l11)]) dX12_curve_162 (by decide) rfl ?_
      refine sx_lload (pc := 164) dX12_curve_164 sx_m3 ?_
      refine sx_lneg (pc := 166) dX12_curve_166 ?_
      refine sv_tJ (fun x42 hx42 => ?_)
      have h := sx_letE hx42 h
      refine sx_lstore (pc := 167) (lo' := [(17, .long x42), (15, .long x41), (13, .long x40), (19, .long x37), (0, .ref 146), (1, .long l1), (3, .long l3), (5, .long l5), (7, .long l7), (9, .long l9), (11, .long l11)]) dX12_curve_167 (by decide) rfl ?_
      refine sx_wk (sx_s1 sx_m4 (sx_s1 sx_m5 (sx_s1 sx_m6 (sx_s1 sx_m7 (sx_s1 sx_m8 (sx_s1 sx_m9 (sx_s1 sx_m10 (sx_s1 sx_m2 (sx_s1 sx_m1 (sx_s1 sx_m0 sx_s0)))))))))) ?_
      exact tB_X12_curve_169 hG hP  h
  · have h := sx_pos c38 h
    refine sx_lload (pc := 52) dX12_curve_52 sx_m3 ?_
    refine sx_lconst (pc := 54) (v := 0) dX12_curve_54 rfl ?_
    refine sx_lcmp (pc := 55) dX12_curve_55 ?_
    refine sx_if_ne (pc := 56) (tgt := 136) dX12_curve_56 (by decide) (fun c43 => ?_) (fun c43 => ?_)
    · have h := sx_neg c43 h
      refine sx_wk (sx_s1 sx_m4 (sx_s1 sx_m5 (sx_s1 sx_m6 (sx_s1 sx_m9 (sx_s1 sx_m10 sx_s0))))) ?_
      exact tB_X12_curve_136 hG hP  h
    · have h := sx_pos c43 h
      refine sx_lload (pc := 59) dX12_curve_59 sx_m2 ?_
      refine sx_lconst (pc := 61) (v := 0) dX12_curve_61 rfl ?_
      refine sx_lcmp (pc := 62) dX12_curve_62 ?_
      refine sx_if_ne (pc := 63) (tgt := 136) dX12_curve_63 (by decide) (fun c44 => ?_) (fun c44 => ?_)
      · have h := sx_neg c44 h
        refine sx_wk (sx_s1 sx_m4 (sx_s1 sx_m5 (sx_s1 sx_m6 (sx_s1 sx_m9 (sx_s1 sx_m10 sx_s0))))) ?_
        exact tB_X12_curve_136 hG hP  h
      · have h := sx_pos c44 h
        refine sx_lload (pc := 66) dX12_curve_66 sx_m1 ?_
        refine sx_lconst (pc := 68) (v := 0) dX12_curve_68 rfl ?_
        refine sx_lcmp (pc := 69) dX12_curve_69 ?_
        refine sx_if_ne (pc := 70) (tgt := 136) dX12_curve_70 (by decide) (fun c45 => ?_) (fun c45 => ?_)
        · have h := sx_neg c45 h
          refine sx_wk (sx_s1 sx_m4 (sx_s1 sx_m5 (sx_s1 sx_m6 (sx_s1 sx_m9 (sx_s1 sx_m10 sx_s0))))) ?_
          exact tB_X12_curve_136 hG hP  h
        · have h := sx_pos c45 h
          refine sx_lload_n (pc := 73) dX12_curve_73 sx_m5 ?_
          refine sx_lload (pc := 74) dX12_curve_74 sx_m7 ?_
          refine sx_lcmp (pc := 76) dX12_curve_76 ?_
          refine sx_if_ne (pc := 77) (tgt := 91) dX12_curve_77 (by decide) (fun c46 => ?_) (fun c46 => ?_)
          · have h := sx_neg c46 h
            refine sx_wk (sx_s1 sx_m4 (sx_s1 sx_m5 (sx_s1 sx_m6 (sx_s1 sx_m7 (sx_s1 sx_m8 (sx_s1 sx_m9 (sx_s1 sx_m10 sx_s0))))))) ?_
            exact tB_X12_curve_91 hG hP  h
          · have h := sx_pos c46 h
            refine sx_lload_n (pc := 80) dX12_curve_80 sx_m5 ?_
            refine sx_lload (pc := 81) dX12_curve_81 sx_m9 ?_
            refine sx_lcmp (pc := 83) dX12_curve_83 ?_
            refine sx_if_ne (pc := 84) (tgt := 91) dX12_curve_84 (by decide) (fun c47 => ?_) (fun c47 => ?_)
            · have h := sx_neg c47 h
              refine sx_wk (sx_s1 sx_m4 (sx_s1 sx_m5 (sx_s1 sx_m6 (sx_s1 sx_m7 (sx_s1 sx_m8 (sx_s1 sx_m9 (sx_s1 sx_m10 sx_s0))))))) ?_
              exact tB_X12_curve_91 hG hP  h
            · have h := sx_pos c47 h
              refine sx_iconst (pc := 87) (v := 1) dX12_curve_87 (by decide) ?_
              refine sx_goto (pc := 88) (tgt := 92) dX12_curve_88 (by decide) ?_
              refine sx_wk (sx_s1 sx_m4 (sx_s1 sx_m5 (sx_s1 sx_m6 (sx_s1 sx_m7 (sx_s1 sx_m8 (sx_s1 sx_m9 (sx_s1 sx_m10 sx_s0))))))) ?_
              exact tB_X12_curve_92 hG hP  h
theorem dX12_contour_0 : decode cX12_contour 0 = .ok (.aload_n 0, 1) := by decide +kernel
theorem dX12_contour_1 : decode cX12_contour 1 = .ok (.iconst 0, 1) := by decide +kernel
theorem dX12_contour_2 : decode cX12_contour 2 = .ok (.putfield 835, 3) := by decide +kernel
theorem dX12_contour_5 : decode cX12_contour 5 = .ok (.iload_n 1, 1) := by decide +kernel
theorem dX12_contour_6 : decode cX12_contour 6 = .ok (.istore 7, 2) := by decide +kernel
theorem dX12_contour_8 : decode cX12_contour 8 = .ok (.iload 7, 2) := by decide +kernel
theorem dX12_contour_10 : decode cX12_contour 10 = .ok (.iload_n 2, 1) := by decide +kernel
theorem dX12_contour_11 : decode cX12_contour 11 = .ok (.if_icmp .gt 114, 3) := by decide +kernel
theorem dX12_contour_14 : decode cX12_contour 14 = .ok (.iload 7, 2) := by decide +kernel
theorem dX12_contour_16 : decode cX12_contour 16 = .ok (.iload_n 2, 1) := by decide +kernel
theorem dX12_contour_17 : decode cX12_contour 17 = .ok (.if_icmp .ne 7, 3) := by decide +kernel
theorem dX12_contour_20 : decode cX12_contour 20 = .ok (.iload_n 1, 1) := by decide +kernel
theorem dX12_contour_21 : decode cX12_contour 21 = .ok (.goto 7, 3) := by decide +kernel
theorem dX12_contour_24 : decode cX12_contour 24 = .ok (.iload 7, 2) := by decide +kernel
theorem dX12_contour_26 : decode cX12_contour 26 = .ok (.iconst 1, 1) := by decide +kernel
theorem dX12_contour_27 : decode cX12_contour 27 = .ok (.iadd, 1) := by decide +kernel
theorem dX12_contour_28 : decode cX12_contour 28 = .ok (.istore 8, 2) := by decide +kernel
theorem dX12_contour_30 : decode cX12_contour 30 = .ok (.aload_n 0, 1) := by decide +kernel
theorem dX12_contour_31 : decode cX12_contour 31 = .ok (.iconst 2, 1) := by decide +kernel
theorem dX12_contour_32 : decode cX12_contour 32 = .ok (.aload_n 0, 1) := by decide +kernel
theorem dX12_contour_33 : decode cX12_contour 33 = .ok (.getfield 167, 3) := by decide +kernel
theorem dX12_contour_36 : decode cX12_contour 36 = .ok (.iload 7, 2) := by decide +kernel
theorem dX12_contour_38 : decode cX12_contour 38 = .ok (.iaload, 1) := by decide +kernel
theorem dX12_contour_39 : decode cX12_contour 39 = .ok (.imul, 1) := by decide +kernel
theorem dX12_contour_40 : decode cX12_contour 40 = .ok (.iconst 2, 1) := by decide +kernel
theorem dX12_contour_41 : decode cX12_contour 41 = .ok (.aload_n 0, 1) := by decide +kernel
theorem dX12_contour_42 : decode cX12_contour 42 = .ok (.getfield 170, 3) := by decide +kernel
theorem dX12_contour_45 : decode cX12_contour 45 = .ok (.iload 7, 2) := by decide +kernel
theorem dX12_contour_47 : decode cX12_contour 47 = .ok (.iaload, 1) := by decide +kernel
theorem dX12_contour_48 : decode cX12_contour 48 = .ok (.imul, 1) := by decide +kernel
theorem dX12_contour_49 : decode cX12_contour 49 = .ok (.aload_n 0, 1) := by decide +kernel
theorem dX12_contour_50 : decode cX12_contour 50 = .ok (.getfield 173, 3) := by decide +kernel
theorem dX12_contour_53 : decode cX12_contour 53 = .ok (.iload 7, 2) := by decide +kernel
theorem dX12_contour_55 : decode cX12_contour 55 = .ok (.baload, 1) := by decide +kernel
theorem dX12_contour_56 : decode cX12_contour 56 = .ok (.invokevirtual 859, 3) := by decide +kernel
theorem dX12_contour_59 : decode cX12_contour 59 = .ok (.aload_n 0, 1) := by decide +kernel
theorem dX12_contour_60 : decode cX12_contour 60 = .ok (.getfield 173, 3) := by decide +kernel
theorem dX12_contour_63 : decode cX12_contour 63 = .ok (.iload 7, 2) := by decide +kernel
theorem dX12_contour_65 : decode cX12_contour 65 = .ok (.baload, 1) := by decide +kernel
theorem dX12_contour_66 : decode cX12_contour 66 = .ok (.ifCond .ne 53, 3) := by decide +kernel
theorem dX12_contour_69 : decode cX12_contour 69 = .ok (.aload_n 0, 1) := by decide +kernel
theorem dX12_contour_70 : decode cX12_contour 70 = .ok (.getfield 173, 3) := by decide +kernel
theorem dX12_contour_73 : decode cX12_contour 73 = .ok (.iload 8, 2) := by decide +kernel
theorem dX12_contour_75 : decode cX12_contour 75 = .ok (.baload, 1) := by decide +kernel
theorem dX12_contour_76 : decode cX12_contour 76 = .ok (.ifCond .ne 43, 3) := by decide +kernel
theorem dX12_contour_79 : decode cX12_contour 79 = .ok (.iload_n 1, 1) := by decide +kernel
theorem dX12_contour_80 : decode cX12_contour 80 = .ok (.iload_n 2, 1) := by decide +kernel
theorem dX12_contour_81 : decode cX12_contour 81 = .ok (.if_icmp .eq 38, 3) := by decide +kernel
theorem dX12_contour_84 : decode cX12_contour 84 = .ok (.aload_n 0, 1) := by decide +kernel
theorem dX12_contour_85 : decode cX12_contour 85 = .ok (.aload_n 0, 1) := by decide +kernel
theorem dX12_contour_86 : decode cX12_contour 86 = .ok (.getfield 167, 3) := by decide +kernel
theorem dX12_contour_89 : decode cX12_contour 89 = .ok (.iload 7, 2) := by decide +kernel
theorem dX12_contour_91 : decode cX12_contour 91 = .ok (.iaload, 1) := by decide +kernel
theorem dX12_contour_92 : decode cX12_contour 92 = .ok (.aload_n 0, 1) := by decide +kernel
theorem dX12_contour_93 : decode cX12_contour 93 = .ok (.getfield 167, 3) := by decide +kernel
theorem dX12_contour_96 : decode cX12_contour 96 = .ok (.iload 8, 2) := by decide +kernel
theorem dX12_contour_98 : decode cX12_contour 98 = .ok (.iaload, 1) := by decide +kernel
theorem dX12_contour_99 : decode cX12_contour 99 = .ok (.iadd, 1) := by decide +kernel
theorem dX12_contour_100 : decode cX12_contour 100 = .ok (.aload_n 0, 1) := by decide +kernel
theorem dX12_contour_101 : decode cX12_contour 101 = .ok (.getfield 170, 3) := by decide +kernel
theorem dX12_contour_104 : decode cX12_contour 104 = .ok (.iload 7, 2) := by decide +kernel
theorem dX12_contour_106 : decode cX12_contour 106 = .ok (.iaload, 1) := by decide +kernel
theorem dX12_contour_107 : decode cX12_contour 107 = .ok (.aload_n 0, 1) := by decide +kernel
theorem dX12_contour_108 : decode cX12_contour 108 = .ok (.getfield 170, 3) := by decide +kernel
theorem dX12_contour_111 : decode cX12_contour 111 = .ok (.iload 8, 2) := by decide +kernel
theorem dX12_contour_113 : decode cX12_contour 113 = .ok (.iaload, 1) := by decide +kernel
theorem dX12_contour_114 : decode cX12_contour 114 = .ok (.iadd, 1) := by decide +kernel
theorem dX12_contour_115 : decode cX12_contour 115 = .ok (.iconst 1, 1) := by decide +kernel
theorem dX12_contour_116 : decode cX12_contour 116 = .ok (.invokevirtual 859, 3) := by decide +kernel
theorem dX12_contour_119 : decode cX12_contour 119 = .ok (.iinc 7 1, 3) := by decide +kernel
theorem dX12_contour_122 : decode cX12_contour 122 = .ok (.goto (-114), 3) := by decide +kernel
theorem dX12_contour_125 : decode cX12_contour 125 = .ok (.iload_n 1, 1) := by decide +kernel
theorem dX12_contour_126 : decode cX12_contour 126 = .ok (.iload_n 2, 1) := by decide +kernel
theorem dX12_contour_127 : decode cX12_contour 127 = .ok (.if_icmp .ne 45, 3) := by decide +kernel
theorem dX12_contour_130 : decode cX12_contour 130 = .ok (.aload_n 0, 1) := by decide +kernel
theorem dX12_contour_131 : decode cX12_contour 131 = .ok (.aload_n 0, 1) := by decide +kernel
theorem dX12_contour_132 : decode cX12_contour 132 = .ok (.getfield 846, 3) := by decide +kernel
theorem dX12_contour_135 : decode cX12_contour 135 = .ok (.ifCond .ne 28, 3) := by decide +kernel
theorem dX12_contour_138 : decode cX12_contour 138 = .ok (.aload_n 0, 1) := by decide +kernel
theorem dX12_contour_139 : decode cX12_contour 139 = .ok (.getfield 179, 3) := by decide +kernel
theorem dX12_contour_142 : decode cX12_contour 142 = .ok (.iconst 0, 1) := by decide +kernel
theorem dX12_contour_143 : decode cX12_contour 143 = .ok (.iaload, 1) := by decide +kernel
theorem dX12_contour_144 : decode cX12_contour 144 = .ok (.i2l, 1) := by decide +kernel
theorem dX12_contour_145 : decode cX12_contour 145 = .ok (.lload_n 3, 1) := by decide +kernel
theorem dX12_contour_146 : decode cX12_contour 146 = .ok (.lcmp, 1) := by decide +kernel
theorem dX12_contour_147 : decode cX12_contour 147 = .ok (.ifCond .ne 20, 3) := by decide +kernel
theorem dX12_contour_150 : decode cX12_contour 150 = .ok (.aload_n 0, 1) := by decide +kernel
theorem dX12_contour_151 : decode cX12_contour 151 = .ok (.getfield 182, 3) := by decide +kernel
theorem dX12_contour_154 : decode cX12_contour 154 = .ok (.iconst 0, 1) := by decide +kernel
theorem dX12_contour_155 : decode cX12_contour 155 = .ok (.iaload, 1) := by decide +kernel
theorem dX12_contour_156 : decode cX12_contour 156 = .ok (.i2l, 1) := by decide +kernel
theorem dX12_contour_157 : decode cX12_contour 157 = .ok (.lload 5, 2) := by decide +kernel
theorem dX12_contour_159 : decode cX12_contour 159 = .ok (.lcmp, 1) := by decide +kernel
theorem dX12_contour_160 : decode cX12_contour 160 = .ok (.ifCond .ne 7, 3) := by decide +kernel
theorem dX12_contour_163 : decode cX12_contour 163 = .ok (.iconst 1, 1) := by decide +kernel
theorem dX12_contour_164 : decode cX12_contour 164 = .ok (.goto 4, 3) := by decide +kernel
theorem dX12_contour_167 : decode cX12_contour 167 = .ok (.iconst 0, 1) := by decide +kernel
theorem dX12_contour_168 : decode cX12_contour 168 = .ok (.putfield 846, 3) := by decide +kernel
theorem dX12_contour_171 : decode cX12_contour 171 = .ok (.return_, 1) := by decide +kernel
theorem dX12_contour_172 : decode cX12_contour 172 = .ok (.iconst 0, 1) := by decide +kernel
theorem dX12_contour_173 : decode cX12_contour 173 = .ok (.istore 7, 2) := by decide +kernel
theorem dX12_contour_175 : decode cX12_contour 175 = .ok (.aload_n 0, 1) := by decide +kernel
theorem dX12_contour_176 : decode cX12_contour 176 = .ok (.getfield 185, 3) := by decide +kernel
theorem dX12_contour_179 : decode cX12_contour 179 = .ok (.iload 7, 2) := by decide +kernel
theorem dX12_contour_181 : decode cX12_contour 181 = .ok (.baload, 1) := by decide +kernel
theorem dX12_contour_182 : decode cX12_contour 182 = .ok (.ifCond .ne 9, 3) := by decide +kernel
theorem dX12_contour_185 : decode cX12_contour 185 = .ok (.iinc 7 1, 3) := by decide +kernel
theorem dX12_contour_188 : decode cX12_contour 188 = .ok (.goto (-13), 3) := by decide +kernel
theorem dX12_contour_191 : decode cX12_contour 191 = .ok (.iconst 0, 1) := by decide +kernel
theorem dX12_contour_192 : decode cX12_contour 192 = .ok (.istore 8, 2) := by decide +kernel
theorem dX12_contour_194 : decode cX12_contour 194 = .ok (.iload 8, 2) := by decide +kernel
theorem dX12_contour_196 : decode cX12_contour 196 = .ok (.aload_n 0, 1) := by decide +kernel
theorem dX12_contour_197 : decode cX12_contour 197 = .ok (.getfield 835, 3) := by decide +kernel
theorem dX12_contour_200 : decode cX12_contour 200 = .ok (.if_icmp .ge 172, 3) := by decide +kernel
theorem dX12_contour_203 : decode cX12_contour 203 = .ok (.iload 7, 2) := by decide +kernel
theorem dX12_contour_205 : decode cX12_contour 205 = .ok (.iload 8, 2) := by decide +kernel
theorem dX12_contour_207 : decode cX12_contour 207 = .ok (.iadd, 1) := by decide +kernel
theorem dX12_contour_208 : decode cX12_contour 208 = .ok (.aload_n 0, 1) := by decide +kernel
theorem dX12_contour_209 : decode cX12_contour 209 = .ok (.getfield 835, 3) := by decide +kernel
theorem dX12_contour_212 : decode cX12_contour 212 = .ok (.irem, 1) := by decide +kernel
theorem dX12_contour_213 : decode cX12_contour 213 = .ok (.istore 9, 2) := by decide +kernel
theorem dX12_contour_215 : decode cX12_contour 215 = .ok (.iload 9, 2) := by decide +kernel
theorem dX12_contour_217 : decode cX12_contour 217 = .ok (.iconst 1, 1) := by decide +kernel
theorem dX12_contour_218 : decode cX12_contour 218 = .ok (.iadd, 1) := by decide +kernel
theorem dX12_contour_219 : decode cX12_contour 219 = .ok (.aload_n 0, 1) := by decide +kernel
theorem dX12_contour_220 : decode cX12_contour 220 = .ok (.getfield 835, 3) := by decide +kernel
theorem dX12_contour_223 : decode cX12_contour 223 = .ok (.irem, 1) := by decide +kernel
theorem dX12_contour_224 : decode cX12_contour 224 = .ok (.istore 10, 2) := by decide +kernel
theorem dX12_contour_226 : decode cX12_contour 226 = .ok (.iload 9, 2) := by decide +kernel
theorem dX12_contour_228 : decode cX12_contour 228 = .ok (.iconst 2, 1) := by decide +kernel
theorem dX12_contour_229 : decode cX12_contour 229 = .ok (.iadd, 1) := by decide +kernel
theorem dX12_contour_230 : decode cX12_contour 230 = .ok (.aload_n 0, 1) := by decide +kernel
theorem dX12_contour_231 : decode cX12_contour 231 = .ok (.getfield 835, 3) := by decide +kernel
theorem dX12_contour_234 : decode cX12_contour 234 = .ok (.irem, 1) := by decide +kernel
theorem dX12_contour_235 : decode cX12_contour 235 = .ok (.istore 11, 2) := by decide +kernel
theorem dX12_contour_237 : decode cX12_contour 237 = .ok (.aload_n 0, 1) := by decide +kernel
theorem dX12_contour_238 : decode cX12_contour 238 = .ok (.getfield 185, 3) := by decide +kernel
theorem dX12_contour_241 : decode cX12_contour 241 = .ok (.iload 10, 2) := by decide +kernel
theorem dX12_contour_243 : decode cX12_contour 243 = .ok (.baload, 1) := by decide +kernel
theorem dX12_contour_244 : decode cX12_contour 244 = .ok (.ifCond .eq 55, 3) := by decide +kernel
theorem dX12_contour_247 : decode cX12_contour 247 = .ok (.aload_n 0, 1) := by decide +kernel
theorem dX12_contour_248 : decode cX12_contour 248 = .ok (.aload_n 0, 1) := by decide +kernel
theorem dX12_contour_249 : decode cX12_contour 249 = .ok (.getfield 179, 3) := by decide +kernel
theorem dX12_contour_252 : decode cX12_contour 252 = .ok (.iload 9, 2) := by decide +kernel
theorem dX12_contour_254 : decode cX12_contour 254 = .ok (.iaload, 1) := by decide +kernel
theorem dX12_contour_255 : decode cX12_contour 255 = .ok (.i2l, 1) := by decide +kernel
theorem dX12_contour_256 : decode cX12_contour 256 = .ok (.lload_n 3, 1) := by decide +kernel
theorem dX12_contour_257 : decode cX12_contour 257 = .ok (.lsub, 1) := by decide +kernel
theorem dX12_contour_258 : decode cX12_contour 258 = .ok (.aload_n 0, 1) := by decide +kernel
theorem dX12_contour_259 : decode cX12_contour 259 = .ok (.getfield 182, 3) := by decide +kernel
theorem dX12_contour_262 : decode cX12_contour 262 = .ok (.iload 9, 2) := by decide +kernel
theorem dX12_contour_264 : decode cX12_contour 264 = .ok (.iaload, 1) := by decide +kernel
theorem dX12_contour_265 : decode cX12_contour 265 = .ok (.i2l, 1) := by decide +kernel
theorem dX12_contour_266 : decode cX12_contour 266 = .ok (.lload 5, 2) := by decide +kernel
theorem dX12_contour_268 : decode cX12_contour 268 = .ok (.lsub, 1) := by decide +kernel
theorem dX12_contour_269 : decode cX12_contour 269 = .ok (.aload_n 0, 1) := by decide +kernel
theorem dX12_contour_270 : decode cX12_contour 270 = .ok (.getfield 179, 3) := by decide +kernel
theorem dX12_contour_273 : decode cX12_contour 273 = .ok (.iload 10, 2) := by decide +kernel
theorem dX12_contour_275 : decode cX12_contour 275 = .ok (.iaload, 1) := by decide +kernel
theorem dX12_contour_276 : decode cX12_contour 276 = .ok (.i2l, 1) := by decide +kernel
theorem dX12_contour_277 : decode cX12_contour 277 = .ok (.lload_n 3, 1) := by decide +kernel
theorem dX12_contour_278 : decode cX12_contour 278 = .ok (.lsub, 1) := by decide +kernel
theorem dX12_contour_279 : decode cX12_contour 279 = .ok (.aload_n 0, 1) := by decide +kernel
theorem dX12_contour_280 : decode cX12_contour 280 = .ok (.getfield 182, 3) := by decide +kernel
theorem dX12_contour_283 : decode cX12_contour 283 = .ok (.iload 10, 2) := by decide +kernel
theorem dX12_contour_285 : decode cX12_contour 285 = .ok (.iaload, 1) := by decide +kernel
theorem dX12_contour_286 : decode cX12_contour 286 = .ok (.i2l, 1) := by decide +kernel
theorem dX12_contour_287 : decode cX12_contour 287 = .ok (.lload 5, 2) := by decide +kernel
theorem dX12_contour_289 : decode cX12_contour 289 = .ok (.lsub, 1) := by decide +kernel
theorem dX12_contour_290 : decode cX12_contour 290 = .ok (.invokevirtual 855, 3) := by decide +kernel
theorem dX12_contour_293 : decode cX12_contour 293 = .ok (.iinc 8 1, 3) := by decide +kernel
theorem dX12_contour_296 : decode cX12_contour 296 = .ok (.goto 73, 3) := by decide +kernel
theorem dX12_contour_299 : decode cX12_contour 299 = .ok (.aload_n 0, 1) := by decide +kernel
theorem dX12_contour_300 : decode cX12_contour 300 = .ok (.aload_n 0, 1) := by decide +kernel
theorem dX12_contour_301 : decode cX12_contour 301 = .ok (.getfield 179, 3) := by decide +kernel
theorem dX12_contour_304 : decode cX12_contour 304 = .ok (.iload 9, 2) := by decide +kernel
theorem dX12_contour_306 : decode cX12_contour 306 = .ok (.iaload, 1) := by decide +kernel
theorem dX12_contour_307 : decode cX12_contour 307 = .ok (.i2l, 1) := by decide +kernel
theorem dX12_contour_308 : decode cX12_contour 308 = .ok (.lload_n 3, 1) := by decide +kernel
theorem dX12_contour_309 : decode cX12_contour 309 = .ok (.lsub, 1) := by decide +kernel
theorem dX12_contour_310 : decode cX12_contour 310 = .ok (.aload_n 0, 1) := by decide +kernel
theorem dX12_contour_311 : decode cX12_contour 311 = .ok (.getfield 182, 3) := by decide +kernel
theorem dX12_contour_314 : decode cX12_contour 314 = .ok (.iload 9, 2) := by decide +kernel
theorem dX12_contour_316 : decode cX12_contour 316 = .ok (.iaload, 1) := by decide +kernel
theorem dX12_contour_317 : decode cX12_contour 317 = .ok (.i2l, 1) := by decide +kernel
theorem dX12_contour_318 : decode cX12_contour 318 = .ok (.lload 5, 2) := by decide +kernel
theorem dX12_contour_320 : decode cX12_contour 320 = .ok (.lsub, 1) := by decide +kernel
theorem dX12_contour_321 : decode cX12_contour 321 = .ok (.aload_n 0, 1) := by decide +kernel
theorem dX12_contour_322 : decode cX12_contour 322 = .ok (.getfield 179, 3) := by decide +kernel
theorem dX12_contour_325 : decode cX12_contour 325 = .ok (.iload 10, 2) := by decide +kernel
theorem dX12_contour_327 : decode cX12_contour 327 = .ok (.iaload, 1) := by decide +kernel
theorem dX12_contour_328 : decode cX12_contour 328 = .ok (.i2l, 1) := by decide +kernel
theorem dX12_contour_329 : decode cX12_contour 329 = .ok (.lload_n 3, 1) := by decide +kernel
theorem dX12_contour_330 : decode cX12_contour 330 = .ok (.lsub, 1) := by decide +kernel
theorem dX12_contour_331 : decode cX12_contour 331 = .ok (.aload_n 0, 1) := by decide +kernel
theorem dX12_contour_332 : decode cX12_contour 332 = .ok (.getfield 182, 3) := by decide +kernel
theorem dX12_contour_335 : decode cX12_contour 335 = .ok (.iload 10, 2) := by decide +kernel
theorem dX12_contour_337 : decode cX12_contour 337 = .ok (.iaload, 1) := by decide +kernel
theorem dX12_contour_338 : decode cX12_contour 338 = .ok (.i2l, 1) := by decide +kernel
theorem dX12_contour_339 : decode cX12_contour 339 = .ok (.lload 5, 2) := by decide +kernel
theorem dX12_contour_341 : decode cX12_contour 341 = .ok (.lsub, 1) := by decide +kernel
theorem dX12_contour_342 : decode cX12_contour 342 = .ok (.aload_n 0, 1) := by decide +kernel
theorem dX12_contour_343 : decode cX12_contour 343 = .ok (.getfield 179, 3) := by decide +kernel
theorem dX12_contour_346 : decode cX12_contour 346 = .ok (.iload 11, 2) := by decide +kernel
theorem dX12_contour_348 : decode cX12_contour 348 = .ok (.iaload, 1) := by decide +kernel
theorem dX12_contour_349 : decode cX12_contour 349 = .ok (.i2l, 1) := by decide +kernel
theorem dX12_contour_350 : decode cX12_contour 350 = .ok (.lload_n 3, 1) := by decide +kernel
theorem dX12_contour_351 : decode cX12_contour 351 = .ok (.lsub, 1) := by decide +kernel
theorem dX12_contour_352 : decode cX12_contour 352 = .ok (.aload_n 0, 1) := by decide +kernel
theorem dX12_contour_353 : decode cX12_contour 353 = .ok (.getfield 182, 3) := by decide +kernel
theorem dX12_contour_356 : decode cX12_contour 356 = .ok (.iload 11, 2) := by decide +kernel
theorem dX12_contour_358 : decode cX12_contour 358 = .ok (.iaload, 1) := by decide +kernel
theorem dX12_contour_359 : decode cX12_contour 359 = .ok (.i2l, 1) := by decide +kernel
theorem dX12_contour_360 : decode cX12_contour 360 = .ok (.lload 5, 2) := by decide +kernel
theorem dX12_contour_362 : decode cX12_contour 362 = .ok (.lsub, 1) := by decide +kernel
theorem dX12_contour_363 : decode cX12_contour 363 = .ok (.invokevirtual 863, 3) := by decide +kernel
theorem dX12_contour_366 : decode cX12_contour 366 = .ok (.iinc 8 2, 3) := by decide +kernel
theorem dX12_contour_369 : decode cX12_contour 369 = .ok (.goto (-175), 3) := by decide +kernel
theorem dX12_contour_372 : decode cX12_contour 372 = .ok (.return_, 1) := by decide +kernel
def B_X12_contour_119 (N : Nat) (k8 : Int32 → Int32 → Int64 → Int64 → Int32 → sv_V → Option sv_V) (l1 : Int32) (l2 : Int32) (l3 : Int64) (l5 : Int64) (l7 : Int32) (V : sv_V) : Option sv_V := sx_let (l7 + 1) (fun x1 => k8 l1 l2 l3 l5 x1 V)
set_option maxRecDepth 20000 in
theorem tB_X12_contour_119 {g : sx_G} (hG : sx_Go g) {P : Option Value → sv_V → Prop} {Vr : sv_V} (hP : P none Vr) {N : Nat} {k8 : Int32 → Int32 → Int64 → Int64 → Int32 → sv_V → Option sv_V} (hk8 : ∀ (l1 : Int32) (l2 : Int32) (l3 : Int64) (l5 : Int64) (l7 : Int32) (V : sv_V), k8 l1 l2 l3 l5 l7 V = some Vr → sv_N g qX12_contour 3 8 [(0, .ref 146), (1, .int l1), (2, .int l2), (3, .long l3), (5, .long l5), (7, .int l7)] [] V P) {l1 : Int32} {l2 : Int32} {l3 : Int64} {l5 : Int64} {l7 : Int32} {V : sv_V} (h : B_X12_contour_119 N k8 l1 l2 l3 l5 l7 V = some Vr) : sv_N g qX12_contour 3 119 [(0, .ref 146), (1, .int l1), (2, .int l2), (3, .long l3), (5, .long l5), (7, .int l7)] [] V P := by
  unfold B_X12_contour_119 at h
  obtain ⟨x1, hx1⟩ : ∃ z : Int32, z = l7 + 1 := ⟨_, rfl⟩
  have h := sx_letE hx1 h
  refine sx_iinc (pc := 119) (v := x1) (lo' := [(7, .int x1), (0, .ref 146), (1, .int l1), (2, .int l2), (3, .long l3), (5, .long l5)]) dX12_contour_119 sx_m5 (by rw [hx1]; rfl) (by decide) rfl ?_
  refine sx_goto (pc := 122) (tgt := 8) dX12_contour_122 (by decide) ?_
  refine sx_wk (sx_s1 sx_m1 (sx_s1 sx_m2 (sx_s1 sx_m3 (sx_s1 sx_m4 (sx_s1 sx_m5 (sx_s1 sx_m0 sx_s0)))))) ?_
  exact hk8 _ _ _ _ _ _ h
def B_X12_contour_28 (N : Nat) (k8 : Int32 → Int32 → Int64 → Int64 → Int32 → sv_V → Option sv_V) (l1 : Int32) (l2 : Int32) (l3 : Int64) (l5 : Int64) (l7 : Int32) (s0 : Int32) (V : sv_V) : Option sv_V := if sx_in l7 100 = true then if sx_in l7 100 = true then if sx_in l7 100 = true then (F_X12_node ((2 : Int32) * (V.1 197 l7.toNatClampNeg)) ((2 : Int32) * (V.1 198 l7.toNatClampNeg)) (V.1 199 l7.toNatClampNeg) V).bind (fun V5 => if sx_in l7 100 = true then if (V5.1 199 l7.toNatClampNeg) = 0 then (if sx_in s0 100 = true then if (V5.1 199 s0.toNatClampNeg) = 0 then (if l1 = l2 then (B_X12_contour_119 N k8 l1 l2 l3 l5 l7 V5) else (if sx_in l7 100 = true then if sx_in s0 100 = true then if sx_in l7 100 = true then if sx_in s0 100 = true then (F_X12_node ((V5.1 197 l7.toNatClampNeg) + (V5.1 197 s0.toNatClampNeg)) ((V5.1 198 l7.toNatClampNeg) + (V5.1 198 s0.toNatClampNeg)) (1 : Int32) V5).bind (fun V16 => B_X12_contour_119 N k8 l1 l2 l3 l5 l7 V16) else none else none else none else none)) else (B_X12_contour_119 N k8 l1 l2 l3 l5 l7 V5) else none) else (B_X12_contour_119 N k8 l1 l2 l3 l5 l7 V5) else none) else none else none else none
set_option maxRecDepth 20000 in
theorem tB_X12_contour_28 {g : sx_G} (hG : sx_Go g) {P : Option Value → sv_V → Prop} {Vr : sv_V} (hP : P none Vr) {N : Nat} {k8 : Int32 → Int32 → Int64 → Int64 → Int32 → sv_V → Option sv_V} (hk8 : ∀ (l1 : Int32) (l2 : Int32) (l3 : Int64) (l5 : Int64) (l7 : Int32) (V : sv_V), k8 l1 l2 l3 l5 l7 V = some Vr → sv_N g qX12_contour 3 8 [(0, .ref 146), (1, .int l1), (2, .int l2), (3, .long l3), (5, .long l5), (7, .int l7)] [] V P) {l1 : Int32} {l2 : Int32} {l3 : Int64} {l5 : Int64} {l7 : Int32} {s0 : Int32} {V : sv_V} (h : B_X12_contour_28 N k8 l1 l2 l3 l5 l7 s0 V = some Vr) : sv_N g qX12_contour 3 28 [(0, .ref 146), (1, .int l1), (2, .int l2), (3, .long l3), (5, .long l5), (7, .int l7)] [.int s0] V P := by
  unfold B_X12_contour_28 at h
  refine sx_istore (pc := 28) (lo' := [(8, .int s0), (0, .ref 146), (1, .int l1), (2, .int l2), (3, .long l3), (5, .long l5), (7, .int l7)]) dX12_contour_28 (by decide) rfl ?_
  refine sx_aload_n (pc := 30) dX12_contour_30 sx_m1 ?_
  refine sx_iconst (pc := 31) (v := 2) dX12_contour_31 (by decide) ?_
  refine sx_aload_n (pc := 32) dX12_contour_32 sx_m1 ?_
  refine sv_getA (pc := 33) hG dX12_contour_33 f_12_167 lay_146 rfl cr_146_130 ?_
  refine sx_iload (pc := 36) dX12_contour_36 sx_m6 ?_
  obtain ⟨g2, h⟩ := sx_grd h
  refine sv_iald (pc := 38) hG dX12_contour_38 lay_197 g2 ?_
  refine sx_imul (pc := 39) dX12_contour_39 ?_
  refine sx_iconst (pc := 40) (v := 2) dX12_contour_40 (by decide) ?_
  refine sx_aload_n (pc := 41) dX12_contour_41 sx_m1 ?_
  refine sv_getA (pc := 42) hG dX12_contour_42 f_12_170 lay_146 rfl cr_146_131 ?_
  refine sx_iload (pc := 45) dX12_contour_45 sx_m6 ?_
  obtain ⟨g3, h⟩ := sx_grd h
  refine sv_iald (pc := 47) hG dX12_contour_47 lay_198 g3 ?_
  refine sx_imul (pc := 48) dX12_contour_48 ?_
  refine sx_aload_n (pc := 49) dX12_contour_49 sx_m1 ?_
  refine sv_getA (pc := 50) hG dX12_contour_50 f_12_173 lay_146 rfl cr_146_132 ?_
  refine sx_iload (pc := 53) dX12_contour_53 sx_m6 ?_
  obtain ⟨g4, h⟩ := sx_grd h
  refine sv_zald (pc := 55) hG dX12_contour_55 lay_199 g4 ?_
  obtain ⟨V5, g6, h⟩ := sx_bnd h
  refine sv_cV (pc := 56) (y := qX12_node) (o := none) (as := [.int ((2 : Int32) * (V.1 197 l7.toNatClampNeg)), .int ((2 : Int32) * (V.1 198 l7.toNatClampNeg)), .int (V.1 199 l7.toNatClampNeg)]) (V1 := V5) hG dX12_contour_56 l_X12_859 y0X12_node yvX12_node rfl (Nat.le_of_ble_eq_true rfl) lay_146 kr_12 (by decide) (Nat.le_of_ble_eq_true rfl) rfl rfl rfl (t_X12_node hG ⟨rfl, rfl⟩ g6) ?_
  refine sx_aload_n (pc := 59) dX12_contour_59 sx_m1 ?_
  refine sv_getA (pc := 60) hG dX12_contour_60 f_12_173 lay_146 rfl cr_146_132 ?_
  refine sx_iload (pc := 63) dX12_contour_63 sx_m6 ?_
  obtain ⟨g7, h⟩ := sx_grd h
  refine sv_zald (pc := 65) hG dX12_contour_65 lay_199 g7 ?_
  refine sx_if_ne (pc := 66) (tgt := 119) dX12_contour_66 (by decide) (fun c8 => ?_) (fun c8 => ?_)
  · have h := sx_neg c8 h
    refine sx_wk (sx_s1 sx_m1 (sx_s1 sx_m2 (sx_s1 sx_m3 (sx_s1 sx_m4 (sx_s1 sx_m5 (sx_s1 sx_m6 sx_s0)))))) ?_
    exact tB_X12_contour_119 hG hP hk8 h
  · have h := sx_pos c8 h
    refine sx_aload_n (pc := 69) dX12_contour_69 sx_m1 ?_
    refine sv_getA (pc := 70) hG dX12_contour_70 f_12_173 lay_146 rfl cr_146_132 ?_
    refine sx_iload (pc := 73) dX12_contour_73 sx_m0 ?_
    obtain ⟨g9, h⟩ := sx_grd h
    refine sv_zald (pc := 75) hG dX12_contour_75 lay_199 g9 ?_
    refine sx_if_ne (pc := 76) (tgt := 119) dX12_contour_76 (by decide) (fun c10 => ?_) (fun c10 => ?_)
    · have h := sx_neg c10 h
      refine sx_wk (sx_s1 sx_m1 (sx_s1 sx_m2 (sx_s1 sx_m3 (sx_s1 sx_m4 (sx_s1 sx_m5 (sx_s1 sx_m6 sx_s0)))))) ?_
      exact tB_X12_contour_119 hG hP hk8 h
    · have h := sx_pos c10 h
      refine sx_iload_n (pc := 79) dX12_contour_79 sx_m2 ?_
      refine sx_iload_n (pc := 80) dX12_contour_80 sx_m3 ?_
      refine sx_icmp_eq (pc := 81) (tgt := 119) dX12_contour_81 (by decide) (fun c11 => ?_) (fun c11 => ?_)
      · have h := sx_pos c11 h
        refine sx_wk (sx_s1 sx_m1 (sx_s1 sx_m2 (sx_s1 sx_m3 (sx_s1 sx_m4 (sx_s1 sx_m5 (sx_s1 sx_m6 sx_s0)))))) ?_
        exact tB_X12_contour_119 hG hP hk8 h
      · have h := sx_neg c11 h
        refine sx_aload_n (pc := 84) dX12_contour_84 sx_m1 ?_
        refine sx_aload_n (pc := 85) dX12_contour_85 sx_m1 ?_
        refine sv_getA (pc := 86) hG dX12_contour_86 f_12_167 lay_146 rfl cr_146_130 ?_
        refine sx_iload (pc := 89) dX12_contour_89 sx_m6 ?_
        obtain ⟨g12, h⟩ := sx_grd h
        refine sv_iald (pc := 91) hG dX12_contour_91 lay_197 g12 ?_
        refine sx_aload_n (pc := 92) dX12_contour_92 sx_m1 ?_
        refine sv_getA (pc := 93) hG dX12_contour_93 f_12_167 lay_146 rfl cr_146_130 ?_
        refine sx_iload (pc := 96) dX12_contour_96 sx_m0 ?_
        obtain ⟨g13, h⟩ := sx_grd h
        refine sv_iald (pc := 98) hG dX12_contour_98 lay_197 g13 ?_
        refine sx_iadd (pc := 99) dX12_contour_99 ?_
        refine sx_aload_n (pc := 100) dX12_contour_100 sx_m1 ?_
        refine sv_getA (pc := 101) hG dX12_contour_101 f_12_170 lay_146 rfl cr_146_131 ?_
        refine sx_iload (pc := 104) dX12_contour_104 sx_m6 ?_
        obtain ⟨g14, h⟩ := sx_grd h
        refine sv_iald (pc := 106) hG dX12_contour_106 lay_198 g14 ?_
        refine sx_aload_n (pc := 107) dX12_contour_107 sx_m1 ?_
        refine sv_getA (pc := 108) hG dX12_contour_108 f_12_170 lay_146 rfl cr_146_131 ?_
        refine sx_iload (pc := 111) dX12_contour_111 sx_m0 ?_
        obtain ⟨g15, h⟩ := sx_grd h
        refine sv_iald (pc := 113) hG dX12_contour_113 lay_198 g15 ?_
        refine sx_iadd (pc := 114) dX12_contour_114 ?_
        refine sx_iconst (pc := 115) (v := 1) dX12_contour_115 (by decide) ?_
        obtain ⟨V16, g17, h⟩ := sx_bnd h
        refine sv_cV (pc := 116) (y := qX12_node) (o := none) (as := [.int ((V5.1 197 l7.toNatClampNeg) + (V5.1 197 s0.toNatClampNeg)), .int ((V5.1 198 l7.toNatClampNeg) + (V5.1 198 s0.toNatClampNeg)), .int (1 : Int32)]) (V1 := V16) hG dX12_contour_116 l_X12_859 y0X12_node yvX12_node rfl (Nat.le_of_ble_eq_true rfl) lay_146 kr_12 (by decide) (Nat.le_of_ble_eq_true rfl) rfl rfl rfl (t_X12_node hG ⟨rfl, rfl⟩ g17) ?_
        refine sx_wk (sx_s1 sx_m1 (sx_s1 sx_m2 (sx_s1 sx_m3 (sx_s1 sx_m4 (sx_s1 sx_m5 (sx_s1 sx_m6 sx_s0)))))) ?_
        exact tB_X12_contour_119 hG hP hk8 h
def B_X12_contour_163 (N : Nat)   (V : sv_V) : Option sv_V := sx_let (sv_I V 146 140 (1 : Int32)) (fun V18 => some V18)
set_option maxRecDepth 20000 in
theorem tB_X12_contour_163 {g : sx_G} (hG : sx_Go g) {P : Option Value → sv_V → Prop} {Vr : sv_V} (hP : P none Vr) {N : Nat}    {V : sv_V} (h : B_X12_contour_163 N   V = some Vr) : sv_N g qX12_contour 3 163 [] [.ref 146] V P := by
  unfold B_X12_contour_163 at h
  refine sx_iconst (pc := 163) (v := 1) dX12_contour_163 (by decide) ?_
  refine sx_goto (pc := 164) (tgt := 168) dX12_contour_164 (by decide) ?_
  obtain ⟨V18, hV18⟩ : ∃ z : sv_V, z = sv_I V 146 140 (1 : Int32) := ⟨_, rfl⟩
  have h := sx_letE hV18 h
  refine sv_putZ (pc := 168) hG dX12_contour_168 f_12_846 lay_146 rfl rfl hV18 ?_
  exact sv_vret (pc := 171) dX12_contour_171 rfl h hP
def B_X12_contour_369 (N : Nat) (k194 : Int64 → Int64 → Int32 → Int32 → sv_V → Option sv_V) (l3 : Int64) (l5 : Int64) (l7 : Int32) (l8 : Int32) (V : sv_V) : Option sv_V := k194 l3 l5 l7 l8 V
set_option maxRecDepth 20000 in
theorem tB_X12_contour_369 {g : sx_G} (hG : sx_Go g) {P : Option Value → sv_V → Prop} {Vr : sv_V} (hP : P none Vr) {N : Nat} {k194 : Int64 → Int64 → Int32 → Int32 → sv_V → Option sv_V} (hk194 : ∀ (l3 : Int64) (l5 : Int64) (l7 : Int32) (l8 : Int32) (V : sv_V), k194 l3 l5 l7 l8 V = some Vr → sv_N g qX12_contour 3 194 [(0, .ref 146), (3, .long l3), (5, .long l5), (7, .int l7), (8, .int l8)] [] V P) {l3 : Int64} {l5 : Int64} {l7 : Int32} {l8 : Int32} {V : sv_V} (h : B_X12_contour_369 N k194 l3 l5 l7 l8 V = some Vr) : sv_N g qX12_contour 3 369 [(0, .ref 146), (3, .long l3), (5, .long l5), (7, .int l7), (8, .int l8)] [] V P := by
  unfold B_X12_contour_369 at h
  refine sx_goto (pc := 369) (tgt := 194) dX12_contour_369 (by decide) ?_
  refine sx_wk (sx_s1 sx_m0 (sx_s1 sx_m1 (sx_s1 sx_m2 (sx_s1 sx_m3 (sx_s1 sx_m4 sx_s0))))) ?_
  exact hk194 _ _ _ _ _ h
def B_X12_contour_194 (N : Nat) (k194 : Int64 → Int64 → Int32 → Int32 → sv_V → Option sv_V) (l3 : Int64) (l5 : Int64) (l7 : Int32) (l8 : Int32) (V : sv_V) : Option sv_V := if (V.1 146 135) ≤ l8 then (some V) else (if ¬ (V.1 146 135) = 0 then sx_let ((l7 + l8) - (l7 + l8) / (V.1 146 135) * (V.1 146 135)) (fun x21 => if ¬ (V.1 146 135) = 0 then sx_let ((x21 + (1 : Int32)) - (x21 + (1 : Int32)) / (V.1 146 135) * (V.1 146 135)) (fun x23 => if ¬ (V.1 146 135) = 0 then sx_let ((x21 + (2 : Int32)) - (x21 + (2 : Int32)) / (V.1 146 135) * (V.1 146 135)) (fun x25 => if sx_in x23 220 = true then if (V.1 203 x23.toNatClampNeg) = 0 then (if sx_in x21 220 = true then if sx_in x21 220 = true then if sx_in x23 220 = true then if sx_in x23 220 = true then if sx_in x25 220 = true then if sx_in x25 220 = true then (F_X12_curve (((V.1 201 x21.toNatClampNeg).toInt64) - l3) (((V.1 202 x21.toNatClampNeg).toInt64) - l5) (((V.1 201 x23.toNatClampNeg).toInt64) - l3) (((V.1 202 x23.toNatClampNeg).toInt64) - l5) (((V.1 201 x25.toNatClampNeg).toInt64) - l3) (((V.1 202 x25.toNatClampNeg).toInt64) - l5) V).bind (fun V34 => sx_let (l8 + 2) (fun x36 => B_X12_contour_369 N k194 l3 l5 l7 x36 V34)) else none else none else none else none else none else none) else (if sx_in x21 220 = true then if sx_in x21 220 = true then if sx_in x23 220 = true then if sx_in x23 220 = true then (F_X12_straight (((V.1 201 x21.toNatClampNeg).toInt64) - l3) (((V.1 202 x21.toNatClampNeg).toInt64) - l5) (((V.1 201 x23.toNatClampNeg).toInt64) - l3) (((V.1 202 x23.toNatClampNeg).toInt64) - l5) V).bind (fun V41 => sx_let (l8 + 1) (fun x43 => B_X12_contour_369 N k194 l3 l5 l7 x43 V41)) else none else none else none else none) else none) else none) else none) else none)
set_option maxRecDepth 20000 in
theorem tB_X12_contour_194 {g : sx_G} (hG : sx_Go g) {P : Option Value → sv_V → Prop} {Vr : sv_V} (hP : P none Vr) {N : Nat} {k194 : Int64 → Int64 → Int32 → Int32 → sv_V → Option sv_V} (hk194 : ∀ (l3 : Int64) (l5 : Int64) (l7 : Int32) (l8 : Int32) (V : sv_V), k194 l3 l5 l7 l8 V = some Vr → sv_N g qX12_contour 3 194 [(0, .ref 146), (3, .long l3), (5, .long l5), (7, .int l7), (8, .int l8)] [] V P) {l3 : Int64} {l5 : Int64} {l7 : Int32} {l8 : Int32} {V : sv_V} (h : B_X12_contour_194 N k194 l3 l5 l7 l8 V = some Vr) : sv_N g qX12_contour 3 194 [(0, .ref 146), (3, .long l3), (5, .long l5), (7, .int l7), (8, .int l8)] [] V P := by
  unfold B_X12_contour_194 at h
  refine sx_iload (pc := 194) dX12_contour_194 sx_m4 ?_
  refine sx_aload_n (pc := 196) dX12_contour_196 sx_m0 ?_
  refine sv_getI (pc := 197) hG dX12_contour_197 f_12_835 lay_146 rfl ?_
  refine sx_icmp_ge (pc := 200) (tgt := 372) dX12_contour_200 (by decide) (fun c19 => ?_) (fun c19 => ?_)
  · have h := sx_pos c19 h
    exact sv_vret (pc := 372) dX12_contour_372 rfl h hP
  · have h := sx_neg c19 h
    refine sx_iload (pc := 203) dX12_contour_203 sx_m3 ?_
    refine sx_iload (pc := 205) dX12_contour_205 sx_m4 ?_
    refine sx_iadd (pc := 207) dX12_contour_207 ?_
    refine sx_aload_n (pc := 208) dX12_contour_208 sx_m0 ?_
    refine sv_getI (pc := 209) hG dX12_contour_209 f_12_835 lay_146 rfl ?_
    obtain ⟨g20, h⟩ := sx_grd h
    refine sx_irem (pc := 212) dX12_contour_212 g20 ?_
    refine sv_tI (fun x21 hx21 => ?_)
    have h := sx_letE hx21 h
    refine sx_istore (pc := 213) (lo' := [(9, .int x21), (0, .ref 146), (3, .long l3), (5, .long l5), (7, .int l7), (8, .int l8)]) dX12_contour_213 (by decide) rfl ?_
    refine sx_iload (pc := 215) dX12_contour_215 sx_m0 ?_
    refine sx_iconst (pc := 217) (v := 1) dX12_contour_217 (by decide) ?_
    refine sx_iadd (pc := 218) dX12_contour_218 ?_
    refine sx_aload_n (pc := 219) dX12_contour_219 sx_m1 ?_
    refine sv_getI (pc := 220) hG dX12_contour_220 f_12_835 lay_146 rfl ?_
    obtain ⟨g22, h⟩ := sx_grd h
    refine sx_irem (pc := 223) dX12_contour_223 g22 ?_
    refine sv_tI (fun x23 hx23 => ?_)
    have h := sx_letE hx23 h
    refine sx_istore (pc := 224) (lo' := [(10, .int x23), (9, .int x21), (0, .ref 146), (3, .long l3), (5, .long l5), (7, .int l7), (8, .int l8)]) dX12_contour_224 (by decide) rfl ?_
    refine sx_iload (pc := 226) dX12_contour_226 sx_m1 ?_
    refine sx_iconst (pc := 228) (v := 2) dX12_contour_228 (by decide) ?_
    refine sx_iadd (pc := 229) dX12_contour_229 ?_
    refine sx_aload_n (pc := 230) dX12_contour_230 sx_m2 ?_
    refine sv_getI (pc := 231) hG dX12_contour_231 f_12_835 lay_146 rfl ?_
    obtain ⟨g24, h⟩ := sx_grd h
    refine sx_irem (pc := 234) dX12_contour_234 g24 ?_
    refine sv_tI (fun x25 hx25 => ?_)
    have h := sx_letE hx25 h
    refine sx_istore (pc := 235) (lo' := [(11, .int x25), (10, .int x23), (9, .int x21), (0, .ref 146), (3, .long l3), (5, .long l5), (7, .int l7), (8, .int l8)]) dX12_contour_235 (by decide) rfl ?_
    refine sx_aload_n (pc := 237) dX12_contour_237 sx_m3 ?_
    refine sv_getA (pc := 238) hG dX12_contour_238 f_12_185 lay_146 rfl cr_146_138 ?_
    refine sx_iload (pc := 241) dX12_contour_241 sx_m1 ?_
    obtain ⟨g26, h⟩ := sx_grd h
    refine sv_zald (pc := 243) hG dX12_contour_243 lay_203 g26 ?_
    refine sx_if_eq (pc := 244) (tgt := 299) dX12_contour_244 (by decide) (fun c27 => ?_) (fun c27 => ?_)
    · have h := sx_pos c27 h
      refine sx_aload_n (pc := 299) dX12_contour_299 sx_m3 ?_
      refine sx_aload_n (pc := 300) dX12_contour_300 sx_m3 ?_
      refine sv_getA (pc := 301) hG dX12_contour_301 f_12_179 lay_146 rfl cr_146_136 ?_
      refine sx_iload (pc := 304) dX12_contour_304 sx_m2 ?_
      obtain ⟨g28, h⟩ := sx_grd h
      refine sv_iald (pc := 306) hG dX12_contour_306 lay_201 g28 ?_
      refine sx_i2l (pc := 307) dX12_contour_307 ?_
      refine sx_lload_n (pc := 308) dX12_contour_308 sx_m4 ?_
      refine sx_lsub (pc := 309) dX12_contour_309 ?_
      refine sx_aload_n (pc := 310) dX12_contour_310 sx_m3 ?_
      refine sv_getA (pc := 311) hG dX12_contour_311 f_12_182 lay_146 rfl cr_146_137 ?_
      refine sx_iload (pc := 314) dX12_contour_314 sx_m2 ?_
      obtain ⟨g29, h⟩ := sx_grd h
      refine sv_iald (pc := 316) hG dX12_contour_316 lay_202 g29 ?_
      refine sx_i2l (pc := 317) dX12_contour_317 ?_
      refine sx_lload (pc := 318) dX12_contour_318 sx_m5 ?_
      refine sx_lsub (pc := 320) dX12_contour_320 ?_
      refine sx_aload_n (pc := 321) dX12_contour_321 sx_m3 ?_
      refine sv_getA (pc := 322) hG dX12_contour_322 f_12_179 lay_146 rfl cr_146_136 ?_
      refine sx_iload (pc := 325) dX12_contour_325 sx_m1 ?_
      obtain ⟨g30, h⟩ := sx_grd h
      refine sv_iald (pc := 327) hG dX12_contour_327 lay_201 g30 ?_
      refine sx_i2l (pc := 328) dX12_contour_328 ?_
      refine sx_lload_n (pc := 329) dX12_contour_329 sx_m4 ?_
      refine sx_lsub (pc := 330) dX12_contour_330 ?_
      refine sx_aload_n (pc := 331) dX12_contour_331 sx_m3 ?_
      refine sv_getA (pc := 332) hG dX12_contour_332 f_12_182 lay_146 rfl cr_146_137 ?_
      refine sx_iload (pc := 335) dX12_contour_335 sx_m1 ?_
      obtain ⟨g31, h⟩ := sx_grd h
      refine sv_iald (pc := 337) hG dX12_contour_337 lay_202 g31 ?_
      refine sx_i2l (pc := 338) dX12_contour_338 ?_
      refine sx_lload (pc := 339) dX12_contour_339 sx_m5 ?_
      refine sx_lsub (pc := 341) dX12_contour_341 ?_
      refine sx_aload_n (pc := 342) dX12_contour_342 sx_m3 ?_
      refine sv_getA (pc := 343) hG dX12_contour_343 f_12_179 lay_146 rfl cr_146_136 ?_
      refine sx_iload (pc := 346) dX12_contour_346 sx_m0 ?_
      obtain ⟨g32, h⟩ := sx_grd h
      refine sv_iald (pc := 348) hG dX12_contour_348 lay_201 g32 ?_
      refine sx_i2l (pc := 349) dX12_contour_349 ?_
      refine sx_lload_n (pc := 350) dX12_contour_350 sx_m4 ?_
      refine sx_lsub (pc := 351) dX12_contour_351 ?_
      refine sx_aload_n (pc := 352) dX12_contour_352 sx_m3 ?_
      refine sv_getA (pc := 353) hG dX12_contour_353 f_12_182 lay_146 rfl cr_146_137 ?_
      refine sx_iload (pc := 356) dX12_contour_356 sx_m0 ?_
      obtain ⟨g33, h⟩ := sx_grd h
      refine sv_iald (pc := 358) hG dX12_contour_358 lay_202 g33 ?_
      refine sx_i2l (pc := 359) dX12_contour_359 ?_
      refine sx_lload (pc := 360) dX12_contour_360 sx_m5 ?_
      refine sx_lsub (pc := 362) dX12_contour_362 ?_
      obtain ⟨V34, g35, h⟩ := sx_bnd h
      refine sv_cV (pc := 363) (y := qX12_curve) (o := none) (as := [.long (((V.1 201 x21.toNatClampNeg).toInt64) - l3), .long (((V.1 202 x21.toNatClampNeg).toInt64) - l5), .long (((V.1 201 x23.toNatClampNeg).toInt64) - l3), .long (((V.1 202 x23.toNatClampNeg).toInt64) - l5), .long (((V.1 201 x25.toNatClampNeg).toInt64) - l3), .long (((V.1 202 x25.toNatClampNeg).toInt64) - l5)]) (V1 := V34) hG dX12_contour_363 l_X12_863 y0X12_curve yvX12_curve rfl (Nat.le_of_ble_eq_true rfl) lay_146 kr_12 (by decide) (Nat.le_of_ble_eq_true rfl) rfl rfl rfl (t_X12_curve hG ⟨rfl, rfl⟩ g35) ?_
      obtain ⟨x36, hx36⟩ : ∃ z : Int32, z = l8 + 2 := ⟨_, rfl⟩
      have h := sx_letE hx36 h
      refine sx_iinc (pc := 366) (v := x36) (lo' := [(8, .int x36), (11, .int x25), (10, .int x23), (9, .int x21), (0, .ref 146), (3, .long l3), (5, .long l5), (7, .int l7)]) dX12_contour_366 sx_m7 (by rw [hx36]; rfl) (by decide) rfl ?_
      refine sx_wk (sx_s1 sx_m4 (sx_s1 sx_m5 (sx_s1 sx_m6 (sx_s1 sx_m7 (sx_s1 sx_m0 sx_s0))))) ?_
      exact tB_X12_contour_369 hG hP hk194 h
    · have h := sx_neg c27 h
      refine sx_aload_n (pc := 247) dX12_contour_247 sx_m3 ?_
      refine sx_aload_n (pc := 248) dX12_contour_248 sx_m3 ?_
      refine sv_getA (pc := 249) hG dX12_contour_249 f_12_179 lay_146 rfl cr_146_136 ?_
      refine sx_iload (pc := 252) dX12_contour_252 sx_m2 ?_
      obtain ⟨g37, h⟩ := sx_grd h
      refine sv_iald (pc := 254) hG dX12_contour_254 lay_201 g37 ?_
      refine sx_i2l (pc := 255) dX12_contour_255 ?_
      refine sx_lload_n (pc := 256) dX12_contour_256 sx_m4 ?_
      refine sx_lsub (pc := 257) dX12_contour_257 ?_
      refine sx_aload_n (pc := 258) dX12_contour_258 sx_m3 ?_
      refine sv_getA (pc := 259) hG dX12_contour_259 f_12_182 lay_146 rfl cr_146_137 ?_
      refine sx_iload (pc := 262) dX12_contour_262 sx_m2 ?_
      obtain ⟨g38, h⟩ := sx_grd h
      refine sv_iald (pc := 264) hG dX12_contour_264 lay_202 g38 ?_
      refine sx_i2l (pc := 265) dX12_contour_265 ?_
      refine sx_lload (pc := 266) dX12_contour_266 sx_m5 ?_
      refine sx_lsub (pc := 268) dX12_contour_268 ?_
      refine sx_aload_n (pc := 269) dX12_contour_269 sx_m3 ?_
      refine sv_getA (pc := 270) hG dX12_contour_270 f_12_179 lay_146 rfl cr_146_136 ?_
      refine sx_iload (pc := 273) dX12_contour_273 sx_m1 ?_
      obtain ⟨g39, h⟩ := sx_grd h
      refine sv_iald (pc := 275) hG dX12_contour_275 lay_201 g39 ?_
      refine sx_i2l (pc := 276) dX12_contour_276 ?_
      refine sx_lload_n (pc := 277) dX12_contour_277 sx_m4 ?_
      refine sx_lsub (pc := 278) dX12_contour_278 ?_
      refine sx_aload_n (pc := 279) dX12_contour_279 sx_m3 ?_
      refine sv_getA (pc := 280) hG dX12_contour_280 f_12_182 lay_146 rfl cr_146_137 ?_
      refine sx_iload (pc := 283) dX12_contour_283 sx_m1 ?_
      obtain ⟨g40, h⟩ := sx_grd h
      refine sv_iald (pc := 285) hG dX12_contour_285 lay_202 g40 ?_
      refine sx_i2l (pc := 286) dX12_contour_286 ?_
      refine sx_lload (pc := 287) dX12_contour_287 sx_m5 ?_
      refine sx_lsub (pc := 289) dX12_contour_289 ?_
      obtain ⟨V41, g42, h⟩ := sx_bnd h
      refine sv_cV (pc := 290) (y := qX12_straight) (o := none) (as := [.long (((V.1 201 x21.toNatClampNeg).toInt64) - l3), .long (((V.1 202 x21.toNatClampNeg).toInt64) - l5), .long (((V.1 201 x23.toNatClampNeg).toInt64) - l3), .long (((V.1 202 x23.toNatClampNeg).toInt64) - l5)]) (V1 := V41) hG dX12_contour_290 l_X12_855 y0X12_straight yvX12_straight rfl (Nat.le_of_ble_eq_true rfl) lay_146 kr_12 (by decide) (Nat.le_of_ble_eq_true rfl) rfl rfl rfl (t_X12_straight hG ⟨rfl, rfl⟩ g42) ?_
      obtain ⟨x43, hx43⟩ : ∃ z : Int32, z = l8 + 1 := ⟨_, rfl⟩
      have h := sx_letE hx43 h
      refine sx_iinc (pc := 293) (v := x43) (lo' := [(8, .int x43), (11, .int x25), (10, .int x23), (9, .int x21), (0, .ref 146), (3, .long l3), (5, .long l5), (7, .int l7)]) dX12_contour_293 sx_m7 (by rw [hx43]; rfl) (by decide) rfl ?_
      refine sx_goto (pc := 296) (tgt := 369) dX12_contour_296 (by decide) ?_
      refine sx_wk (sx_s1 sx_m4 (sx_s1 sx_m5 (sx_s1 sx_m6 (sx_s1 sx_m7 (sx_s1 sx_m0 sx_s0))))) ?_
      exact tB_X12_contour_369 hG hP hk194 h
theorem tL_X12_contour_194 {g : sx_G} (hG : sx_Go g) {P : Option Value → sv_V → Prop} {Vr : sv_V} (hP : P none Vr) {N : Nat}   : ∀ (n : Nat) (l3 : Int64) (l5 : Int64) (l7 : Int32) (l8 : Int32) (V : sv_V), sx_lp5 (B_X12_contour_194 N ) n l3 l5 l7 l8 V = some Vr → sv_N g qX12_contour 3 194 [(0, .ref 146), (3, .long l3), (5, .long l5), (7, .int l7), (8, .int l8)] [] V P :=
  sx_lp5_ind (fun k0 ih _ _ _ _ V h => tB_X12_contour_194 hG hP ih h)
def B_X12_contour_175 (N : Nat) (k175 : Int64 → Int64 → Int32 → sv_V → Option sv_V) (l3 : Int64) (l5 : Int64) (l7 : Int32) (V : sv_V) : Option sv_V := if sx_in l7 220 = true then if (V.1 203 l7.toNatClampNeg) = 0 then (sx_let (l7 + 1) (fun x46 => k175 l3 l5 x46 V)) else (sx_lp5 (B_X12_contour_194 N ) N l3 l5 l7 (0 : Int32) V) else none
set_option maxRecDepth 20000 in
theorem tB_X12_contour_175 {g : sx_G} (hG : sx_Go g) {P : Option Value → sv_V → Prop} {Vr : sv_V} (hP : P none Vr) {N : Nat} {k175 : Int64 → Int64 → Int32 → sv_V → Option sv_V} (hk175 : ∀ (l3 : Int64) (l5 : Int64) (l7 : Int32) (V : sv_V), k175 l3 l5 l7 V = some Vr → sv_N g qX12_contour 3 175 [(0, .ref 146), (3, .long l3), (5, .long l5), (7, .int l7)] [] V P) {l3 : Int64} {l5 : Int64} {l7 : Int32} {V : sv_V} (h : B_X12_contour_175 N k175 l3 l5 l7 V = some Vr) : sv_N g qX12_contour 3 175 [(0, .ref 146), (3, .long l3), (5, .long l5), (7, .int l7)] [] V P := by
  unfold B_X12_contour_175 at h
  refine sx_aload_n (pc := 175) dX12_contour_175 sx_m0 ?_
  refine sv_getA (pc := 176) hG dX12_contour_176 f_12_185 lay_146 rfl cr_146_138 ?_
  refine sx_iload (pc := 179) dX12_contour_179 sx_m3 ?_
  obtain ⟨g44, h⟩ := sx_grd h
  refine sv_zald (pc := 181) hG dX12_contour_181 lay_203 g44 ?_
  refine sx_if_ne (pc := 182) (tgt := 191) dX12_contour_182 (by decide) (fun c45 => ?_) (fun c45 => ?_)
  · have h := sx_neg c45 h
    refine sx_iconst (pc := 191) (v := 0) dX12_contour_191 (by decide) ?_
    refine sx_istore (pc := 192) (lo' := [(8, .int (0 : Int32)), (0, .ref 146), (3, .long l3), (5, .long l5), (7, .int l7)]) dX12_contour_192 (by decide) rfl ?_
    refine sx_wk (sx_s1 sx_m1 (sx_s1 sx_m2 (sx_s1 sx_m3 (sx_s1 sx_m4 (sx_s1 sx_m0 sx_s0))))) ?_
    exact tL_X12_contour_194 hG hP  N _ _ _ _ _ h
  · have h := sx_pos c45 h
    obtain ⟨x46, hx46⟩ : ∃ z : Int32, z = l7 + 1 := ⟨_, rfl⟩
    have h := sx_letE hx46 h
    refine sx_iinc (pc := 185) (v := x46) (lo' := [(7, .int x46), (0, .ref 146), (3, .long l3), (5, .long l5)]) dX12_contour_185 sx_m3 (by rw [hx46]; rfl) (by decide) rfl ?_
    refine sx_goto (pc := 188) (tgt := 175) dX12_contour_188 (by decide) ?_
    refine sx_wk (sx_s1 sx_m1 (sx_s1 sx_m2 (sx_s1 sx_m3 (sx_s1 sx_m0 sx_s0)))) ?_
    exact hk175 _ _ _ _ h
theorem tL_X12_contour_175 {g : sx_G} (hG : sx_Go g) {P : Option Value → sv_V → Prop} {Vr : sv_V} (hP : P none Vr) {N : Nat}   : ∀ (n : Nat) (l3 : Int64) (l5 : Int64) (l7 : Int32) (V : sv_V), sx_lp4 (B_X12_contour_175 N ) n l3 l5 l7 V = some Vr → sv_N g qX12_contour 3 175 [(0, .ref 146), (3, .long l3), (5, .long l5), (7, .int l7)] [] V P :=
  sx_lp4_ind (fun k0 ih _ _ _ V h => tB_X12_contour_175 hG hP ih h)
def B_X12_contour_8 (N : Nat) (k8 : Int32 → Int32 → Int64 → Int64 → Int32 → sv_V → Option sv_V) (l1 : Int32) (l2 : Int32) (l3 : Int64) (l5 : Int64) (l7 : Int32) (V : sv_V) : Option sv_V := if l2 < l7 then (if l1 = l2 then (if (V.1 146 140) = 0 then (if (lg_cmp ((V.1 201 (0 : Int32).toNatClampNeg).toInt64) l3) = 0 then (if (lg_cmp ((V.1 202 (0 : Int32).toNatClampNeg).toInt64) l5) = 0 then (B_X12_contour_163 N   V) else (sx_let (sv_I V 146 140 (0 : Int32)) (fun V53 => some V53))) else (sx_let (sv_I V 146 140 (0 : Int32)) (fun V51 => some V51))) else (B_X12_contour_163 N   V)) else (sx_lp4 (B_X12_contour_175 N ) N l3 l5 (0 : Int32) V)) else (if l7 = l2 then (B_X12_contour_28 N k8 l1 l2 l3 l5 l7 l1 V) else (B_X12_contour_28 N k8 l1 l2 l3 l5 l7 (l7 + (1 : Int32)) V))
set_option maxRecDepth 20000 in
theorem tB_X12_contour_8 {g : sx_G} (hG : sx_Go g) {P : Option Value → sv_V → Prop} {Vr : sv_V} (hP : P none Vr) {N : Nat} {k8 : Int32 → Int32 → Int64 → Int64 → Int32 → sv_V → Option sv_V} (hk8 : ∀ (l1 : Int32) (l2 : Int32) (l3 : Int64) (l5 : Int64) (l7 : Int32) (V : sv_V), k8 l1 l2 l3 l5 l7 V = some Vr → sv_N g qX12_contour 3 8 [(0, .ref 146), (1, .int l1), (2, .int l2), (3, .long l3), (5, .long l5), (7, .int l7)] [] V P) {l1 : Int32} {l2 : Int32} {l3 : Int64} {l5 : Int64} {l7 : Int32} {V : sv_V} (h : B_X12_contour_8 N k8 l1 l2 l3 l5 l7 V = some Vr) : sv_N g qX12_contour 3 8 [(0, .ref 146), (1, .int l1), (2, .int l2), (3, .long l3), (5, .long l5), (7, .int l7)] [] V P := by
  unfold B_X12_contour_8 at h
  refine sx_iload (pc := 8) dX12_contour_8 sx_m5 ?_
  refine sx_iload_n (pc := 10) dX12_contour_10 sx_m2 ?_
  refine sx_icmp_gt (pc := 11) (tgt := 125) dX12_contour_11 (by decide) (fun c47 => ?_) (fun c47 => ?_)
  · have h := sx_pos c47 h
    refine sx_iload_n (pc := 125) dX12_contour_125 sx_m1 ?_
    refine sx_iload_n (pc := 126) dX12_contour_126 sx_m2 ?_
    refine sx_icmp_ne (pc := 127) (tgt := 172) dX12_contour_127 (by decide) (fun c48 => ?_) (fun c48 => ?_)
    · have h := sx_neg c48 h
      refine sx_iconst (pc := 172) (v := 0) dX12_contour_172 (by decide) ?_
      refine sx_istore (pc := 173) (lo' := [(7, .int (0 : Int32)), (0, .ref 146), (1, .int l1), (2, .int l2), (3, .long l3), (5, .long l5)]) dX12_contour_173 (by decide) rfl ?_
      refine sx_wk (sx_s1 sx_m1 (sx_s1 sx_m4 (sx_s1 sx_m5 (sx_s1 sx_m0 sx_s0)))) ?_
      exact tL_X12_contour_175 hG hP  N _ _ _ _ h
    · have h := sx_pos c48 h
      refine sx_aload_n (pc := 130) dX12_contour_130 sx_m0 ?_
      refine sx_aload_n (pc := 131) dX12_contour_131 sx_m0 ?_
      refine sv_getZ (pc := 132) hG dX12_contour_132 f_12_846 lay_146 rfl ?_
      refine sx_if_ne (pc := 135) (tgt := 163) dX12_contour_135 (by decide) (fun c49 => ?_) (fun c49 => ?_)
      · have h := sx_neg c49 h
        refine sx_wk sx_s0 ?_
        exact tB_X12_contour_163 hG hP  h
      · have h := sx_pos c49 h
        refine sx_aload_n (pc := 138) dX12_contour_138 sx_m0 ?_
        refine sv_getA (pc := 139) hG dX12_contour_139 f_12_179 lay_146 rfl cr_146_136 ?_
        refine sx_iconst (pc := 142) (v := 0) dX12_contour_142 (by decide) ?_
        refine sv_iald (pc := 143) hG dX12_contour_143 lay_201 (by decide) ?_
        refine sx_i2l (pc := 144) dX12_contour_144 ?_
        refine sx_lload_n (pc := 145) dX12_contour_145 sx_m3 ?_
        refine sx_lcmp (pc := 146) dX12_contour_146 ?_
        refine sx_if_ne (pc := 147) (tgt := 167) dX12_contour_147 (by decide) (fun c50 => ?_) (fun c50 => ?_)
        · have h := sx_neg c50 h
          refine sx_iconst (pc := 167) (v := 0) dX12_contour_167 (by decide) ?_
          obtain ⟨V51, hV51⟩ : ∃ z : sv_V, z = sv_I V 146 140 (0 : Int32) := ⟨_, rfl⟩
          have h := sx_letE hV51 h
          refine sv_putZ (pc := 168) hG dX12_contour_168 f_12_846 lay_146 rfl rfl hV51 ?_
          exact sv_vret (pc := 171) dX12_contour_171 rfl h hP
        · have h := sx_pos c50 h
          refine sx_aload_n (pc := 150) dX12_contour_150 sx_m0 ?_
          refine sv_getA (pc := 151) hG dX12_contour_151 f_12_182 lay_146 rfl cr_146_137 ?_
          refine sx_iconst (pc := 154) (v := 0) dX12_contour_154 (by decide) ?_
          refine sv_iald (pc := 155) hG dX12_contour_155 lay_202 (by decide) ?_
          refine sx_i2l (pc := 156) dX12_contour_156 ?_
          refine sx_lload (pc := 157) dX12_contour_157 sx_m4 ?_
          refine sx_lcmp (pc := 159) dX12_contour_159 ?_
          refine sx_if_ne (pc := 160) (tgt := 167) dX12_contour_160 (by decide) (fun c52 => ?_) (fun c52 => ?_)
          · have h := sx_neg c52 h
            refine sx_iconst (pc := 167) (v := 0) dX12_contour_167 (by decide) ?_
            obtain ⟨V53, hV53⟩ : ∃ z : sv_V, z = sv_I V 146 140 (0 : Int32) := ⟨_, rfl⟩
            have h := sx_letE hV53 h
            refine sv_putZ (pc := 168) hG dX12_contour_168 f_12_846 lay_146 rfl rfl hV53 ?_
            exact sv_vret (pc := 171) dX12_contour_171 rfl h hP
          · have h := sx_pos c52 h
            refine sx_wk sx_s0 ?_
            exact tB_X12_contour_163 hG hP  h
  · have h := sx_neg c47 h
    refine sx_iload (pc := 14) dX12_contour_14 sx_m5 ?_
    refine sx_iload_n (pc := 16) dX12_contour_16 sx_m2 ?_
    refine sx_icmp_ne (pc := 17) (tgt := 24) dX12_contour_17 (by decide) (fun c54 => ?_) (fun c54 => ?_)
    · have h := sx_neg c54 h
      refine sx_iload (pc := 24) dX12_contour_24 sx_m5 ?_
      refine sx_iconst (pc := 26) (v := 1) dX12_contour_26 (by decide) ?_
      refine sx_iadd (pc := 27) dX12_contour_27 ?_
      refine sx_wk (sx_s1 sx_m0 (sx_s1 sx_m1 (sx_s1 sx_m2 (sx_s1 sx_m3 (sx_s1 sx_m4 (sx_s1 sx_m5 sx_s0)))))) ?_
      exact tB_X12_contour_28 hG hP hk8 h
    · have h := sx_pos c54 h
      refine sx_iload_n (pc := 20) dX12_contour_20 sx_m1 ?_
      refine sx_goto (pc := 21) (tgt := 28) dX12_contour_21 (by decide) ?_
      refine sx_wk (sx_s1 sx_m0 (sx_s1 sx_m1 (sx_s1 sx_m2 (sx_s1 sx_m3 (sx_s1 sx_m4 (sx_s1 sx_m5 sx_s0)))))) ?_
      exact tB_X12_contour_28 hG hP hk8 h
theorem tL_X12_contour_8 {g : sx_G} (hG : sx_Go g) {P : Option Value → sv_V → Prop} {Vr : sv_V} (hP : P none Vr) {N : Nat}   : ∀ (n : Nat) (l1 : Int32) (l2 : Int32) (l3 : Int64) (l5 : Int64) (l7 : Int32) (V : sv_V), sx_lp6 (B_X12_contour_8 N ) n l1 l2 l3 l5 l7 V = some Vr → sv_N g qX12_contour 3 8 [(0, .ref 146), (1, .int l1), (2, .int l2), (3, .long l3), (5, .long l5), (7, .int l7)] [] V P :=
  sx_lp6_ind (fun k0 ih _ _ _ _ _ V h => tB_X12_contour_8 hG hP ih h)
def F_X12_contour (N : Nat) (l1 : Int32) (l2 : Int32) (l3 : Int64) (l5 : Int64) (V : sv_V) : Option sv_V := sx_let (sv_I V 146 135 (0 : Int32)) (fun V55 => sx_lp6 (B_X12_contour_8 N ) N l1 l2 l3 l5 l1 V55)
set_option maxRecDepth 20000 in
theorem t_X12_contour {g : sx_G} (hG : sx_Go g) {P : Option Value → sv_V → Prop} {Vr : sv_V} (hP : P none Vr) {N : Nat} {l1 : Int32} {l2 : Int32} {l3 : Int64} {l5 : Int64} {V : sv_V} (h : F_X12_contour N l1 l2 l3 l5 V = some Vr) : sv_N g qX12_contour 3 0 [(0, .ref 146), (1, .int l1), (2, .int l2), (3, .long l3), (5, .long l5)] [] V P := by
  unfold F_X12_contour at h
  refine sx_aload_n (pc := 0) dX12_contour_0 sx_m0 ?_
  refine sx_iconst (pc := 1) (v := 0) dX12_contour_1 (by decide) ?_
  obtain ⟨V55, hV55⟩ : ∃ z : sv_V, z = sv_I V 146 135 (0 : Int32) := ⟨_, rfl⟩
  have h := sx_letE hV55 h
  refine sv_putI (pc := 2) hG dX12_contour_2 f_12_835 lay_146 rfl hV55 ?_
  refine sx_iload_n (pc := 5) dX12_contour_5 sx_m1 ?_
  refine sx_istore (pc := 6) (lo' := [(7, .int l1), (0, .ref 146), (1, .int l1), (2, .int l2), (3, .long l3), (5, .long l5)]) dX12_contour_6 (by decide) rfl ?_
  refine sx_wk (sx_s1 sx_m1 (sx_s1 sx_m2 (sx_s1 sx_m3 (sx_s1 sx_m4 (sx_s1 sx_m5 (sx_s1 sx_m0 sx_s0)))))) ?_
  exact tL_X12_contour_8 hG hP  N _ _ _ _ _ _ h
theorem dX12_isInside_0 : decode cX12_isInside 0 = .ok (.aload_n 0, 1) := by decide +kernel
theorem dX12_isInside_1 : decode cX12_isInside 1 = .ok (.iconst 0, 1) := by decide +kernel
theorem dX12_isInside_2 : decode cX12_isInside 2 = .ok (.putfield 849, 3) := by decide +kernel
theorem dX12_isInside_5 : decode cX12_isInside 5 = .ok (.aload_n 0, 1) := by decide +kernel
theorem dX12_isInside_6 : decode cX12_isInside 6 = .ok (.iconst 0, 1) := by decide +kernel
theorem dX12_isInside_7 : decode cX12_isInside 7 = .ok (.putfield 846, 3) := by decide +kernel
theorem dX12_isInside_10 : decode cX12_isInside 10 = .ok (.iconst 0, 1) := by decide +kernel
theorem dX12_isInside_11 : decode cX12_isInside 11 = .ok (.istore_n 3, 1) := by decide +kernel
theorem dX12_isInside_12 : decode cX12_isInside 12 = .ok (.iconst 0, 1) := by decide +kernel
theorem dX12_isInside_13 : decode cX12_isInside 13 = .ok (.istore 4, 2) := by decide +kernel
theorem dX12_isInside_15 : decode cX12_isInside 15 = .ok (.iload 4, 2) := by decide +kernel
theorem dX12_isInside_17 : decode cX12_isInside 17 = .ok (.aload_n 0, 1) := by decide +kernel
theorem dX12_isInside_18 : decode cX12_isInside 18 = .ok (.getfield 826, 3) := by decide +kernel
theorem dX12_isInside_21 : decode cX12_isInside 21 = .ok (.if_icmp .ge 50, 3) := by decide +kernel
theorem dX12_isInside_24 : decode cX12_isInside 24 = .ok (.aload_n 0, 1) := by decide +kernel
theorem dX12_isInside_25 : decode cX12_isInside 25 = .ok (.getfield 846, 3) := by decide +kernel
theorem dX12_isInside_28 : decode cX12_isInside 28 = .ok (.ifCond .ne 43, 3) := by decide +kernel
theorem dX12_isInside_31 : decode cX12_isInside 31 = .ok (.aload_n 0, 1) := by decide +kernel
theorem dX12_isInside_32 : decode cX12_isInside 32 = .ok (.iload_n 3, 1) := by decide +kernel
theorem dX12_isInside_33 : decode cX12_isInside 33 = .ok (.aload_n 0, 1) := by decide +kernel
theorem dX12_isInside_34 : decode cX12_isInside 34 = .ok (.getfield 176, 3) := by decide +kernel
theorem dX12_isInside_37 : decode cX12_isInside 37 = .ok (.iload 4, 2) := by decide +kernel
theorem dX12_isInside_39 : decode cX12_isInside 39 = .ok (.iaload, 1) := by decide +kernel
theorem dX12_isInside_40 : decode cX12_isInside 40 = .ok (.ldc2_w 336, 3) := by decide +kernel
theorem dX12_isInside_43 : decode cX12_isInside 43 = .ok (.iload_n 1, 1) := by decide +kernel
theorem dX12_isInside_44 : decode cX12_isInside 44 = .ok (.i2l, 1) := by decide +kernel
theorem dX12_isInside_45 : decode cX12_isInside 45 = .ok (.lmul, 1) := by decide +kernel
theorem dX12_isInside_46 : decode cX12_isInside 46 = .ok (.ldc2_w 336, 3) := by decide +kernel
theorem dX12_isInside_49 : decode cX12_isInside 49 = .ok (.iload_n 2, 1) := by decide +kernel
theorem dX12_isInside_50 : decode cX12_isInside 50 = .ok (.i2l, 1) := by decide +kernel
theorem dX12_isInside_51 : decode cX12_isInside 51 = .ok (.lmul, 1) := by decide +kernel
theorem dX12_isInside_52 : decode cX12_isInside 52 = .ok (.invokevirtual 867, 3) := by decide +kernel
theorem dX12_isInside_55 : decode cX12_isInside 55 = .ok (.aload_n 0, 1) := by decide +kernel
theorem dX12_isInside_56 : decode cX12_isInside 56 = .ok (.getfield 176, 3) := by decide +kernel
theorem dX12_isInside_59 : decode cX12_isInside 59 = .ok (.iload 4, 2) := by decide +kernel
theorem dX12_isInside_61 : decode cX12_isInside 61 = .ok (.iaload, 1) := by decide +kernel
theorem dX12_isInside_62 : decode cX12_isInside 62 = .ok (.iconst 1, 1) := by decide +kernel
theorem dX12_isInside_63 : decode cX12_isInside 63 = .ok (.iadd, 1) := by decide +kernel
theorem dX12_isInside_64 : decode cX12_isInside 64 = .ok (.istore_n 3, 1) := by decide +kernel
theorem dX12_isInside_65 : decode cX12_isInside 65 = .ok (.iinc 4 1, 3) := by decide +kernel
theorem dX12_isInside_68 : decode cX12_isInside 68 = .ok (.goto (-53), 3) := by decide +kernel
theorem dX12_isInside_71 : decode cX12_isInside 71 = .ok (.aload_n 0, 1) := by decide +kernel
theorem dX12_isInside_72 : decode cX12_isInside 72 = .ok (.getfield 846, 3) := by decide +kernel
theorem dX12_isInside_75 : decode cX12_isInside 75 = .ok (.ifCond .ne 10, 3) := by decide +kernel
theorem dX12_isInside_78 : decode cX12_isInside 78 = .ok (.aload_n 0, 1) := by decide +kernel
theorem dX12_isInside_79 : decode cX12_isInside 79 = .ok (.getfield 849, 3) := by decide +kernel
theorem dX12_isInside_82 : decode cX12_isInside 82 = .ok (.ifCond .eq 7, 3) := by decide +kernel
theorem dX12_isInside_85 : decode cX12_isInside 85 = .ok (.iconst 1, 1) := by decide +kernel
theorem dX12_isInside_86 : decode cX12_isInside 86 = .ok (.goto 4, 3) := by decide +kernel
theorem dX12_isInside_89 : decode cX12_isInside 89 = .ok (.iconst 0, 1) := by decide +kernel
theorem dX12_isInside_90 : decode cX12_isInside 90 = .ok (.ireturn, 1) := by decide +kernel
def B_X12_isInside_85 (N : Nat)   (V : sv_V) : Option (Int32 × sv_V) := some ((1 : Int32), V)
set_option maxRecDepth 20000 in
theorem tB_X12_isInside_85 {g : sx_G} (hG : sx_Go g) {P : Option Value → sv_V → Prop} {r : Int32} {Vr : sv_V} (hP : P (some (.int r)) Vr) {N : Nat}    {V : sv_V} (h : B_X12_isInside_85 N   V = some (r, Vr)) : sv_N g qX12_isInside 4 85 [] [] V P := by
  unfold B_X12_isInside_85 at h
  refine sx_iconst (pc := 85) (v := 1) dX12_isInside_85 (by decide) ?_
  refine sx_goto (pc := 86) (tgt := 90) dX12_isInside_86 (by decide) ?_
  exact sv_zret (pc := 90) dX12_isInside_90 rfl rfl h hP
def B_X12_isInside_71 (N : Nat)   (V : sv_V) : Option (Int32 × sv_V) := if (V.1 146 140) = 0 then (if (V.1 146 139) = 0 then (some ((0 : Int32), V)) else (B_X12_isInside_85 N   V)) else (B_X12_isInside_85 N   V)
set_option maxRecDepth 20000 in
theorem tB_X12_isInside_71 {g : sx_G} (hG : sx_Go g) {P : Option Value → sv_V → Prop} {r : Int32} {Vr : sv_V} (hP : P (some (.int r)) Vr) {N : Nat}    {V : sv_V} (h : B_X12_isInside_71 N   V = some (r, Vr)) : sv_N g qX12_isInside 4 71 [(0, .ref 146)] [] V P := by
  unfold B_X12_isInside_71 at h
  refine sx_aload_n (pc := 71) dX12_isInside_71 sx_m0 ?_
  refine sv_getZ (pc := 72) hG dX12_isInside_72 f_12_846 lay_146 rfl ?_
  refine sx_if_ne (pc := 75) (tgt := 85) dX12_isInside_75 (by decide) (fun c1 => ?_) (fun c1 => ?_)
  · have h := sx_neg c1 h
    refine sx_wk sx_s0 ?_
    exact tB_X12_isInside_85 hG hP  h
  · have h := sx_pos c1 h
    refine sx_aload_n (pc := 78) dX12_isInside_78 sx_m0 ?_
    refine sv_getI (pc := 79) hG dX12_isInside_79 f_12_849 lay_146 rfl ?_
    refine sx_if_eq (pc := 82) (tgt := 89) dX12_isInside_82 (by decide) (fun c2 => ?_) (fun c2 => ?_)
    · have h := sx_pos c2 h
      refine sx_iconst (pc := 89) (v := 0) dX12_isInside_89 (by decide) ?_
      exact sv_zret (pc := 90) dX12_isInside_90 rfl rfl h hP
    · have h := sx_neg c2 h
      refine sx_wk sx_s0 ?_
      exact tB_X12_isInside_85 hG hP  h
def B_X12_isInside_15 (N : Nat) (k15 : Int32 → Int32 → Int32 → Int32 → sv_V → Option (Int32 × sv_V)) (l1 : Int32) (l2 : Int32) (l3 : Int32) (l4 : Int32) (V : sv_V) : Option (Int32 × sv_V) := if (V.1 146 129) ≤ l4 then (B_X12_isInside_71 N   V) else (if (V.1 146 140) = 0 then (if sx_in l4 20 = true then (F_X12_contour N l3 (V.1 200 l4.toNatClampNeg) ((2 : Int64) * l1.toInt64) ((2 : Int64) * l2.toInt64) V).bind (fun V6 => if sx_in l4 20 = true then sx_let ((V6.1 200 l4.toNatClampNeg) + (1 : Int32)) (fun x9 => sx_let (l4 + 1) (fun x10 => k15 l1 l2 x9 x10 V6)) else none) else none) else (B_X12_isInside_71 N   V))
set_option maxRecDepth 20000 in
theorem tB_X12_isInside_15 {g : sx_G} (hG : sx_Go g) {P : Option Value → sv_V → Prop} {r : Int32} {Vr : sv_V} (hP : P (some (.int r)) Vr) {N : Nat} {k15 : Int32 → Int32 → Int32 → Int32 → sv_V → Option (Int32 × sv_V)} (hk15 : ∀ (l1 : Int32) (l2 : Int32) (l3 : Int32) (l4 : Int32) (V : sv_V), k15 l1 l2 l3 l4 V = some (r, Vr) → sv_N g qX12_isInside 4 15 [(0, .ref 146), (1, .int l1), (2, .int l2), (3, .int l3), (4, .int l4)] [] V P) {l1 : Int32} {l2 : Int32} {l3 : Int32} {l4 : Int32} {V : sv_V} (h : B_X12_isInside_15 N k15 l1 l2 l3 l4 V = some (r, Vr)) : sv_N g qX12_isInside 4 15 [(0, .ref 146), (1, .int l1), (2, .int l2), (3, .int l3), (4, .int l4)] [] V P := by
  unfold B_X12_isInside_15 at h
  refine sx_iload (pc := 15) dX12_isInside_15 sx_m4 ?_
  refine sx_aload_n (pc := 17) dX12_isInside_17 sx_m0 ?_
  refine sv_getI (pc := 18) hG dX12_isInside_18 f_12_826 lay_146 rfl ?_
  refine sx_icmp_ge (pc := 21) (tgt := 71) dX12_isInside_21 (by decide) (fun c3 => ?_) (fun c3 => ?_)
  · have h := sx_pos c3 h
    refine sx_wk (sx_s1 sx_m0 sx_s0) ?_
    exact tB_X12_isInside_71 hG hP  h
  · have h := sx_neg c3 h
    refine sx_aload_n (pc := 24) dX12_isInside_24 sx_m0 ?_
    refine sv_getZ (pc := 25) hG dX12_isInside_25 f_12_846 lay_146 rfl ?_
    refine sx_if_ne (pc := 28) (tgt := 71) dX12_isInside_28 (by decide) (fun c4 => ?_) (fun c4 => ?_)
    · have h := sx_neg c4 h
      refine sx_wk (sx_s1 sx_m0 sx_s0) ?_
      exact tB_X12_isInside_71 hG hP  h
    · have h := sx_pos c4 h
      refine sx_aload_n (pc := 31) dX12_isInside_31 sx_m0 ?_
      refine sx_iload_n (pc := 32) dX12_isInside_32 sx_m3 ?_
      refine sx_aload_n (pc := 33) dX12_isInside_33 sx_m0 ?_
      refine sv_getA (pc := 34) hG dX12_isInside_34 f_12_176 lay_146 rfl cr_146_133 ?_
      refine sx_iload (pc := 37) dX12_isInside_37 sx_m4 ?_
      obtain ⟨g5, h⟩ := sx_grd h
      refine sv_iald (pc := 39) hG dX12_isInside_39 lay_200 g5 ?_
      refine sx_ldc2 (pc := 40) dX12_isInside_40 k_X12_336 ?_
      refine sx_iload_n (pc := 43) dX12_isInside_43 sx_m1 ?_
      refine sx_i2l (pc := 44) dX12_isInside_44 ?_
      refine sx_lmul (pc := 45) dX12_isInside_45 ?_
      refine sx_ldc2 (pc := 46) dX12_isInside_46 k_X12_336 ?_
      refine sx_iload_n (pc := 49) dX12_isInside_49 sx_m2 ?_
      refine sx_i2l (pc := 50) dX12_isInside_50 ?_
      refine sx_lmul (pc := 51) dX12_isInside_51 ?_
      obtain ⟨V6, g7, h⟩ := sx_bnd h
      refine sv_cV (pc := 52) (y := qX12_contour) (o := none) (as := [.int l3, .int (V.1 200 l4.toNatClampNeg), .long ((2 : Int64) * l1.toInt64), .long ((2 : Int64) * l2.toInt64)]) (V1 := V6) hG dX12_isInside_52 l_X12_867 y0X12_contour yvX12_contour rfl (Nat.le_of_ble_eq_true rfl) lay_146 kr_12 (by decide) (Nat.le_of_ble_eq_true rfl) rfl rfl rfl (t_X12_contour hG ⟨rfl, rfl⟩ g7) ?_
      refine sx_aload_n (pc := 55) dX12_isInside_55 sx_m0 ?_
      refine sv_getA (pc := 56) hG dX12_isInside_56 f_12_176 lay_146 rfl cr_146_133 ?_
      refine sx_iload (pc := 59) dX12_isInside_59 sx_m4 ?_
      obtain ⟨g8, h⟩ := sx_grd h
      refine sv_iald (pc := 61) hG dX12_isInside_61 lay_200 g8 ?_
      refine sx_iconst (pc := 62) (v := 1) dX12_isInside_62 (by decide) ?_
      refine sx_iadd (pc := 63) dX12_isInside_63 ?_
      refine sv_tI (fun x9 hx9 => ?_)
      have h := sx_letE hx9 h
      refine sx_istore_n (pc := 64) (lo' := [(3, .int x9), (0, .ref 146), (1, .int l1), (2, .int l2), (4, .int l4)]) dX12_isInside_64 (by decide) rfl ?_
      obtain ⟨x10, hx10⟩ : ∃ z : Int32, z = l4 + 1 := ⟨_, rfl⟩
      have h := sx_letE hx10 h
      refine sx_iinc (pc := 65) (v := x10) (lo' := [(4, .int x10), (3, .int x9), (0, .ref 146), (1, .int l1), (2, .int l2)]) dX12_isInside_65 sx_m4 (by rw [hx10]; rfl) (by decide) rfl ?_
      refine sx_goto (pc := 68) (tgt := 15) dX12_isInside_68 (by decide) ?_
      refine sx_wk (sx_s1 sx_m2 (sx_s1 sx_m3 (sx_s1 sx_m4 (sx_s1 sx_m1 (sx_s1 sx_m0 sx_s0))))) ?_
      exact hk15 _ _ _ _ _ h
theorem tL_X12_isInside_15 {g : sx_G} (hG : sx_Go g) {P : Option Value → sv_V → Prop} {r : Int32} {Vr : sv_V} (hP : P (some (.int r)) Vr) {N : Nat}   : ∀ (n : Nat) (l1 : Int32) (l2 : Int32) (l3 : Int32) (l4 : Int32) (V : sv_V), sx_lp5 (B_X12_isInside_15 N ) n l1 l2 l3 l4 V = some (r, Vr) → sv_N g qX12_isInside 4 15 [(0, .ref 146), (1, .int l1), (2, .int l2), (3, .int l3), (4, .int l4)] [] V P :=
  sx_lp5_ind (fun k0 ih _ _ _ _ V h => tB_X12_isInside_15 hG hP ih h)
def F_X12_isInside (N : Nat) (l1 : Int32) (l2 : Int32) (V : sv_V) : Option (Int32 × sv_V) := sx_let (sv_I V 146 139 (0 : Int32)) (fun V11 => sx_let (sv_I V11 146 140 (0 : Int32)) (fun V12 => sx_lp5 (B_X12_isInside_15 N ) N l1 l2 (0 : Int32) (0 : Int32) V12))
set_option maxRecDepth 20000 in
theorem t_X12_isInside {g : sx_G} (hG : sx_Go g) {P : Option Value → sv_V → Prop} {r : Int32} {Vr : sv_V} (hP : P (some (.int r)) Vr) {N : Nat} {l1 : Int32} {l2 : Int32} {V : sv_V} (h : F_X12_isInside N l1 l2 V = some (r, Vr)) : sv_N g qX12_isInside 4 0 [(0, .ref 146), (1, .int l1), (2, .int l2)] [] V P := by
  unfold F_X12_isInside at h
  refine sx_aload_n (pc := 0) dX12_isInside_0 sx_m0 ?_
  refine sx_iconst (pc := 1) (v := 0) dX12_isInside_1 (by decide) ?_
  obtain ⟨V11, hV11⟩ : ∃ z : sv_V, z = sv_I V 146 139 (0 : Int32) := ⟨_, rfl⟩
  have h := sx_letE hV11 h
  refine sv_putI (pc := 2) hG dX12_isInside_2 f_12_849 lay_146 rfl hV11 ?_
  refine sx_aload_n (pc := 5) dX12_isInside_5 sx_m0 ?_
  refine sx_iconst (pc := 6) (v := 0) dX12_isInside_6 (by decide) ?_
  obtain ⟨V12, hV12⟩ : ∃ z : sv_V, z = sv_I V11 146 140 (0 : Int32) := ⟨_, rfl⟩
  have h := sx_letE hV12 h
  refine sv_putZ (pc := 7) hG dX12_isInside_7 f_12_846 lay_146 rfl rfl hV12 ?_
  refine sx_iconst (pc := 10) (v := 0) dX12_isInside_10 (by decide) ?_
  refine sx_istore_n (pc := 11) (lo' := [(3, .int (0 : Int32)), (0, .ref 146), (1, .int l1), (2, .int l2)]) dX12_isInside_11 (by decide) rfl ?_
  refine sx_iconst (pc := 12) (v := 0) dX12_isInside_12 (by decide) ?_
  refine sx_istore (pc := 13) (lo' := [(4, .int (0 : Int32)), (3, .int (0 : Int32)), (0, .ref 146), (1, .int l1), (2, .int l2)]) dX12_isInside_13 (by decide) rfl ?_
  refine sx_wk (sx_s1 sx_m2 (sx_s1 sx_m3 (sx_s1 sx_m4 (sx_s1 sx_m1 (sx_s1 sx_m0 sx_s0))))) ?_
  exact tL_X12_isInside_15 hG hP  N _ _ _ _ _ h
theorem dX12_isIn_0 : decode cX12_isIn 0 = .ok (.aload_n 0, 1) := by decide +kernel
theorem dX12_isIn_1 : decode cX12_isIn 1 = .ok (.getfield 764, 3) := by decide +kernel
theorem dX12_isIn_4 : decode cX12_isIn 4 = .ok (.ifCond .ne 6, 3) := by decide +kernel
theorem dX12_isIn_7 : decode cX12_isIn 7 = .ok (.bipush (-3), 2) := by decide +kernel
theorem dX12_isIn_9 : decode cX12_isIn 9 = .ok (.ireturn, 1) := by decide +kernel
theorem dX12_isIn_10 : decode cX12_isIn 10 = .ok (.iload_n 1, 1) := by decide +kernel
theorem dX12_isIn_11 : decode cX12_isIn 11 = .ok (.i2l, 1) := by decide +kernel
theorem dX12_isIn_12 : decode cX12_isIn 12 = .ok (.ldc2_w 871, 3) := by decide +kernel
theorem dX12_isIn_15 : decode cX12_isIn 15 = .ok (.ldc2_w 873, 3) := by decide +kernel
theorem dX12_isIn_18 : decode cX12_isIn 18 = .ok (.invokestatic 263, 3) := by decide +kernel
theorem dX12_isIn_21 : decode cX12_isIn 21 = .ok (.ifCond .eq 17, 3) := by decide +kernel
theorem dX12_isIn_24 : decode cX12_isIn 24 = .ok (.iload_n 2, 1) := by decide +kernel
theorem dX12_isIn_25 : decode cX12_isIn 25 = .ok (.i2l, 1) := by decide +kernel
theorem dX12_isIn_26 : decode cX12_isIn 26 = .ok (.ldc2_w 871, 3) := by decide +kernel
theorem dX12_isIn_29 : decode cX12_isIn 29 = .ok (.ldc2_w 873, 3) := by decide +kernel
theorem dX12_isIn_32 : decode cX12_isIn 32 = .ok (.invokestatic 263, 3) := by decide +kernel
theorem dX12_isIn_35 : decode cX12_isIn 35 = .ok (.ifCond .ne 8, 3) := by decide +kernel
theorem dX12_isIn_38 : decode cX12_isIn 38 = .ok (.bipush (-2), 2) := by decide +kernel
theorem dX12_isIn_40 : decode cX12_isIn 40 = .ok (.goto 17, 3) := by decide +kernel
theorem dX12_isIn_43 : decode cX12_isIn 43 = .ok (.aload_n 0, 1) := by decide +kernel
theorem dX12_isIn_44 : decode cX12_isIn 44 = .ok (.iload_n 1, 1) := by decide +kernel
theorem dX12_isIn_45 : decode cX12_isIn 45 = .ok (.iload_n 2, 1) := by decide +kernel
theorem dX12_isIn_46 : decode cX12_isIn 46 = .ok (.invokevirtual 875, 3) := by decide +kernel
theorem dX12_isIn_49 : decode cX12_isIn 49 = .ok (.ifCond .eq 7, 3) := by decide +kernel
theorem dX12_isIn_52 : decode cX12_isIn 52 = .ok (.iconst 1, 1) := by decide +kernel
theorem dX12_isIn_53 : decode cX12_isIn 53 = .ok (.goto 4, 3) := by decide +kernel
theorem dX12_isIn_56 : decode cX12_isIn 56 = .ok (.iconst 0, 1) := by decide +kernel
theorem dX12_isIn_57 : decode cX12_isIn 57 = .ok (.ireturn, 1) := by decide +kernel
def B_X12_isIn_38 (N : Nat)   (V : sv_V) : Option (Int32 × sv_V) := some ((-2 : Int32), V)
set_option maxRecDepth 20000 in
theorem tB_X12_isIn_38 {g : sx_G} (hG : sx_Go g) {P : Option Value → sv_V → Prop} {r : Int32} {Vr : sv_V} (hP : P (some (.int r)) Vr) {N : Nat}    {V : sv_V} (h : B_X12_isIn_38 N   V = some (r, Vr)) : sv_N g qX12_isIn 5 38 [] [] V P := by
  unfold B_X12_isIn_38 at h
  refine sx_bipush (pc := 38) (v := (-2)) dX12_isIn_38 (by decide) ?_
  refine sx_goto (pc := 40) (tgt := 57) dX12_isIn_40 (by decide) ?_
  exact sv_iret (pc := 57) dX12_isIn_57 rfl h hP
def F_X12_isIn (N : Nat) (l1 : Int32) (l2 : Int32) (V : sv_V) : Option (Int32 × sv_V) := if (V.1 146 108) = 0 then (some ((-3 : Int32), V)) else ((F_X12_in l1.toInt64 (-5000 : Int64) (5000 : Int64) V).bind (fun (x4, V2) => if x4 = 0 then (B_X12_isIn_38 N   V2) else ((F_X12_in l2.toInt64 (-5000 : Int64) (5000 : Int64) V2).bind (fun (x8, V6) => if x8 = 0 then (B_X12_isIn_38 N   V6) else ((F_X12_isInside N l1 l2 V6).bind (fun (x12, V10) => if x12 = 0 then (some ((0 : Int32), V10)) else (some ((1 : Int32), V10))))))))
set_option maxRecDepth 20000 in
theorem t_X12_isIn {g : sx_G} (hG : sx_Go g) {P : Option Value → sv_V → Prop} {r : Int32} {Vr : sv_V} (hP : P (some (.int r)) Vr) {N : Nat} {l1 : Int32} {l2 : Int32} {V : sv_V} (h : F_X12_isIn N l1 l2 V = some (r, Vr)) : sv_N g qX12_isIn 5 0 [(0, .ref 146), (1, .int l1), (2, .int l2)] [] V P := by
  unfold F_X12_isIn at h
  refine sx_aload_n (pc := 0) dX12_isIn_0 sx_m0 ?_
  refine sv_getZ (pc := 1) hG dX12_isIn_1 f_12_764 lay_146 rfl ?_
  refine sx_if_ne (pc := 4) (tgt := 10) dX12_isIn_4 (by decide) (fun c1 => ?_) (fun c1 => ?_)
  · have h := sx_neg c1 h
    refine sx_iload_n (pc := 10) dX12_isIn_10 sx_m1 ?_
    refine sx_i2l (pc := 11) dX12_isIn_11 ?_
    refine sx_ldc2 (pc := 12) dX12_isIn_12 k_X12_871 ?_
    refine sx_ldc2 (pc := 15) dX12_isIn_15 k_X12_873 ?_
    obtain ⟨⟨x4, V2⟩, g3, h⟩ := sx_bnd h
    refine sv_cS (pc := 18) (y := qX12_in) (o := (some (.int x4))) (as := [.long l1.toInt64, .long (-5000 : Int64), .long (5000 : Int64)]) (V1 := V2) dX12_isIn_18 l_X12_263 y0X12_in ysX12_in rfl (Nat.le_of_ble_eq_true rfl) (by decide) (Nat.le_of_ble_eq_true rfl) rfl rfl rfl (t_X12_in hG ⟨rfl, rfl⟩ g3) ?_
    refine sx_if_eq (pc := 21) (tgt := 38) dX12_isIn_21 (by decide) (fun c5 => ?_) (fun c5 => ?_)
    · have h := sx_pos c5 h
      refine sx_wk sx_s0 ?_
      exact tB_X12_isIn_38 hG hP  h
    · have h := sx_neg c5 h
      refine sx_iload_n (pc := 24) dX12_isIn_24 sx_m2 ?_
      refine sx_i2l (pc := 25) dX12_isIn_25 ?_
      refine sx_ldc2 (pc := 26) dX12_isIn_26 k_X12_871 ?_
      refine sx_ldc2 (pc := 29) dX12_isIn_29 k_X12_873 ?_
      obtain ⟨⟨x8, V6⟩, g7, h⟩ := sx_bnd h
      refine sv_cS (pc := 32) (y := qX12_in) (o := (some (.int x8))) (as := [.long l2.toInt64, .long (-5000 : Int64), .long (5000 : Int64)]) (V1 := V6) dX12_isIn_32 l_X12_263 y0X12_in ysX12_in rfl (Nat.le_of_ble_eq_true rfl) (by decide) (Nat.le_of_ble_eq_true rfl) rfl rfl rfl (t_X12_in hG ⟨rfl, rfl⟩ g7) ?_
      refine sx_if_ne (pc := 35) (tgt := 43) dX12_isIn_35 (by decide) (fun c9 => ?_) (fun c9 => ?_)
      · have h := sx_neg c9 h
        refine sx_aload_n (pc := 43) dX12_isIn_43 sx_m0 ?_
        refine sx_iload_n (pc := 44) dX12_isIn_44 sx_m1 ?_
        refine sx_iload_n (pc := 45) dX12_isIn_45 sx_m2 ?_
        obtain ⟨⟨x12, V10⟩, g11, h⟩ := sx_bnd h
        refine sv_cV (pc := 46) (y := qX12_isInside) (o := (some (.int x12))) (as := [.int l1, .int l2]) (V1 := V10) hG dX12_isIn_46 l_X12_875 y0X12_isInside yvX12_isInside rfl (Nat.le_of_ble_eq_true rfl) lay_146 kr_12 (by decide) (Nat.le_of_ble_eq_true rfl) rfl rfl rfl (t_X12_isInside hG ⟨rfl, rfl⟩ g11) ?_
        refine sx_if_eq (pc := 49) (tgt := 56) dX12_isIn_49 (by decide) (fun c13 => ?_) (fun c13 => ?_)
        · have h := sx_pos c13 h
          refine sx_iconst (pc := 56) (v := 0) dX12_isIn_56 (by decide) ?_
          exact sv_iret (pc := 57) dX12_isIn_57 rfl h hP
        · have h := sx_neg c13 h
          refine sx_iconst (pc := 52) (v := 1) dX12_isIn_52 (by decide) ?_
          refine sx_goto (pc := 53) (tgt := 57) dX12_isIn_53 (by decide) ?_
          exact sv_iret (pc := 57) dX12_isIn_57 rfl h hP
      · have h := sx_pos c9 h
        refine sx_wk sx_s0 ?_
        exact tB_X12_isIn_38 hG hP  h
  · have h := sx_pos c1 h
    refine sx_bipush (pc := 7) (v := (-3)) dX12_isIn_7 (by decide) ?_
    exact sv_iret (pc := 9) dX12_isIn_9 rfl h hP
theorem dX12_canvas_0 : decode cX12_canvas 0 = .ok (.iload_n 1, 1) := by decide +kernel
theorem dX12_canvas_1 : decode cX12_canvas 1 = .ok (.i2l, 1) := by decide +kernel
theorem dX12_canvas_2 : decode cX12_canvas 2 = .ok (.lconst 1, 1) := by decide +kernel
theorem dX12_canvas_3 : decode cX12_canvas 3 = .ok (.ldc2_w 879, 3) := by decide +kernel
theorem dX12_canvas_6 : decode cX12_canvas 6 = .ok (.invokestatic 263, 3) := by decide +kernel
theorem dX12_canvas_9 : decode cX12_canvas 9 = .ok (.ifCond .eq 15, 3) := by decide +kernel
theorem dX12_canvas_12 : decode cX12_canvas 12 = .ok (.iload_n 2, 1) := by decide +kernel
theorem dX12_canvas_13 : decode cX12_canvas 13 = .ok (.i2l, 1) := by decide +kernel
theorem dX12_canvas_14 : decode cX12_canvas 14 = .ok (.lconst 1, 1) := by decide +kernel
theorem dX12_canvas_15 : decode cX12_canvas 15 = .ok (.ldc2_w 879, 3) := by decide +kernel
theorem dX12_canvas_18 : decode cX12_canvas 18 = .ok (.invokestatic 263, 3) := by decide +kernel
theorem dX12_canvas_21 : decode cX12_canvas 21 = .ok (.ifCond .ne 6, 3) := by decide +kernel
theorem dX12_canvas_24 : decode cX12_canvas 24 = .ok (.bipush (-2), 2) := by decide +kernel
theorem dX12_canvas_26 : decode cX12_canvas 26 = .ok (.ireturn, 1) := by decide +kernel
theorem dX12_canvas_27 : decode cX12_canvas 27 = .ok (.aload_n 0, 1) := by decide +kernel
theorem dX12_canvas_28 : decode cX12_canvas 28 = .ok (.iload_n 1, 1) := by decide +kernel
theorem dX12_canvas_29 : decode cX12_canvas 29 = .ok (.putfield 881, 3) := by decide +kernel
theorem dX12_canvas_32 : decode cX12_canvas 32 = .ok (.aload_n 0, 1) := by decide +kernel
theorem dX12_canvas_33 : decode cX12_canvas 33 = .ok (.iload_n 2, 1) := by decide +kernel
theorem dX12_canvas_34 : decode cX12_canvas 34 = .ok (.putfield 884, 3) := by decide +kernel
theorem dX12_canvas_37 : decode cX12_canvas 37 = .ok (.iconst 0, 1) := by decide +kernel
theorem dX12_canvas_38 : decode cX12_canvas 38 = .ok (.istore_n 3, 1) := by decide +kernel
theorem dX12_canvas_39 : decode cX12_canvas 39 = .ok (.iload_n 3, 1) := by decide +kernel
theorem dX12_canvas_40 : decode cX12_canvas 40 = .ok (.sipush 16384, 3) := by decide +kernel
theorem dX12_canvas_43 : decode cX12_canvas 43 = .ok (.if_icmp .ge 16, 3) := by decide +kernel
theorem dX12_canvas_46 : decode cX12_canvas 46 = .ok (.aload_n 0, 1) := by decide +kernel
theorem dX12_canvas_47 : decode cX12_canvas 47 = .ok (.getfield 188, 3) := by decide +kernel
theorem dX12_canvas_50 : decode cX12_canvas 50 = .ok (.iload_n 3, 1) := by decide +kernel
theorem dX12_canvas_51 : decode cX12_canvas 51 = .ok (.iconst 0, 1) := by decide +kernel
theorem dX12_canvas_52 : decode cX12_canvas 52 = .ok (.bastore, 1) := by decide +kernel
theorem dX12_canvas_53 : decode cX12_canvas 53 = .ok (.iinc 3 1, 3) := by decide +kernel
theorem dX12_canvas_56 : decode cX12_canvas 56 = .ok (.goto (-17), 3) := by decide +kernel
theorem dX12_canvas_59 : decode cX12_canvas 59 = .ok (.iconst 1, 1) := by decide +kernel
theorem dX12_canvas_60 : decode cX12_canvas 60 = .ok (.ireturn, 1) := by decide +kernel
def B_X12_canvas_39 (N : Nat) (k39 : Int32 → sv_V → Option (Int32 × sv_V)) (l3 : Int32) (V : sv_V) : Option (Int32 × sv_V) := if (16384 : Int32) ≤ l3 then (some ((1 : Int32), V)) else (if sx_in l3 16384 = true then sx_let (sv_I V 204 l3.toNatClampNeg (0 : Int32)) (fun V3 => sx_let (l3 + 1) (fun x4 => k39 x4 V3)) else none)
set_option maxRecDepth 20000 in
theorem tB_X12_canvas_39 {g : sx_G} (hG : sx_Go g) {P : Option Value → sv_V → Prop} {r : Int32} {Vr : sv_V} (hP : P (some (.int r)) Vr) {N : Nat} {k39 : Int32 → sv_V → Option (Int32 × sv_V)} (hk39 : ∀ (l3 : Int32) (V : sv_V), k39 l3 V = some (r, Vr) → sv_N g qX12_canvas 1 39 [(0, .ref 146), (3, .int l3)] [] V P) {l3 : Int32} {V : sv_V} (h : B_X12_canvas_39 N k39 l3 V = some (r, Vr)) : sv_N g qX12_canvas 1 39 [(0, .ref 146), (3, .int l3)] [] V P := by
  unfold B_X12_canvas_39 at h
  refine sx_iload_n (pc := 39) dX12_canvas_39 sx_m1 ?_
  refine sx_sipush (pc := 40) (v := 16384) dX12_canvas_40 (by decide) ?_
  refine sx_icmp_ge (pc := 43) (tgt := 59) dX12_canvas_43 (by decide) (fun c1 => ?_) (fun c1 => ?_)
  · have h := sx_pos c1 h
    refine sx_iconst (pc := 59) (v := 1) dX12_canvas_59 (by decide) ?_
    exact sv_iret (pc := 60) dX12_canvas_60 rfl h hP
  · have h := sx_neg c1 h
    refine sx_aload_n (pc := 46) dX12_canvas_46 sx_m0 ?_
    refine sv_getA (pc := 47) hG dX12_canvas_47 f_12_188 lay_146 rfl cr_146_143 ?_
    refine sx_iload_n (pc := 50) dX12_canvas_50 sx_m1 ?_
    refine sx_iconst (pc := 51) (v := 0) dX12_canvas_51 (by decide) ?_
    obtain ⟨g2, h⟩ := sx_grd h
    obtain ⟨V3, hV3⟩ : ∃ z : sv_V, z = sv_I V 204 l3.toNatClampNeg (0 : Int32) := ⟨_, rfl⟩
    have h := sx_letE hV3 h
    refine sv_zast (pc := 52) hG dX12_canvas_52 lay_204 g2 rfl hV3 ?_
    obtain ⟨x4, hx4⟩ : ∃ z : Int32, z = l3 + 1 := ⟨_, rfl⟩
    have h := sx_letE hx4 h
    refine sx_iinc (pc := 53) (v := x4) (lo' := [(3, .int x4), (0, .ref 146)]) dX12_canvas_53 sx_m1 (by rw [hx4]; rfl) (by decide) rfl ?_
    refine sx_goto (pc := 56) (tgt := 39) dX12_canvas_56 (by decide) ?_
    refine sx_wk (sx_s1 sx_m1 (sx_s1 sx_m0 sx_s0)) ?_
    exact hk39 _ _ h
theorem tL_X12_canvas_39 {g : sx_G} (hG : sx_Go g) {P : Option Value → sv_V → Prop} {r : Int32} {Vr : sv_V} (hP : P (some (.int r)) Vr) {N : Nat}   : ∀ (n : Nat) (l3 : Int32) (V : sv_V), sx_lp2 (B_X12_canvas_39 N ) n l3 V = some (r, Vr) → sv_N g qX12_canvas 1 39 [(0, .ref 146), (3, .int l3)] [] V P :=
  sx_lp2_ind (fun k0 ih _ V h => tB_X12_canvas_39 hG hP ih h)
def F_X12_canvas (N : Nat) (l1 : Int32) (l2 : Int32) (V : sv_V) : Option (Int32 × sv_V) := (F_X12_in l1.toInt64 (1 : Int64) (128 : Int64) V).bind (fun (x7, V5) => if x7 = 0 then (some ((-2 : Int32), V5)) else ((F_X12_in l2.toInt64 (1 : Int64) (128 : Int64) V5).bind (fun (x11, V9) => if x11 = 0 then (some ((-2 : Int32), V9)) else (sx_let (sv_I V9 146 141 l1) (fun V13 => sx_let (sv_I V13 146 142 l2) (fun V14 => sx_lp2 (B_X12_canvas_39 N ) N (0 : Int32) V14))))))
set_option maxRecDepth 20000 in
theorem t_X12_canvas {g : sx_G} (hG : sx_Go g) {P : Option Value → sv_V → Prop} {r : Int32} {Vr : sv_V} (hP : P (some (.int r)) Vr) {N : Nat} {l1 : Int32} {l2 : Int32} {V : sv_V} (h : F_X12_canvas N l1 l2 V = some (r, Vr)) : sv_N g qX12_canvas 1 0 [(0, .ref 146), (1, .int l1), (2, .int l2)] [] V P := by
  unfold F_X12_canvas at h
  refine sx_iload_n (pc := 0) dX12_canvas_0 sx_m1 ?_
  refine sx_i2l (pc := 1) dX12_canvas_1 ?_
  refine sx_lconst (pc := 2) (v := 1) dX12_canvas_2 rfl ?_
  refine sx_ldc2 (pc := 3) dX12_canvas_3 k_X12_879 ?_
  obtain ⟨⟨x7, V5⟩, g6, h⟩ := sx_bnd h
  refine sv_cS (pc := 6) (y := qX12_in) (o := (some (.int x7))) (as := [.long l1.toInt64, .long (1 : Int64), .long (128 : Int64)]) (V1 := V5) dX12_canvas_6 l_X12_263 y0X12_in ysX12_in rfl (Nat.le_of_ble_eq_true rfl) (by decide) (Nat.le_of_ble_eq_true rfl) rfl rfl rfl (t_X12_in hG ⟨rfl, rfl⟩ g6) ?_
  refine sx_if_eq (pc := 9) (tgt := 24) dX12_canvas_9 (by decide) (fun c8 => ?_) (fun c8 => ?_)
  · have h := sx_pos c8 h
    refine sx_bipush (pc := 24) (v := (-2)) dX12_canvas_24 (by decide) ?_
    exact sv_iret (pc := 26) dX12_canvas_26 rfl h hP
  · have h := sx_neg c8 h
    refine sx_iload_n (pc := 12) dX12_canvas_12 sx_m2 ?_
    refine sx_i2l (pc := 13) dX12_canvas_13 ?_
    refine sx_lconst (pc := 14) (v := 1) dX12_canvas_14 rfl ?_
    refine sx_ldc2 (pc := 15) dX12_canvas_15 k_X12_879 ?_
    obtain ⟨⟨x11, V9⟩, g10, h⟩ := sx_bnd h
    refine sv_cS (pc := 18) (y := qX12_in) (o := (some (.int x11))) (as := [.long l2.toInt64, .long (1 : Int64), .long (128 : Int64)]) (V1 := V9) dX12_canvas_18 l_X12_263 y0X12_in ysX12_in rfl (Nat.le_of_ble_eq_true rfl) (by decide) (Nat.le_of_ble_eq_true rfl) rfl rfl rfl (t_X12_in hG ⟨rfl, rfl⟩ g10) ?_
    refine sx_if_ne (pc := 21) (tgt := 27) dX12_canvas_21 (by decide) (fun c12 => ?_) (fun c12 => ?_)
    · have h := sx_neg c12 h
      refine sx_aload_n (pc := 27) dX12_canvas_27 sx_m0 ?_
      refine sx_iload_n (pc := 28) dX12_canvas_28 sx_m1 ?_
      obtain ⟨V13, hV13⟩ : ∃ z : sv_V, z = sv_I V9 146 141 l1 := ⟨_, rfl⟩
      have h := sx_letE hV13 h
      refine sv_putI (pc := 29) hG dX12_canvas_29 f_12_881 lay_146 rfl hV13 ?_
      refine sx_aload_n (pc := 32) dX12_canvas_32 sx_m0 ?_
      refine sx_iload_n (pc := 33) dX12_canvas_33 sx_m2 ?_
      obtain ⟨V14, hV14⟩ : ∃ z : sv_V, z = sv_I V13 146 142 l2 := ⟨_, rfl⟩
      have h := sx_letE hV14 h
      refine sv_putI (pc := 34) hG dX12_canvas_34 f_12_884 lay_146 rfl hV14 ?_
      refine sx_iconst (pc := 37) (v := 0) dX12_canvas_37 (by decide) ?_
      refine sx_istore_n (pc := 38) (lo' := [(3, .int (0 : Int32)), (0, .ref 146), (1, .int l1), (2, .int l2)]) dX12_canvas_38 (by decide) rfl ?_
      refine sx_wk (sx_s1 sx_m1 (sx_s1 sx_m0 sx_s0)) ?_
      exact tL_X12_canvas_39 hG hP  N _ _ h
    · have h := sx_pos c12 h
      refine sx_bipush (pc := 24) (v := (-2)) dX12_canvas_24 (by decide) ?_
      exact sv_iret (pc := 26) dX12_canvas_26 rfl h hP
theorem dX12_drawIt_0 : decode cX12_drawIt 0 = .ok (.sipush 5000, 3) := by decide +kernel
theorem dX12_drawIt_3 : decode cX12_drawIt 3 = .ok (.istore_n 3, 1) := by decide +kernel
theorem dX12_drawIt_4 : decode cX12_drawIt 4 = .ok (.sipush (-5000), 3) := by decide +kernel
theorem dX12_drawIt_7 : decode cX12_drawIt 7 = .ok (.istore 4, 2) := by decide +kernel
theorem dX12_drawIt_9 : decode cX12_drawIt 9 = .ok (.sipush 5000, 3) := by decide +kernel
theorem dX12_drawIt_12 : decode cX12_drawIt 12 = .ok (.istore 5, 2) := by decide +kernel
theorem dX12_drawIt_14 : decode cX12_drawIt 14 = .ok (.sipush (-5000), 3) := by decide +kernel
theorem dX12_drawIt_17 : decode cX12_drawIt 17 = .ok (.istore 6, 2) := by decide +kernel
theorem dX12_drawIt_19 : decode cX12_drawIt 19 = .ok (.iconst 0, 1) := by decide +kernel
theorem dX12_drawIt_20 : decode cX12_drawIt 20 = .ok (.istore 7, 2) := by decide +kernel
theorem dX12_drawIt_22 : decode cX12_drawIt 22 = .ok (.iload 7, 2) := by decide +kernel
theorem dX12_drawIt_24 : decode cX12_drawIt 24 = .ok (.aload_n 0, 1) := by decide +kernel
theorem dX12_drawIt_25 : decode cX12_drawIt 25 = .ok (.getfield 823, 3) := by decide +kernel
theorem dX12_drawIt_28 : decode cX12_drawIt 28 = .ok (.if_icmp .ge 110, 3) := by decide +kernel
theorem dX12_drawIt_31 : decode cX12_drawIt 31 = .ok (.aload_n 0, 1) := by decide +kernel
theorem dX12_drawIt_32 : decode cX12_drawIt 32 = .ok (.getfield 167, 3) := by decide +kernel
theorem dX12_drawIt_35 : decode cX12_drawIt 35 = .ok (.iload 7, 2) := by decide +kernel
theorem dX12_drawIt_37 : decode cX12_drawIt 37 = .ok (.iaload, 1) := by decide +kernel
theorem dX12_drawIt_38 : decode cX12_drawIt 38 = .ok (.iload_n 3, 1) := by decide +kernel
theorem dX12_drawIt_39 : decode cX12_drawIt 39 = .ok (.if_icmp .ge 13, 3) := by decide +kernel
theorem dX12_drawIt_42 : decode cX12_drawIt 42 = .ok (.aload_n 0, 1) := by decide +kernel
theorem dX12_drawIt_43 : decode cX12_drawIt 43 = .ok (.getfield 167, 3) := by decide +kernel
theorem dX12_drawIt_46 : decode cX12_drawIt 46 = .ok (.iload 7, 2) := by decide +kernel
theorem dX12_drawIt_48 : decode cX12_drawIt 48 = .ok (.iaload, 1) := by decide +kernel
theorem dX12_drawIt_49 : decode cX12_drawIt 49 = .ok (.goto 4, 3) := by decide +kernel
theorem dX12_drawIt_52 : decode cX12_drawIt 52 = .ok (.iload_n 3, 1) := by decide +kernel
theorem dX12_drawIt_53 : decode cX12_drawIt 53 = .ok (.istore_n 3, 1) := by decide +kernel
theorem dX12_drawIt_54 : decode cX12_drawIt 54 = .ok (.aload_n 0, 1) := by decide +kernel
theorem dX12_drawIt_55 : decode cX12_drawIt 55 = .ok (.getfield 167, 3) := by decide +kernel
theorem dX12_drawIt_58 : decode cX12_drawIt 58 = .ok (.iload 7, 2) := by decide +kernel
theorem dX12_drawIt_60 : decode cX12_drawIt 60 = .ok (.iaload, 1) := by decide +kernel
theorem dX12_drawIt_61 : decode cX12_drawIt 61 = .ok (.iload 4, 2) := by decide +kernel
theorem dX12_drawIt_63 : decode cX12_drawIt 63 = .ok (.if_icmp .le 13, 3) := by decide +kernel
theorem dX12_drawIt_66 : decode cX12_drawIt 66 = .ok (.aload_n 0, 1) := by decide +kernel
theorem dX12_drawIt_67 : decode cX12_drawIt 67 = .ok (.getfield 167, 3) := by decide +kernel
theorem dX12_drawIt_70 : decode cX12_drawIt 70 = .ok (.iload 7, 2) := by decide +kernel
theorem dX12_drawIt_72 : decode cX12_drawIt 72 = .ok (.iaload, 1) := by decide +kernel
theorem dX12_drawIt_73 : decode cX12_drawIt 73 = .ok (.goto 5, 3) := by decide +kernel
theorem dX12_drawIt_76 : decode cX12_drawIt 76 = .ok (.iload 4, 2) := by decide +kernel
theorem dX12_drawIt_78 : decode cX12_drawIt 78 = .ok (.istore 4, 2) := by decide +kernel
theorem dX12_drawIt_80 : decode cX12_drawIt 80 = .ok (.aload_n 0, 1) := by decide +kernel
theorem dX12_drawIt_81 : decode cX12_drawIt 81 = .ok (.getfield 170, 3) := by decide +kernel
theorem dX12_drawIt_84 : decode cX12_drawIt 84 = .ok (.iload 7, 2) := by decide +kernel
theorem dX12_drawIt_86 : decode cX12_drawIt 86 = .ok (.iaload, 1) := by decide +kernel
theorem dX12_drawIt_87 : decode cX12_drawIt 87 = .ok (.iload 5, 2) := by decide +kernel
theorem dX12_drawIt_89 : decode cX12_drawIt 89 = .ok (.if_icmp .ge 13, 3) := by decide +kernel
theorem dX12_drawIt_92 : decode cX12_drawIt 92 = .ok (.aload_n 0, 1) := by decide +kernel
theorem dX12_drawIt_93 : decode cX12_drawIt 93 = .ok (.getfield 170, 3) := by decide +kernel
theorem dX12_drawIt_96 : decode cX12_drawIt 96 = .ok (.iload 7, 2) := by decide +kernel
theorem dX12_drawIt_98 : decode cX12_drawIt 98 = .ok (.iaload, 1) := by decide +kernel
theorem dX12_drawIt_99 : decode cX12_drawIt 99 = .ok (.goto 5, 3) := by decide +kernel
theorem dX12_drawIt_102 : decode cX12_drawIt 102 = .ok (.iload 5, 2) := by decide +kernel
theorem dX12_drawIt_104 : decode cX12_drawIt 104 = .ok (.istore 5, 2) := by decide +kernel
theorem dX12_drawIt_106 : decode cX12_drawIt 106 = .ok (.aload_n 0, 1) := by decide +kernel
theorem dX12_drawIt_107 : decode cX12_drawIt 107 = .ok (.getfield 170, 3) := by decide +kernel
theorem dX12_drawIt_110 : decode cX12_drawIt 110 = .ok (.iload 7, 2) := by decide +kernel
theorem dX12_drawIt_112 : decode cX12_drawIt 112 = .ok (.iaload, 1) := by decide +kernel
theorem dX12_drawIt_113 : decode cX12_drawIt 113 = .ok (.iload 6, 2) := by decide +kernel
theorem dX12_drawIt_115 : decode cX12_drawIt 115 = .ok (.if_icmp .le 13, 3) := by decide +kernel
theorem dX12_drawIt_118 : decode cX12_drawIt 118 = .ok (.aload_n 0, 1) := by decide +kernel
theorem dX12_drawIt_119 : decode cX12_drawIt 119 = .ok (.getfield 170, 3) := by decide +kernel
theorem dX12_drawIt_122 : decode cX12_drawIt 122 = .ok (.iload 7, 2) := by decide +kernel
theorem dX12_drawIt_124 : decode cX12_drawIt 124 = .ok (.iaload, 1) := by decide +kernel
theorem dX12_drawIt_125 : decode cX12_drawIt 125 = .ok (.goto 5, 3) := by decide +kernel
theorem dX12_drawIt_128 : decode cX12_drawIt 128 = .ok (.iload 6, 2) := by decide +kernel
theorem dX12_drawIt_130 : decode cX12_drawIt 130 = .ok (.istore 6, 2) := by decide +kernel
theorem dX12_drawIt_132 : decode cX12_drawIt 132 = .ok (.iinc 7 1, 3) := by decide +kernel
theorem dX12_drawIt_135 : decode cX12_drawIt 135 = .ok (.goto (-113), 3) := by decide +kernel
theorem dX12_drawIt_138 : decode cX12_drawIt 138 = .ok (.iconst 0, 1) := by decide +kernel
theorem dX12_drawIt_139 : decode cX12_drawIt 139 = .ok (.istore 7, 2) := by decide +kernel
theorem dX12_drawIt_141 : decode cX12_drawIt 141 = .ok (.iconst 0, 1) := by decide +kernel
theorem dX12_drawIt_142 : decode cX12_drawIt 142 = .ok (.istore 8, 2) := by decide +kernel
theorem dX12_drawIt_144 : decode cX12_drawIt 144 = .ok (.iload 8, 2) := by decide +kernel
theorem dX12_drawIt_146 : decode cX12_drawIt 146 = .ok (.aload_n 0, 1) := by decide +kernel
theorem dX12_drawIt_147 : decode cX12_drawIt 147 = .ok (.getfield 884, 3) := by decide +kernel
theorem dX12_drawIt_150 : decode cX12_drawIt 150 = .ok (.if_icmp .ge 126, 3) := by decide +kernel
theorem dX12_drawIt_153 : decode cX12_drawIt 153 = .ok (.bipush 64, 2) := by decide +kernel
theorem dX12_drawIt_155 : decode cX12_drawIt 155 = .ok (.iload 8, 2) := by decide +kernel
theorem dX12_drawIt_157 : decode cX12_drawIt 157 = .ok (.imul, 1) := by decide +kernel
theorem dX12_drawIt_158 : decode cX12_drawIt 158 = .ok (.bipush 32, 2) := by decide +kernel
theorem dX12_drawIt_160 : decode cX12_drawIt 160 = .ok (.iadd, 1) := by decide +kernel
theorem dX12_drawIt_161 : decode cX12_drawIt 161 = .ok (.iload_n 2, 1) := by decide +kernel
theorem dX12_drawIt_162 : decode cX12_drawIt 162 = .ok (.isub, 1) := by decide +kernel
theorem dX12_drawIt_163 : decode cX12_drawIt 163 = .ok (.istore 9, 2) := by decide +kernel
theorem dX12_drawIt_165 : decode cX12_drawIt 165 = .ok (.iconst 0, 1) := by decide +kernel
theorem dX12_drawIt_166 : decode cX12_drawIt 166 = .ok (.istore 10, 2) := by decide +kernel
theorem dX12_drawIt_168 : decode cX12_drawIt 168 = .ok (.iload 10, 2) := by decide +kernel
theorem dX12_drawIt_170 : decode cX12_drawIt 170 = .ok (.aload_n 0, 1) := by decide +kernel
theorem dX12_drawIt_171 : decode cX12_drawIt 171 = .ok (.getfield 881, 3) := by decide +kernel
theorem dX12_drawIt_174 : decode cX12_drawIt 174 = .ok (.if_icmp .ge 96, 3) := by decide +kernel
theorem dX12_drawIt_177 : decode cX12_drawIt 177 = .ok (.iload 9, 2) := by decide +kernel
theorem dX12_drawIt_179 : decode cX12_drawIt 179 = .ok (.i2l, 1) := by decide +kernel
theorem dX12_drawIt_180 : decode cX12_drawIt 180 = .ok (.iload 5, 2) := by decide +kernel
theorem dX12_drawIt_182 : decode cX12_drawIt 182 = .ok (.i2l, 1) := by decide +kernel
theorem dX12_drawIt_183 : decode cX12_drawIt 183 = .ok (.iload 6, 2) := by decide +kernel
theorem dX12_drawIt_185 : decode cX12_drawIt 185 = .ok (.i2l, 1) := by decide +kernel
theorem dX12_drawIt_186 : decode cX12_drawIt 186 = .ok (.invokestatic 263, 3) := by decide +kernel
theorem dX12_drawIt_189 : decode cX12_drawIt 189 = .ok (.ifCond .eq 81, 3) := by decide +kernel
theorem dX12_drawIt_192 : decode cX12_drawIt 192 = .ok (.bipush 64, 2) := by decide +kernel
theorem dX12_drawIt_194 : decode cX12_drawIt 194 = .ok (.iload 10, 2) := by decide +kernel
theorem dX12_drawIt_196 : decode cX12_drawIt 196 = .ok (.imul, 1) := by decide +kernel
theorem dX12_drawIt_197 : decode cX12_drawIt 197 = .ok (.bipush 32, 2) := by decide +kernel
theorem dX12_drawIt_199 : decode cX12_drawIt 199 = .ok (.iadd, 1) := by decide +kernel
theorem dX12_drawIt_200 : decode cX12_drawIt 200 = .ok (.iload_n 1, 1) := by decide +kernel
theorem dX12_drawIt_201 : decode cX12_drawIt 201 = .ok (.isub, 1) := by decide +kernel
theorem dX12_drawIt_202 : decode cX12_drawIt 202 = .ok (.istore 11, 2) := by decide +kernel
theorem dX12_drawIt_204 : decode cX12_drawIt 204 = .ok (.iload 11, 2) := by decide +kernel
theorem dX12_drawIt_206 : decode cX12_drawIt 206 = .ok (.i2l, 1) := by decide +kernel
theorem dX12_drawIt_207 : decode cX12_drawIt 207 = .ok (.iload_n 3, 1) := by decide +kernel
theorem dX12_drawIt_208 : decode cX12_drawIt 208 = .ok (.i2l, 1) := by decide +kernel
theorem dX12_drawIt_209 : decode cX12_drawIt 209 = .ok (.iload 4, 2) := by decide +kernel
theorem dX12_drawIt_211 : decode cX12_drawIt 211 = .ok (.i2l, 1) := by decide +kernel
theorem dX12_drawIt_212 : decode cX12_drawIt 212 = .ok (.invokestatic 263, 3) := by decide +kernel
theorem dX12_drawIt_215 : decode cX12_drawIt 215 = .ok (.ifCond .eq 49, 3) := by decide +kernel
theorem dX12_drawIt_218 : decode cX12_drawIt 218 = .ok (.aload_n 0, 1) := by decide +kernel
theorem dX12_drawIt_219 : decode cX12_drawIt 219 = .ok (.getfield 188, 3) := by decide +kernel
theorem dX12_drawIt_222 : decode cX12_drawIt 222 = .ok (.sipush 128, 3) := by decide +kernel
theorem dX12_drawIt_225 : decode cX12_drawIt 225 = .ok (.iload 8, 2) := by decide +kernel
theorem dX12_drawIt_227 : decode cX12_drawIt 227 = .ok (.imul, 1) := by decide +kernel
theorem dX12_drawIt_228 : decode cX12_drawIt 228 = .ok (.iload 10, 2) := by decide +kernel
theorem dX12_drawIt_230 : decode cX12_drawIt 230 = .ok (.iadd, 1) := by decide +kernel
theorem dX12_drawIt_231 : decode cX12_drawIt 231 = .ok (.baload, 1) := by decide +kernel
theorem dX12_drawIt_232 : decode cX12_drawIt 232 = .ok (.ifCond .ne 32, 3) := by decide +kernel
theorem dX12_drawIt_235 : decode cX12_drawIt 235 = .ok (.aload_n 0, 1) := by decide +kernel
theorem dX12_drawIt_236 : decode cX12_drawIt 236 = .ok (.iload 11, 2) := by decide +kernel
theorem dX12_drawIt_238 : decode cX12_drawIt 238 = .ok (.iload 9, 2) := by decide +kernel
theorem dX12_drawIt_240 : decode cX12_drawIt 240 = .ok (.invokevirtual 875, 3) := by decide +kernel
theorem dX12_drawIt_243 : decode cX12_drawIt 243 = .ok (.ifCond .eq 21, 3) := by decide +kernel
theorem dX12_drawIt_246 : decode cX12_drawIt 246 = .ok (.aload_n 0, 1) := by decide +kernel
theorem dX12_drawIt_247 : decode cX12_drawIt 247 = .ok (.getfield 188, 3) := by decide +kernel
theorem dX12_drawIt_250 : decode cX12_drawIt 250 = .ok (.sipush 128, 3) := by decide +kernel
theorem dX12_drawIt_253 : decode cX12_drawIt 253 = .ok (.iload 8, 2) := by decide +kernel
theorem dX12_drawIt_255 : decode cX12_drawIt 255 = .ok (.imul, 1) := by decide +kernel
theorem dX12_drawIt_256 : decode cX12_drawIt 256 = .ok (.iload 10, 2) := by decide +kernel
theorem dX12_drawIt_258 : decode cX12_drawIt 258 = .ok (.iadd, 1) := by decide +kernel
theorem dX12_drawIt_259 : decode cX12_drawIt 259 = .ok (.iconst 1, 1) := by decide +kernel
theorem dX12_drawIt_260 : decode cX12_drawIt 260 = .ok (.bastore, 1) := by decide +kernel
theorem dX12_drawIt_261 : decode cX12_drawIt 261 = .ok (.iinc 7 1, 3) := by decide +kernel
theorem dX12_drawIt_264 : decode cX12_drawIt 264 = .ok (.iinc 10 1, 3) := by decide +kernel
theorem dX12_drawIt_267 : decode cX12_drawIt 267 = .ok (.goto (-99), 3) := by decide +kernel
theorem dX12_drawIt_270 : decode cX12_drawIt 270 = .ok (.iinc 8 1, 3) := by decide +kernel
theorem dX12_drawIt_273 : decode cX12_drawIt 273 = .ok (.goto (-129), 3) := by decide +kernel
theorem dX12_drawIt_276 : decode cX12_drawIt 276 = .ok (.iload 7, 2) := by decide +kernel
theorem dX12_drawIt_278 : decode cX12_drawIt 278 = .ok (.ireturn, 1) := by decide +kernel
def B_X12_drawIt_130 (N : Nat) (k22 : Int32 → Int32 → Int32 → Int32 → Int32 → Int32 → Int32 → sv_V → Option (Int32 × sv_V)) (l1 : Int32) (l2 : Int32) (l3 : Int32) (l4 : Int32) (l5 : Int32) (l7 : Int32) (s0 : Int32) (V : sv_V) : Option (Int32 × sv_V) := sx_let (l7 + 1) (fun x1 => k22 l1 l2 l3 l4 l5 s0 x1 V)
set_option maxRecDepth 20000 in
theorem tB_X12_drawIt_130 {g : sx_G} (hG : sx_Go g) {P : Option Value → sv_V → Prop} {r : Int32} {Vr : sv_V} (hP : P (some (.int r)) Vr) {N : Nat} {k22 : Int32 → Int32 → Int32 → Int32 → Int32 → Int32 → Int32 → sv_V → Option (Int32 × sv_V)} (hk22 : ∀ (l1 : Int32) (l2 : Int32) (l3 : Int32) (l4 : Int32) (l5 : Int32) (l6 : Int32) (l7 : Int32) (V : sv_V), k22 l1 l2 l3 l4 l5 l6 l7 V = some (r, Vr) → sv_N g qX12_drawIt 5 22 [(0, .ref 146), (1, .int l1), (2, .int l2), (3, .int l3), (4, .int l4), (5, .int l5), (6, .int l6), (7, .int l7)] [] V P) {l1 : Int32} {l2 : Int32} {l3 : Int32} {l4 : Int32} {l5 : Int32} {l7 : Int32} {s0 : Int32} {V : sv_V} (h : B_X12_drawIt_130 N k22 l1 l2 l3 l4 l5 l7 s0 V = some (r, Vr)) : sv_N g qX12_drawIt 5 130 [(0, .ref 146), (1, .int l1), (2, .int l2), (3, .int l3), (4, .int l4), (5, .int l5), (7, .int l7)] [.int s0] V P := by
  unfold B_X12_drawIt_130 at h
  refine sx_istore (pc := 130) (lo' := [(6, .int s0), (0, .ref 146), (1, .int l1), (2, .int l2), (3, .int l3), (4, .int l4), (5, .int l5), (7, .int l7)]) dX12_drawIt_130 (by decide) rfl ?_
  obtain ⟨x1, hx1⟩ : ∃ z : Int32, z = l7 + 1 := ⟨_, rfl⟩
  have h := sx_letE hx1 h
  refine sx_iinc (pc := 132) (v := x1) (lo' := [(7, .int x1), (6, .int s0), (0, .ref 146), (1, .int l1), (2, .int l2), (3, .int l3), (4, .int l4), (5, .int l5)]) dX12_drawIt_132 sx_m7 (by rw [hx1]; rfl) (by decide) rfl ?_
  refine sx_goto (pc := 135) (tgt := 22) dX12_drawIt_135 (by decide) ?_
  refine sx_wk (sx_s1 sx_m2 (sx_s1 sx_m3 (sx_s1 sx_m4 (sx_s1 sx_m5 (sx_s1 sx_m6 (sx_s1 sx_m7 (sx_s1 sx_m1 (sx_s1 sx_m0 sx_s0)))))))) ?_
  exact hk22 _ _ _ _ _ _ _ _ h
def B_X12_drawIt_104 (N : Nat) (k22 : Int32 → Int32 → Int32 → Int32 → Int32 → Int32 → Int32 → sv_V → Option (Int32 × sv_V)) (l1 : Int32) (l2 : Int32) (l3 : Int32) (l4 : Int32) (l6 : Int32) (l7 : Int32) (s0 : Int32) (V : sv_V) : Option (Int32 × sv_V) := if sx_in l7 100 = true then if (V.1 198 l7.toNatClampNeg) ≤ l6 then (B_X12_drawIt_130 N k22 l1 l2 l3 l4 s0 l7 l6 V) else (if sx_in l7 100 = true then B_X12_drawIt_130 N k22 l1 l2 l3 l4 s0 l7 (V.1 198 l7.toNatClampNeg) V else none) else none
set_option maxRecDepth 20000 in
theorem tB_X12_drawIt_104 {g : sx_G} (hG : sx_Go g) {P : Option Value → sv_V → Prop} {r : Int32} {Vr : sv_V} (hP : P (some (.int r)) Vr) {N : Nat} {k22 : Int32 → Int32 → Int32 → Int32 → Int32 → Int32 → Int32 → sv_V → Option (Int32 × sv_V)} (hk22 : ∀ (l1 : Int32) (l2 : Int32) (l3 : Int32) (l4 : Int32) (l5 : Int32) (l6 : Int32) (l7 : Int32) (V : sv_V), k22 l1 l2 l3 l4 l5 l6 l7 V = some (r, Vr) → sv_N g qX12_drawIt 5 22 [(0, .ref 146), (1, .int l1), (2, .int l2), (3, .int l3), (4, .int l4), (5, .int l5), (6, .int l6), (7, .int l7)] [] V P) {l1 : Int32} {l2 : Int32} {l3 : Int32} {l4 : Int32} {l6 : Int32} {l7 : Int32} {s0 : Int32} {V : sv_V} (h : B_X12_drawIt_104 N k22 l1 l2 l3 l4 l6 l7 s0 V = some (r, Vr)) : sv_N g qX12_drawIt 5 104 [(0, .ref 146), (1, .int l1), (2, .int l2), (3, .int l3), (4, .int l4), (6, .int l6), (7, .int l7)] [.int s0] V P := by
  unfold B_X12_drawIt_104 at h
  refine sx_istore (pc := 104) (lo' := [(5, .int s0), (0, .ref 146), (1, .int l1), (2, .int l2), (3, .int l3), (4, .int l4), (6, .int l6), (7, .int l7)]) dX12_drawIt_104 (by decide) rfl ?_
  refine sx_aload_n (pc := 106) dX12_drawIt_106 sx_m1 ?_
  refine sv_getA (pc := 107) hG dX12_drawIt_107 f_12_170 lay_146 rfl cr_146_131 ?_
  refine sx_iload (pc := 110) dX12_drawIt_110 sx_m7 ?_
  obtain ⟨g2, h⟩ := sx_grd h
  refine sv_iald (pc := 112) hG dX12_drawIt_112 lay_198 g2 ?_
  refine sx_iload (pc := 113) dX12_drawIt_113 sx_m6 ?_
  refine sx_icmp_le (pc := 115) (tgt := 128) dX12_drawIt_115 (by decide) (fun c3 => ?_) (fun c3 => ?_)
  · have h := sx_pos c3 h
    refine sx_iload (pc := 128) dX12_drawIt_128 sx_m6 ?_
    refine sx_wk (sx_s1 sx_m1 (sx_s1 sx_m2 (sx_s1 sx_m3 (sx_s1 sx_m4 (sx_s1 sx_m5 (sx_s1 sx_m0 (sx_s1 sx_m7 sx_s0))))))) ?_
    exact tB_X12_drawIt_130 hG hP hk22 h
  · have h := sx_neg c3 h
    refine sx_aload_n (pc := 118) dX12_drawIt_118 sx_m1 ?_
    refine sv_getA (pc := 119) hG dX12_drawIt_119 f_12_170 lay_146 rfl cr_146_131 ?_
    refine sx_iload (pc := 122) dX12_drawIt_122 sx_m7 ?_
    obtain ⟨g4, h⟩ := sx_grd h
    refine sv_iald (pc := 124) hG dX12_drawIt_124 lay_198 g4 ?_
    refine sx_goto (pc := 125) (tgt := 130) dX12_drawIt_125 (by decide) ?_
    refine sx_wk (sx_s1 sx_m1 (sx_s1 sx_m2 (sx_s1 sx_m3 (sx_s1 sx_m4 (sx_s1 sx_m5 (sx_s1 sx_m0 (sx_s1 sx_m7 sx_s0))))))) ?_
    exact tB_X12_drawIt_130 hG hP hk22 h
def B_X12_drawIt_78 (N : Nat) (k22 : Int32 → Int32 → Int32 → Int32 → Int32 → Int32 → Int32 → sv_V → Option (Int32 × sv_V)) (l1 : Int32) (l2 : Int32) (l3 : Int32) (l5 : Int32) (l6 : Int32) (l7 : Int32) (s0 : Int32) (V : sv_V) : Option (Int32 × sv_V) := if sx_in l7 100 = true then if l5 ≤ (V.1 198 l7.toNatClampNeg) then (B_X12_drawIt_104 N k22 l1 l2 l3 s0 l6 l7 l5 V) else (if sx_in l7 100 = true then B_X12_drawIt_104 N k22 l1 l2 l3 s0 l6 l7 (V.1 198 l7.toNatClampNeg) V else none) else none
set_option maxRecDepth 20000 in
theorem tB_X12_drawIt_78 {g : sx_G} (hG : sx_Go g) {P : Option Value → sv_V → Prop} {r : Int32} {Vr : sv_V} (hP : P (some (.int r)) Vr) {N : Nat} {k22 : Int32 → Int32 → Int32 → Int32 → Int32 → Int32 → Int32 → sv_V → Option (Int32 × sv_V)} (hk22 : ∀ (l1 : Int32) (l2 : Int32) (l3 : Int32) (l4 : Int32) (l5 : Int32) (l6 : Int32) (l7 : Int32) (V : sv_V), k22 l1 l2 l3 l4 l5 l6 l7 V = some (r, Vr) → sv_N g qX12_drawIt 5 22 [(0, .ref 146), (1, .int l1), (2, .int l2), (3, .int l3), (4, .int l4), (5, .int l5), (6, .int l6), (7, .int l7)] [] V P) {l1 : Int32} {l2 : Int32} {l3 : Int32} {l5 : Int32} {l6 : Int32} {l7 : Int32} {s0 : Int32} {V : sv_V} (h : B_X12_drawIt_78 N k22 l1 l2 l3 l5 l6 l7 s0 V = some (r, Vr)) : sv_N g qX12_drawIt 5 78 [(0, .ref 146), (1, .int l1), (2, .int l2), (3, .int l3), (5, .int l5), (6, .int l6), (7, .int l7)] [.int s0] V P := by
  unfold B_X12_drawIt_78 at h
  refine sx_istore (pc := 78) (lo' := [(4, .int s0), (0, .ref 146), (1, .int l1), (2, .int l2), (3, .int l3), (5, .int l5), (6, .int l6), (7, .int l7)]) dX12_drawIt_78 (by decide) rfl ?_
  refine sx_aload_n (pc := 80) dX12_drawIt_80 sx_m1 ?_
  refine sv_getA (pc := 81) hG dX12_drawIt_81 f_12_170 lay_146 rfl cr_146_131 ?_
  refine sx_iload (pc := 84) dX12_drawIt_84 sx_m7 ?_
  obtain ⟨g5, h⟩ := sx_grd h
  refine sv_iald (pc := 86) hG dX12_drawIt_86 lay_198 g5 ?_
  refine sx_iload (pc := 87) dX12_drawIt_87 sx_m5 ?_
  refine sx_icmp_ge (pc := 89) (tgt := 102) dX12_drawIt_89 (by decide) (fun c6 => ?_) (fun c6 => ?_)
  · have h := sx_pos c6 h
    refine sx_iload (pc := 102) dX12_drawIt_102 sx_m5 ?_
    refine sx_wk (sx_s1 sx_m1 (sx_s1 sx_m2 (sx_s1 sx_m3 (sx_s1 sx_m4 (sx_s1 sx_m0 (sx_s1 sx_m6 (sx_s1 sx_m7 sx_s0))))))) ?_
    exact tB_X12_drawIt_104 hG hP hk22 h
  · have h := sx_neg c6 h
    refine sx_aload_n (pc := 92) dX12_drawIt_92 sx_m1 ?_
    refine sv_getA (pc := 93) hG dX12_drawIt_93 f_12_170 lay_146 rfl cr_146_131 ?_
    refine sx_iload (pc := 96) dX12_drawIt_96 sx_m7 ?_
    obtain ⟨g7, h⟩ := sx_grd h
    refine sv_iald (pc := 98) hG dX12_drawIt_98 lay_198 g7 ?_
    refine sx_goto (pc := 99) (tgt := 104) dX12_drawIt_99 (by decide) ?_
    refine sx_wk (sx_s1 sx_m1 (sx_s1 sx_m2 (sx_s1 sx_m3 (sx_s1 sx_m4 (sx_s1 sx_m0 (sx_s1 sx_m6 (sx_s1 sx_m7 sx_s0))))))) ?_
    exact tB_X12_drawIt_104 hG hP hk22 h
def B_X12_drawIt_53 (N : Nat) (k22 : Int32 → Int32 → Int32 → Int32 → Int32 → Int32 → Int32 → sv_V → Option (Int32 × sv_V)) (l1 : Int32) (l2 : Int32) (l4 : Int32) (l5 : Int32) (l6 : Int32) (l7 : Int32) (s0 : Int32) (V : sv_V) : Option (Int32 × sv_V) := if sx_in l7 100 = true then if (V.1 197 l7.toNatClampNeg) ≤ l4 then (B_X12_drawIt_78 N k22 l1 l2 s0 l5 l6 l7 l4 V) else (if sx_in l7 100 = true then B_X12_drawIt_78 N k22 l1 l2 s0 l5 l6 l7 (V.1 197 l7.toNatClampNeg) V else none) else none
set_option maxRecDepth 20000 in
theorem tB_X12_drawIt_53 {g : sx_G} (hG : sx_Go g) {P : Option Value → sv_V → Prop} {r : Int32} {Vr : sv_V} (hP : P (some (.int r)) Vr) {N : Nat} {k22 : Int32 → Int32 → Int32 → Int32 → Int32 → Int32 → Int32 → sv_V → Option (Int32 × sv_V)} (hk22 : ∀ (l1 : Int32) (l2 : Int32) (l3 : Int32) (l4 : Int32) (l5 : Int32) (l6 : Int32) (l7 : Int32) (V : sv_V), k22 l1 l2 l3 l4 l5 l6 l7 V = some (r, Vr) → sv_N g qX12_drawIt 5 22 [(0, .ref 146), (1, .int l1), (2, .int l2), (3, .int l3), (4, .int l4), (5, .int l5), (6, .int l6), (7, .int l7)] [] V P) {l1 : Int32} {l2 : Int32} {l4 : Int32} {l5 : Int32} {l6 : Int32} {l7 : Int32} {s0 : Int32} {V : sv_V} (h : B_X12_drawIt_53 N k22 l1 l2 l4 l5 l6 l7 s0 V = some (r, Vr)) : sv_N g qX12_drawIt 5 53 [(0, .ref 146), (1, .int l1), (2, .int l2), (4, .int l4), (5, .int l5), (6, .int l6), (7, .int l7)] [.int s0] V P := by
  unfold B_X12_drawIt_53 at h
  refine sx_istore_n (pc := 53) (lo' := [(3, .int s0), (0, .ref 146), (1, .int l1), (2, .int l2), (4, .int l4), (5, .int l5), (6, .int l6), (7, .int l7)]) dX12_drawIt_53 (by decide) rfl ?_
  refine sx_aload_n (pc := 54) dX12_drawIt_54 sx_m1 ?_
  refine sv_getA (pc := 55) hG dX12_drawIt_55 f_12_167 lay_146 rfl cr_146_130 ?_
  refine sx_iload (pc := 58) dX12_drawIt_58 sx_m7 ?_
  obtain ⟨g8, h⟩ := sx_grd h
  refine sv_iald (pc := 60) hG dX12_drawIt_60 lay_197 g8 ?_
  refine sx_iload (pc := 61) dX12_drawIt_61 sx_m4 ?_
  refine sx_icmp_le (pc := 63) (tgt := 76) dX12_drawIt_63 (by decide) (fun c9 => ?_) (fun c9 => ?_)
  · have h := sx_pos c9 h
    refine sx_iload (pc := 76) dX12_drawIt_76 sx_m4 ?_
    refine sx_wk (sx_s1 sx_m1 (sx_s1 sx_m2 (sx_s1 sx_m3 (sx_s1 sx_m0 (sx_s1 sx_m5 (sx_s1 sx_m6 (sx_s1 sx_m7 sx_s0))))))) ?_
    exact tB_X12_drawIt_78 hG hP hk22 h
  · have h := sx_neg c9 h
    refine sx_aload_n (pc := 66) dX12_drawIt_66 sx_m1 ?_
    refine sv_getA (pc := 67) hG dX12_drawIt_67 f_12_167 lay_146 rfl cr_146_130 ?_
    refine sx_iload (pc := 70) dX12_drawIt_70 sx_m7 ?_
    obtain ⟨g10, h⟩ := sx_grd h
    refine sv_iald (pc := 72) hG dX12_drawIt_72 lay_197 g10 ?_
    refine sx_goto (pc := 73) (tgt := 78) dX12_drawIt_73 (by decide) ?_
    refine sx_wk (sx_s1 sx_m1 (sx_s1 sx_m2 (sx_s1 sx_m3 (sx_s1 sx_m0 (sx_s1 sx_m5 (sx_s1 sx_m6 (sx_s1 sx_m7 sx_s0))))))) ?_
    exact tB_X12_drawIt_78 hG hP hk22 h
def B_X12_drawIt_264 (N : Nat) (k144 : Int32 → Int32 → Int32 → Int32 → Int32 → Int32 → Int32 → Int32 → sv_V → Option (Int32 × sv_V)) (k168 : Int32 → Int32 → Int32 → Int32 → Int32 → Int32 → Int32 → Int32 → Int32 → Int32 → sv_V → Option (Int32 × sv_V)) (l1 : Int32) (l2 : Int32) (l3 : Int32) (l4 : Int32) (l5 : Int32) (l6 : Int32) (l7 : Int32) (l8 : Int32) (l9 : Int32) (l10 : Int32) (V : sv_V) : Option (Int32 × sv_V) := sx_let (l10 + 1) (fun x11 => k168 l1 l2 l3 l4 l5 l6 l7 l8 l9 x11 V)
set_option maxRecDepth 20000 in
theorem tB_X12_drawIt_264 {g : sx_G} (hG : sx_Go g) {P : Option Value → sv_V → Prop} {r : Int32} {Vr : sv_V} (hP : P (some (.int r)) Vr) {N : Nat} {k144 : Int32 → Int32 → Int32 → Int32 → Int32 → Int32 → Int32 → Int32 → sv_V → Option (Int32 × sv_V)} {k168 : Int32 → Int32 → Int32 → Int32 → Int32 → Int32 → Int32 → Int32 → Int32 → Int32 → sv_V → Option (Int32 × sv_V)} (hk144 : ∀ (l1 : Int32) (l2 : Int32) (l3 : Int32) (l4 : Int32) (l5 : Int32) (l6 : Int32) (l7 : Int32) (l8 : Int32) (V : sv_V), k144 l1 l2 l3 l4 l5 l6 l7 l8 V = some (r, Vr) → sv_N g qX12_drawIt 5 144 [(0, .ref 146), (1, .int l1), (2, .int l2), (3, .int l3), (4, .int l4), (5, .int l5), (6, .int l6), (7, .int l7), (8, .int l8)] [] V P) (hk168 : ∀ (l1 : Int32) (l2 : Int32) (l3 : Int32) (l4 : Int32) (l5 : Int32) (l6 : Int32) (l7 : Int32) (l8 : Int32) (l9 : Int32) (l10 : Int32) (V : sv_V), k168 l1 l2 l3 l4 l5 l6 l7 l8 l9 l10 V = some (r, Vr) → sv_N g qX12_drawIt 5 168 [(0, .ref 146), (1, .int l1), (2, .int l2), (3, .int l3), (4, .int l4), (5, .int l5), (6, .int l6), (7, .int l7), (8, .int l8), (9, .int l9), (10, .int l10)] [] V P) {l1 : Int32} {l2 : Int32} {l3 : Int32} {l4 : Int32} {l5 : Int32} {l6 : Int32} {l7 : Int32} {l8 : Int32} {l9 : Int32} {l10 : Int32} {V : sv_V} (h : B_X12_drawIt_264 N k144 k168 l1 l2 l3 l4 l5 l6 l7 l8 l9 l10 V = some (r, Vr)) : sv_N g qX12_drawIt 5 264 [(0, .ref 146), (1, .int l1), (2, .int l2), (3, .int l3), (4, .int l4), (5, .int l5), (6, .int l6), (7, .int l7), (8, .int l8), (9, .int l9), (10, .int l10)] [] V P := by
  unfold B_X12_drawIt_264 at h
  obtain ⟨x11, hx11⟩ : ∃ z : Int32, z = l10 + 1 := ⟨_, rfl⟩
  have h := sx_letE hx11 h
  refine sx_iinc (pc := 264) (v := x11) (lo' := [(10, .int x11), (0, .ref 146), (1, .int l1), (2, .int l2), (3, .int l3), (4, .int l4), (5, .int l5), (6, .int l6), (7, .int l7), (8, .int l8), (9, .int l9)]) dX12_drawIt_264 sx_m10 (by rw [hx11]; rfl) (by decide) rfl ?_
  refine sx_goto (pc := 267) (tgt := 168) dX12_drawIt_267 (by decide) ?_
  refine sx_wk (sx_s1 sx_m1 (sx_s1 sx_m2 (sx_s1 sx_m3 (sx_s1 sx_m4 (sx_s1 sx_m5 (sx_s1 sx_m6 (sx_s1 sx_m7 (sx_s1 sx_m8 (sx_s1 sx_m9 (sx_s1 sx_m10 (sx_s1 sx_m0 sx_s0))))))))))) ?_
  exact hk168 _ _ _ _ _ _ _ _ _ _ _ h
def B_X12_drawIt_270 (N : Nat) (k144 : Int32 → Int32 → Int32 → Int32 → Int32 → Int32 → Int32 → Int32 → sv_V → Option (Int32 × sv_V)) (l1 : Int32) (l2 : Int32) (l3 : Int32) (l4 : Int32) (l5 : Int32) (l6 : Int32) (l7 : Int32) (l8 : Int32) (V : sv_V) : Option (Int32 × sv_V) := sx_let (l8 + 1) (fun x12 => k144 l1 l2 l3 l4 l5 l6 l7 x12 V)
set_option maxRecDepth 20000 in
theorem tB_X12_drawIt_270 {g : sx_G} (hG : sx_Go g) {P : Option Value → sv_V → Prop} {r : Int32} {Vr : sv_V} (hP : P (some (.int r)) Vr) {N : Nat} {k144 : Int32 → Int32 → Int32 → Int32 → Int32 → Int32 → Int32 → Int32 → sv_V → Option (Int32 × sv_V)} (hk144 : ∀ (l1 : Int32) (l2 : Int32) (l3 : Int32) (l4 : Int32) (l5 : Int32) (l6 : Int32) (l7 : Int32) (l8 : Int32) (V : sv_V), k144 l1 l2 l3 l4 l5 l6 l7 l8 V = some (r, Vr) → sv_N g qX12_drawIt 5 144 [(0, .ref 146), (1, .int l1), (2, .int l2), (3, .int l3), (4, .int l4), (5, .int l5), (6, .int l6), (7, .int l7), (8, .int l8)] [] V P) {l1 : Int32} {l2 : Int32} {l3 : Int32} {l4 : Int32} {l5 : Int32} {l6 : Int32} {l7 : Int32} {l8 : Int32} {V : sv_V} (h : B_X12_drawIt_270 N k144 l1 l2 l3 l4 l5 l6 l7 l8 V = some (r, Vr)) : sv_N g qX12_drawIt 5 270 [(0, .ref 146), (1, .int l1), (2, .int l2), (3, .int l3), (4, .int l4), (5, .int l5), (6, .int l6), (7, .int l7), (8, .int l8)] [] V P := by
  unfold B_X12_drawIt_270 at h
  obtain ⟨x12, hx12⟩ : ∃ z : Int32, z = l8 + 1 := ⟨_, rfl⟩
  have h := sx_letE hx12 h
  refine sx_iinc (pc := 270) (v := x12) (lo' := [(8, .int x12), (0, .ref 146), (1, .int l1), (2, .int l2), (3, .int l3), (4, .int l4), (5, .int l5), (6, .int l6), (7, .int l7)]) dX12_drawIt_270 sx_m8 (by rw [hx12]; rfl) (by decide) rfl ?_
  refine sx_goto (pc := 273) (tgt := 144) dX12_drawIt_273 (by decide) ?_
  refine sx_wk (sx_s1 sx_m1 (sx_s1 sx_m2 (sx_s1 sx_m3 (sx_s1 sx_m4 (sx_s1 sx_m5 (sx_s1 sx_m6 (sx_s1 sx_m7 (sx_s1 sx_m8 (sx_s1 sx_m0 sx_s0))))))))) ?_
  exact hk144 _ _ _ _ _ _ _ _ _ h
def B_X12_drawIt_168 (N : Nat) (k144 : Int32 → Int32 → Int32 → Int32 → Int32 → Int32 → Int32 → Int32 → sv_V → Option (Int32 × sv_V)) (k168 : Int32 → Int32 → Int32 → Int32 → Int32 → Int32 → Int32 → Int32 → Int32 → Int32 → sv_V → Option (Int32 × sv_V)) (l1 : Int32) (l2 : Int32) (l3 : Int32) (l4 : Int32) (l5 : Int32) (l6 : Int32) (l7 : Int32) (l8 : Int32) (l9 : Int32) (l10 : Int32) (V : sv_V) : Option (Int32 × sv_V) := if (V.1 146 141) ≤ l10 then (B_X12_drawIt_270 N k144 l1 l2 l3 l4 l5 l6 l7 l8 V) else ((F_X12_in l9.toInt64 l5.toInt64 l6.toInt64 V).bind (fun (x16, V14) => if x16 = 0 then (B_X12_drawIt_270 N k144 l1 l2 l3 l4 l5 l6 l7 l8 V14) else (sx_let ((((64 : Int32) * l10) + (32 : Int32)) - l1) (fun x18 => (F_X12_in x18.toInt64 l3.toInt64 l4.toInt64 V14).bind (fun (x21, V19) => if x21 = 0 then (B_X12_drawIt_264 N k144 k168 l1 l2 l3 l4 l5 l6 l7 l8 l9 l10 V19) else (if sx_in (((128 : Int32) * l8) + l10) 16384 = true then if (V19.1 204 (((128 : Int32) * l8) + l10).toNatClampNeg) = 0 then ((F_X12_isInside N x18 l9 V19).bind (fun (x27, V25) => if x27 = 0 then (B_X12_drawIt_264 N k144 k168 l1 l2 l3 l4 l5 l6 l7 l8 l9 l10 V25) else (if sx_in (((128 : Int32) * l8) + l10) 16384 = true then sx_let (sv_I V25 204 (((128 : Int32) * l8) + l10).toNatClampNeg (1 : Int32)) (fun V30 => sx_let (l7 + 1) (fun x31 => B_X12_drawIt_264 N k144 k168 l1 l2 l3 l4 l5 l6 x31 l8 l9 l10 V30)) else none))) else (B_X12_drawIt_264 N k144 k168 l1 l2 l3 l4 l5 l6 l7 l8 l9 l10 V19) else none))))))
set_option maxRecDepth 20000 in
theorem tB_X12_drawIt_168 {g : sx_G} (hG : sx_Go g) {P : Option Value → sv_V → Prop} {r : Int32} {Vr : sv_V} (hP : P (some (.int r)) Vr) {N : Nat} {k144 : Int32 → Int32 → Int32 → Int32 → Int32 → Int32 → Int32 → Int32 → sv_V → Option (Int32 × sv_V)} {k168 : Int32 → Int32 → Int32 → Int32 → Int32 → Int32 → Int32 → Int32 → Int32 → Int32 → sv_V → Option (Int32 × sv_V)} (hk144 : ∀ (l1 : Int32) (l2 : Int32) (l3 : Int32) (l4 : Int32) (l5 : Int32) (l6 : Int32) (l7 : Int32) (l8 : Int32) (V : sv_V), k144 l1 l2 l3 l4 l5 l6 l7 l8 V = some (r, Vr) → sv_N g qX12_drawIt 5 144 [(0, .ref 146), (1, .int l1), (2, .int l2), (3, .int l3), (4, .int l4), (5, .int l5), (6, .int l6), (7, .int l7), (8, .int l8)] [] V P) (hk168 : ∀ (l1 : Int32) (l2 : Int32) (l3 : Int32) (l4 : Int32) (l5 : Int32) (l6 : Int32) (l7 : Int32) (l8 : Int32) (l9 : Int32) (l10 : Int32) (V : sv_V), k168 l1 l2 l3 l4 l5 l6 l7 l8 l9 l10 V = some (r, Vr) → sv_N g qX12_drawIt 5 168 [(0, .ref 146), (1, .int l1), (2, .int l2), (3, .int l3), (4, .int l4), (5, .int l5), (6, .int l6), (7, .int l7), (8, .int l8), (9, .int l9), (10, .int l10)] [] V P) {l1 : Int32} {l2 : Int32} {l3 : Int32} {l4 : Int32} {l5 : Int32} {l6 : Int32} {l7 : Int32} {l8 : Int32} {l9 : Int32} {l10 : Int32} {V : sv_V} (h : B_X12_drawIt_168 N k144 k168 l1 l2 l3 l4 l5 l6 l7 l8 l9 l10 V = some (r, Vr)) : sv_N g qX12_drawIt 5 168 [(0, .ref 146), (1, .int l1), (2, .int l2), (3, .int l3), (4, .int l4), (5, .int l5), (6, .int l6), (7, .int l7), (8, .int l8), (9, .int l9), (10, .int l10)] [] V P := by
  unfold B_X12_drawIt_168 at h
  refine sx_iload (pc := 168) dX12_drawIt_168 sx_m10 ?_
  refine sx_aload_n (pc := 170) dX12_drawIt_170 sx_m0 ?_
  refine sv_getI (pc := 171) hG dX12_drawIt_171 f_12_881 lay_146 rfl ?_
  refine sx_icmp_ge (pc := 174) (tgt := 270) dX12_drawIt_174 (by decide) (fun c13 => ?_) (fun c13 => ?_)
  · have h := sx_pos c13 h
    refine sx_wk (sx_s1 sx_m0 (sx_s1 sx_m1 (sx_s1 sx_m2 (sx_s1 sx_m3 (sx_s1 sx_m4 (sx_s1 sx_m5 (sx_s1 sx_m6 (sx_s1 sx_m7 (sx_s1 sx_m8 sx_s0))))))))) ?_
    exact tB_X12_drawIt_270 hG hP hk144 h
  · have h := sx_neg c13 h
    refine sx_iload (pc := 177) dX12_drawIt_177 sx_m9 ?_
    refine sx_i2l (pc := 179) dX12_drawIt_179 ?_
    refine sx_iload (pc := 180) dX12_drawIt_180 sx_m5 ?_
    refine sx_i2l (pc := 182) dX12_drawIt_182 ?_
    refine sx_iload (pc := 183) dX12_drawIt_183 sx_m6 ?_
    refine sx_i2l (pc := 185) dX12_drawIt_185 ?_
    obtain ⟨⟨x16, V14⟩, g15, h⟩ := sx_bnd h
    refine sv_cS (pc := 186) (y := qX12_in) (o := (some (.int x16))) (as := [.long l9.toInt64, .long l5.toInt64, .long l6.toInt64]) (V1 := V14) dX12_drawIt_186 l_X12_263 y0X12_in ysX12_in rfl (Nat.le_of_ble_eq_true rfl) (by decide) (Nat.le_of_ble_eq_true rfl) rfl rfl rfl (t_X12_in hG ⟨rfl, rfl⟩ g15) ?_
    refine sx_if_eq (pc := 189) (tgt := 270) dX12_drawIt_189 (by decide) (fun c17 => ?_) (fun c17 => ?_)
    · have h := sx_pos c17 h
      refine sx_wk (sx_s1 sx_m0 (sx_s1 sx_m1 (sx_s1 sx_m2 (sx_s1 sx_m3 (sx_s1 sx_m4 (sx_s1 sx_m5 (sx_s1 sx_m6 (sx_s1 sx_m7 (sx_s1 sx_m8 sx_s0))))))))) ?_
      exact tB_X12_drawIt_270 hG hP hk144 h
    · have h := sx_neg c17 h
      refine sx_bipush (pc := 192) (v := 64) dX12_drawIt_192 (by decide) ?_
      refine sx_iload (pc := 194) dX12_drawIt_194 sx_m10 ?_
      refine sx_imul (pc := 196) dX12_drawIt_196 ?_
      refine sx_bipush (pc := 197) (v := 32) dX12_drawIt_197 (by decide) ?_
      refine sx_iadd (pc := 199) dX12_drawIt_199 ?_
      refine sx_iload_n (pc := 200) dX12_drawIt_200 sx_m1 ?_
      refine sx_isub (pc := 201) dX12_drawIt_201 ?_
      refine sv_tI (fun x18 hx18 => ?_)
      have h := sx_letE hx18 h
      refine sx_istore (pc := 202) (lo' := [(11, .int x18), (0, .ref 146), (1, .int l1), (2, .int l2), (3, .int l3), (4, .int l4), (5, .int l5), (6, .int l6), (7, .int l7), (8, .int l8), (9, .int l9), (10, .int l10)]) dX12_drawIt_202 (by decide) rfl ?_
      refine sx_iload (pc := 204) dX12_drawIt_204 sx_m0 ?_
      refine sx_i2l (pc := 206) dX12_drawIt_206 ?_
      refine sx_iload_n (pc := 207) dX12_drawIt_207 sx_m4 ?_
      refine sx_i2l (pc := 208) dX12_drawIt_208 ?_
      refine sx_iload (pc := 209) dX12_drawIt_209 sx_m5 ?_
      refine sx_i2l (pc := 211) dX12_drawIt_211 ?_
      obtain ⟨⟨x21, V19⟩, g20, h⟩ := sx_bnd h
      refine sv_cS (pc := 212) (y := qX12_in) (o := (some (.int x21))) (as := [.long x18.toInt64, .long l3.toInt64, .long l4.toInt64]) (V1 := V19) dX12_drawIt_212 l_X12_263 y0X12_in ysX12_in rfl (Nat.le_of_ble_eq_true rfl) (by decide) (Nat.le_of_ble_eq_true rfl) rfl rfl rfl (t_X12_in hG ⟨rfl, rfl⟩ g20) ?_
      refine sx_if_eq (pc := 215) (tgt := 264) dX12_drawIt_215 (by decide) (fun c22 => ?_) (fun c22 => ?_)
      · have h := sx_pos c22 h
        refine sx_wk (sx_s1 sx_m1 (sx_s1 sx_m2 (sx_s1 sx_m3 (sx_s1 sx_m4 (sx_s1 sx_m5 (sx_s1 sx_m6 (sx_s1 sx_m7 (sx_s1 sx_m8 (sx_s1 sx_m9 (sx_s1 sx_m10 (sx_s1 sx_m11 sx_s0))))))))))) ?_
        exact tB_X12_drawIt_264 hG hP hk144 hk168 h
      · have h := sx_neg c22 h
        refine sx_aload_n (pc := 218) dX12_drawIt_218 sx_m1 ?_
        refine sv_getA (pc := 219) hG dX12_drawIt_219 f_12_188 lay_146 rfl cr_146_143 ?_
        refine sx_sipush (pc := 222) (v := 128) dX12_drawIt_222 (by decide) ?_
        refine sx_iload (pc := 225) dX12_drawIt_225 sx_m9 ?_
        refine sx_imul (pc := 227) dX12_drawIt_227 ?_
        refine sx_iload (pc := 228) dX12_drawIt_228 sx_m11 ?_
        refine sx_iadd (pc := 230) dX12_drawIt_230 ?_
        obtain ⟨g23, h⟩ := sx_grd h
        refine sv_zald (pc := 231) hG dX12_drawIt_231 lay_204 g23 ?_
        refine sx_if_ne (pc := 232) (tgt := 264) dX12_drawIt_232 (by decide) (fun c24 => ?_) (fun c24 => ?_)
        · have h := sx_neg c24 h
          refine sx_wk (sx_s1 sx_m1 (sx_s1 sx_m2 (sx_s1 sx_m3 (sx_s1 sx_m4 (sx_s1 sx_m5 (sx_s1 sx_m6 (sx_s1 sx_m7 (sx_s1 sx_m8 (sx_s1 sx_m9 (sx_s1 sx_m10 (sx_s1 sx_m11 sx_s0))))))))))) ?_
          exact tB_X12_drawIt_264 hG hP hk144 hk168 h
        · have h := sx_pos c24 h
          refine sx_aload_n (pc := 235) dX12_drawIt_235 sx_m1 ?_
          refine sx_iload (pc := 236) dX12_drawIt_236 sx_m0 ?_
          refine sx_iload (pc := 238) dX12_drawIt_238 sx_m10 ?_
          obtain ⟨⟨x27, V25⟩, g26, h⟩ := sx_bnd h
          refine sv_cV (pc := 240) (y := qX12_isInside) (o := (some (.int x27))) (as := [.int x18, .int l9]) (V1 := V25) hG dX12_drawIt_240 l_X12_875 y0X12_isInside yvX12_isInside rfl (Nat.le_of_ble_eq_true rfl) lay_146 kr_12 (by decide) (Nat.le_of_ble_eq_true rfl) rfl rfl rfl (t_X12_isInside hG ⟨rfl, rfl⟩ g26) ?_
          refine sx_if_eq (pc := 243) (tgt := 264) dX12_drawIt_243 (by decide) (fun c28 => ?_) (fun c28 => ?_)
          · have h := sx_pos c28 h
            refine sx_wk (sx_s1 sx_m1 (sx_s1 sx_m2 (sx_s1 sx_m3 (sx_s1 sx_m4 (sx_s1 sx_m5 (sx_s1 sx_m6 (sx_s1 sx_m7 (sx_s1 sx_m8 (sx_s1 sx_m9 (sx_s1 sx_m10 (sx_s1 sx_m11 sx_s0))))))))))) ?_
            exact tB_X12_drawIt_264 hG hP hk144 hk168 h
          · have h := sx_neg c28 h
            refine sx_aload_n (pc := 246) dX12_drawIt_246 sx_m1 ?_
            refine sv_getA (pc := 247) hG dX12_drawIt_247 f_12_188 lay_146 rfl cr_146_143 ?_
            refine sx_sipush (pc := 250) (v := 128) dX12_drawIt_250 (by decide) ?_
            refine sx_iload (pc := 253) dX12_drawIt_253 sx_m9 ?_
            refine sx_imul (pc := 255) dX12_drawIt_255 ?_
            refine sx_iload (pc := 256) dX12_drawIt_256 sx_m11 ?_
            refine sx_iadd (pc := 258) dX12_drawIt_258 ?_
            refine sx_iconst (pc := 259) (v := 1) dX12_drawIt_259 (by decide) ?_
            obtain ⟨g29, h⟩ := sx_grd h
            obtain ⟨V30, hV30⟩ : ∃ z : sv_V, z = sv_I V25 204 (((128 : Int32) * l8) + l10).toNatClampNeg (1 : Int32) := ⟨_, rfl⟩
            have h := sx_letE hV30 h
            refine sv_zast (pc := 260) hG dX12_drawIt_260 lay_204 g29 rfl hV30 ?_
            obtain ⟨x31, hx31⟩ : ∃ z : Int32, z = l7 + 1 := ⟨_, rfl⟩
            have h := sx_letE hx31 h
            refine sx_iinc (pc := 261) (v := x31) (lo' := [(7, .int x31), (11, .int x18), (0, .ref 146), (1, .int l1), (2, .int l2), (3, .int l3), (4, .int l4), (5, .int l5), (6, .int l6), (8, .int l8), (9, .int l9), (10, .int l10)]) dX12_drawIt_261 sx_m8 (by rw [hx31]; rfl) (by decide) rfl ?_
            refine sx_wk (sx_s1 sx_m2 (sx_s1 sx_m3 (sx_s1 sx_m4 (sx_s1 sx_m5 (sx_s1 sx_m6 (sx_s1 sx_m7 (sx_s1 sx_m8 (sx_s1 sx_m0 (sx_s1 sx_m9 (sx_s1 sx_m10 (sx_s1 sx_m11 sx_s0))))))))))) ?_
            exact tB_X12_drawIt_264 hG hP hk144 hk168 h
theorem tL_X12_drawIt_168 {g : sx_G} (hG : sx_Go g) {P : Option Value → sv_V → Prop} {r : Int32} {Vr : sv_V} (hP : P (some (.int r)) Vr) {N : Nat} {k144 : Int32 → Int32 → Int32 → Int32 → Int32 → Int32 → Int32 → Int32 → sv_V → Option (Int32 × sv_V)} (hk144 : ∀ (l1 : Int32) (l2 : Int32) (l3 : Int32) (l4 : Int32) (l5 : Int32) (l6 : Int32) (l7 : Int32) (l8 : Int32) (V : sv_V), k144 l1 l2 l3 l4 l5 l6 l7 l8 V = some (r, Vr) → sv_N g qX12_drawIt 5 144 [(0, .ref 146), (1, .int l1), (2, .int l2), (3, .int l3), (4, .int l4), (5, .int l5), (6, .int l6), (7, .int l7), (8, .int l8)] [] V P) : ∀ (n : Nat) (l1 : Int32) (l2 : Int32) (l3 : Int32) (l4 : Int32) (l5 : Int32) (l6 : Int32) (l7 : Int32) (l8 : Int32) (l9 : Int32) (l10 : Int32) (V : sv_V), sx_lp11 (B_X12_drawIt_168 N k144) n l1 l2 l3 l4 l5 l6 l7 l8 l9 l10 V = some (r, Vr) → sv_N g qX12_drawIt 5 168 [(0, .ref 146), (1, .int l1), (2, .int l2), (3, .int l3), (4, .int l4), (5, .int l5), (6, .int l6), (7, .int l7), (8, .int l8), (9, .int l9), (10, .int l10)] [] V P :=
  sx_lp11_ind (fun k0 ih _ _ _ _ _ _ _ _ _ _ V h => tB_X12_drawIt_168 hG hP hk144 ih h)
def B_X12_drawIt_144 (N : Nat) (k144 : Int32 → Int32 → Int32 → Int32 → Int32 → Int32 → Int32 → Int32 → sv_V → Option (Int32 × sv_V)) (l1 : Int32) (l2 : Int32) (l3 : Int32) (l4 : Int32) (l5 : Int32) (l6 : Int32) (l7 : Int32) (l8 : Int32) (V : sv_V) : Option (Int32 × sv_V) := if (V.1 146 142) ≤ l8 then (some (l7, V)) else (sx_let ((((64 : Int32) * l8) + (32 : Int32)) - l2) (fun x33 => sx_lp11 (B_X12_drawIt_168 N k144) N l1 l2 l3 l4 l5 l6 l7 l8 x33 (0 : Int32) V))
set_option maxRecDepth 20000 in
theorem tB_X12_drawIt_144 {g : sx_G} (hG : sx_Go g) {P : Option Value → sv_V → Prop} {r : Int32} {Vr : sv_V} (hP : P (some (.int r)) Vr) {N : Nat} {k144 : Int32 → Int32 → Int32 → Int32 → Int32 → Int32 → Int32 → Int32 → sv_V → Option (Int32 × sv_V)} (hk144 : ∀ (l1 : Int32) (l2 : Int32) (l3 : Int32) (l4 : Int32) (l5 : Int32) (l6 : Int32) (l7 : Int32) (l8 : Int32) (V : sv_V), k144 l1 l2 l3 l4 l5 l6 l7 l8 V = some (r, Vr) → sv_N g qX12_drawIt 5 144 [(0, .ref 146), (1, .int l1), (2, .int l2), (3, .int l3), (4, .int l4), (5, .int l5), (6, .int l6), (7, .int l7), (8, .int l8)] [] V P) {l1 : Int32} {l2 : Int32} {l3 : Int32} {l4 : Int32} {l5 : Int32} {l6 : Int32} {l7 : Int32} {l8 : Int32} {V : sv_V} (h : B_X12_drawIt_144 N k144 l1 l2 l3 l4 l5 l6 l7 l8 V = some (r, Vr)) : sv_N g qX12_drawIt 5 144 [(0, .ref 146), (1, .int l1), (2, .int l2), (3, .int l3), (4, .int l4), (5, .int l5), (6, .int l6), (7, .int l7), (8, .int l8)] [] V P := by
  unfold B_X12_drawIt_144 at h
  refine sx_iload (pc := 144) dX12_drawIt_144 sx_m8 ?_
  refine sx_aload_n (pc := 146) dX12_drawIt_146 sx_m0 ?_
  refine sv_getI (pc := 147) hG dX12_drawIt_147 f_12_884 lay_146 rfl ?_
  refine sx_icmp_ge (pc := 150) (tgt := 276) dX12_drawIt_150 (by decide) (fun c32 => ?_) (fun c32 => ?_)
  · have h := sx_pos c32 h
    refine sx_iload (pc := 276) dX12_drawIt_276 sx_m7 ?_
    exact sv_iret (pc := 278) dX12_drawIt_278 rfl h hP
  · have h := sx_neg c32 h
    refine sx_bipush (pc := 153) (v := 64) dX12_drawIt_153 (by decide) ?_
    refine sx_iload (pc := 155) dX12_drawIt_155 sx_m8 ?_
    refine sx_imul (pc := 157) dX12_drawIt_157 ?_
    refine sx_bipush (pc := 158) (v := 32) dX12_drawIt_158 (by decide) ?_
    refine sx_iadd (pc := 160) dX12_drawIt_160 ?_
    refine sx_iload_n (pc := 161) dX12_drawIt_161 sx_m2 ?_
    refine sx_isub (pc := 162) dX12_drawIt_162 ?_
    refine sv_tI (fun x33 hx33 => ?_)
    have h := sx_letE hx33 h
    refine sx_istore (pc := 163) (lo' := [(9, .int x33), (0, .ref 146), (1, .int l1), (2, .int l2), (3, .int l3), (4, .int l4), (5, .int l5), (6, .int l6), (7, .int l7), (8, .int l8)]) dX12_drawIt_163 (by decide) rfl ?_
    refine sx_iconst (pc := 165) (v := 0) dX12_drawIt_165 (by decide) ?_
    refine sx_istore (pc := 166) (lo' := [(10, .int (0 : Int32)), (9, .int x33), (0, .ref 146), (1, .int l1), (2, .int l2), (3, .int l3), (4, .int l4), (5, .int l5), (6, .int l6), (7, .int l7), (8, .int l8)]) dX12_drawIt_166 (by decide) rfl ?_
    refine sx_wk (sx_s1 sx_m2 (sx_s1 sx_m3 (sx_s1 sx_m4 (sx_s1 sx_m5 (sx_s1 sx_m6 (sx_s1 sx_m7 (sx_s1 sx_m8 (sx_s1 sx_m9 (sx_s1 sx_m10 (sx_s1 sx_m1 (sx_s1 sx_m0 sx_s0))))))))))) ?_
    exact tL_X12_drawIt_168 hG hP hk144 N _ _ _ _ _ _ _ _ _ _ _ h
theorem tL_X12_drawIt_144 {g : sx_G} (hG : sx_Go g) {P : Option Value → sv_V → Prop} {r : Int32} {Vr : sv_V} (hP : P (some (.int r)) Vr) {N : Nat}   : ∀ (n : Nat) (l1 : Int32) (l2 : Int32) (l3 : Int32) (l4 : Int32) (l5 : Int32) (l6 : Int32) (l7 : Int32) (l8 : Int32) (V : sv_V), sx_lp9 (B_X12_drawIt_144 N ) n l1 l2 l3 l4 l5 l6 l7 l8 V = some (r, Vr) → sv_N g qX12_drawIt 5 144 [(0, .ref 146), (1, .int l1), (2, .int l2), (3, .int l3), (4, .int l4), (5, .int l5), (6, .int l6), (7, .int l7), (8, .int l8)] [] V P :=
  sx_lp9_ind (fun k0 ih _ _ _ _ _ _ _ _ V h => tB_X12_drawIt_144 hG hP ih h)
def B_X12_drawIt_22 (N : Nat) (k22 : Int32 → Int32 → Int32 → Int32 → Int32 → Int32 → Int32 → sv_V → Option (Int32 × sv_V)) (l1 : Int32) (l2 : Int32) (l3 : Int32) (l4 : Int32) (l5 : Int32) (l6 : Int32) (l7 : Int32) (V : sv_V) : Option (Int32 × sv_V) := if (V.1 146 128) ≤ l7 then (sx_lp9 (B_X12_drawIt_144 N ) N l1 l2 l3 l4 l5 l6 (0 : Int32) (0 : Int32) V) else (if sx_in l7 100 = true then if l3 ≤ (V.1 197 l7.toNatClampNeg) then (B_X12_drawIt_53 N k22 l1 l2 l4 l5 l6 l7 l3 V) else (if sx_in l7 100 = true then B_X12_drawIt_53 N k22 l1 l2 l4 l5 l6 l7 (V.1 197 l7.toNatClampNeg) V else none) else none)
set_option maxRecDepth 20000 in
theorem tB_X12_drawIt_22 {g : sx_G} (hG : sx_Go g) {P : Option Value → sv_V → Prop} {r : Int32} {Vr : sv_V} (hP : P (some (.int r)) Vr) {N : Nat} {k22 : Int32 → Int32 → Int32 → Int32 → Int32 → Int32 → Int32 → sv_V → Option (Int32 × sv_V)} (hk22 : ∀ (l1 : Int32) (l2 : Int32) (l3 : Int32) (l4 : Int32) (l5 : Int32) (l6 : Int32) (l7 : Int32) (V : sv_V), k22 l1 l2 l3 l4 l5 l6 l7 V = some (r, Vr) → sv_N g qX12_drawIt 5 22 [(0, .ref 146), (1, .int l1), (2, .int l2), (3, .int l3), (4, .int l4), (5, .int l5), (6, .int l6), (7, .int l7)] [] V P) {l1 : Int32} {l2 : Int32} {l3 : Int32} {l4 : Int32} {l5 : Int32} {l6 : Int32} {l7 : Int32} {V : sv_V} (h : B_X12_drawIt_22 N k22 l1 l2 l3 l4 l5 l6 l7 V = some (r, Vr)) : sv_N g qX12_drawIt 5 22 [(0, .ref 146), (1, .int l1), (2, .int l2), (3, .int l3), (4, .int l4), (5, .int l5), (6, .int l6), (7, .int l7)] [] V P := by
  unfold B_X12_drawIt_22 at h
  refine sx_iload (pc := 22) dX12_drawIt_22 sx_m7 ?_
  refine sx_aload_n (pc := 24) dX12_drawIt_24 sx_m0 ?_
  refine sv_getI (pc := 25) hG dX12_drawIt_25 f_12_823 lay_146 rfl ?_
  refine sx_icmp_ge (pc := 28) (tgt := 138) dX12_drawIt_28 (by decide) (fun c34 => ?_) (fun c34 => ?_)
  · have h := sx_pos c34 h
    refine sx_iconst (pc := 138) (v := 0) dX12_drawIt_138 (by decide) ?_
    refine sx_istore (pc := 139) (lo' := [(7, .int (0 : Int32)), (0, .ref 146), (1, .int l1), (2, .int l2), (3, .int l3), (4, .int l4), (5, .int l5), (6, .int l6)]) dX12_drawIt_139 (by decide) rfl ?_
    refine sx_iconst (pc := 141) (v := 0) dX12_drawIt_141 (by decide) ?_
    refine sx_istore (pc := 142) (lo' := [(8, .int (0 : Int32)), (7, .int (0 : Int32)), (0, .ref 146), (1, .int l1), (2, .int l2), (3, .int l3), (4, .int l4), (5, .int l5), (6, .int l6)]) dX12_drawIt_142 (by decide) rfl ?_
    refine sx_wk (sx_s1 sx_m2 (sx_s1 sx_m3 (sx_s1 sx_m4 (sx_s1 sx_m5 (sx_s1 sx_m6 (sx_s1 sx_m7 (sx_s1 sx_m8 (sx_s1 sx_m1 (sx_s1 sx_m0 sx_s0))))))))) ?_
    exact tL_X12_drawIt_144 hG hP  N _ _ _ _ _ _ _ _ _ h
  · have h := sx_neg c34 h
    refine sx_aload_n (pc := 31) dX12_drawIt_31 sx_m0 ?_
    refine sv_getA (pc := 32) hG dX12_drawIt_32 f_12_167 lay_146 rfl cr_146_130 ?_
    refine sx_iload (pc := 35) dX12_drawIt_35 sx_m7 ?_
    obtain ⟨g35, h⟩ := sx_grd h
    refine sv_iald (pc := 37) hG dX12_drawIt_37 lay_197 g35 ?_
    refine sx_iload_n (pc := 38) dX12_drawIt_38 sx_m3 ?_
    refine sx_icmp_ge (pc := 39) (tgt := 52) dX12_drawIt_39 (by decide) (fun c36 => ?_) (fun c36 => ?_)
    · have h := sx_pos c36 h
      refine sx_iload_n (pc := 52) dX12_drawIt_52 sx_m3 ?_
      refine sx_wk (sx_s1 sx_m0 (sx_s1 sx_m1 (sx_s1 sx_m2 (sx_s1 sx_m4 (sx_s1 sx_m5 (sx_s1 sx_m6 (sx_s1 sx_m7 sx_s0))))))) ?_
      exact tB_X12_drawIt_53 hG hP hk22 h
    · have h := sx_neg c36 h
      refine sx_aload_n (pc := 42) dX12_drawIt_42 sx_m0 ?_
      refine sv_getA (pc := 43) hG dX12_drawIt_43 f_12_167 lay_146 rfl cr_146_130 ?_
      refine sx_iload (pc := 46) dX12_drawIt_46 sx_m7 ?_
      obtain ⟨g37, h⟩ := sx_grd h
      refine sv_iald (pc := 48) hG dX12_drawIt_48 lay_197 g37 ?_
      refine sx_goto (pc := 49) (tgt := 53) dX12_drawIt_49 (by decide) ?_
      refine sx_wk (sx_s1 sx_m0 (sx_s1 sx_m1 (sx_s1 sx_m2 (sx_s1 sx_m4 (sx_s1 sx_m5 (sx_s1 sx_m6 (sx_s1 sx_m7 sx_s0))))))) ?_
      exact tB_X12_drawIt_53 hG hP hk22 h
theorem tL_X12_drawIt_22 {g : sx_G} (hG : sx_Go g) {P : Option Value → sv_V → Prop} {r : Int32} {Vr : sv_V} (hP : P (some (.int r)) Vr) {N : Nat}   : ∀ (n : Nat) (l1 : Int32) (l2 : Int32) (l3 : Int32) (l4 : Int32) (l5 : Int32) (l6 : Int32) (l7 : Int32) (V : sv_V), sx_lp8 (B_X12_drawIt_22 N ) n l1 l2 l3 l4 l5 l6 l7 V = some (r, Vr) → sv_N g qX12_drawIt 5 22 [(0, .ref 146), (1, .int l1), (2, .int l2), (3, .int l3), (4, .int l4), (5, .int l5), (6, .int l6), (7, .int l7)] [] V P :=
  sx_lp8_ind (fun k0 ih _ _ _ _ _ _ _ V h => tB_X12_drawIt_22 hG hP ih h)
def F_X12_drawIt (N : Nat) (l1 : Int32) (l2 : Int32) (V : sv_V) : Option (Int32 × sv_V) := sx_lp8 (B_X12_drawIt_22 N ) N l1 l2 (5000 : Int32) (-5000 : Int32) (5000 : Int32) (-5000 : Int32) (0 : Int32) V
set_option maxRecDepth 20000 in
theorem t_X12_drawIt {g : sx_G} (hG : sx_Go g) {P : Option Value → sv_V → Prop} {r : Int32} {Vr : sv_V} (hP : P (some (.int r)) Vr) {N : Nat} {l1 : Int32} {l2 : Int32} {V : sv_V} (h : F_X12_drawIt N l1 l2 V = some (r, Vr)) : sv_N g qX12_drawIt 5 0 [(0, .ref 146), (1, .int l1), (2, .int l2)] [] V P := by
  unfold F_X12_drawIt at h
  refine sx_sipush (pc := 0) (v := 5000) dX12_drawIt_0 (by decide) ?_
  refine sx_istore_n (pc := 3) (lo' := [(3, .int (5000 : Int32)), (0, .ref 146), (1, .int l1), (2, .int l2)]) dX12_drawIt_3 (by decide) rfl ?_
  refine sx_sipush (pc := 4) (v := (-5000)) dX12_drawIt_4 (by decide) ?_
  refine sx_istore (pc := 7) (lo' := [(4, .int (-5000 : Int32)), (3, .int (5000 : Int32)), (0, .ref 146), (1, .int l1), (2, .int l2)]) dX12_drawIt_7 (by decide) rfl ?_
  refine sx_sipush (pc := 9) (v := 5000) dX12_drawIt_9 (by decide) ?_
  refine sx_istore (pc := 12) (lo' := [(5, .int (5000 : Int32)), (4, .int (-5000 : Int32)), (3, .int (5000 : Int32)), (0, .ref 146), (1, .int l1), (2, .int l2)]) dX12_drawIt_12 (by decide) rfl ?_
  refine sx_sipush (pc := 14) (v := (-5000)) dX12_drawIt_14 (by decide) ?_
  refine sx_istore (pc := 17) (lo' := [(6, .int (-5000 : Int32)), (5, .int (5000 : Int32)), (4, .int (-5000 : Int32)), (3, .int (5000 : Int32)), (0, .ref 146), (1, .int l1), (2, .int l2)]) dX12_drawIt_17 (by decide) rfl ?_
  refine sx_iconst (pc := 19) (v := 0) dX12_drawIt_19 (by decide) ?_
  refine sx_istore (pc := 20) (lo' := [(7, .int (0 : Int32)), (6, .int (-5000 : Int32)), (5, .int (5000 : Int32)), (4, .int (-5000 : Int32)), (3, .int (5000 : Int32)), (0, .ref 146), (1, .int l1), (2, .int l2)]) dX12_drawIt_20 (by decide) rfl ?_
  refine sx_wk (sx_s1 sx_m5 (sx_s1 sx_m6 (sx_s1 sx_m7 (sx_s1 sx_m4 (sx_s1 sx_m3 (sx_s1 sx_m2 (sx_s1 sx_m1 (sx_s1 sx_m0 sx_s0)))))))) ?_
  exact tL_X12_drawIt_22 hG hP  N _ _ _ _ _ _ _ _ h
theorem dX12_draw_0 : decode cX12_draw 0 = .ok (.aload_n 0, 1) := by decide +kernel
theorem dX12_draw_1 : decode cX12_draw 1 = .ok (.getfield 764, 3) := by decide +kernel
theorem dX12_draw_4 : decode cX12_draw 4 = .ok (.ifCond .eq 10, 3) := by decide +kernel
theorem dX12_draw_7 : decode cX12_draw 7 = .ok (.aload_n 0, 1) := by decide +kernel
theorem dX12_draw_8 : decode cX12_draw 8 = .ok (.getfield 881, 3) := by decide +kernel
theorem dX12_draw_11 : decode cX12_draw 11 = .ok (.ifCond .ne 6, 3) := by decide +kernel
theorem dX12_draw_14 : decode cX12_draw 14 = .ok (.bipush (-3), 2) := by decide +kernel
theorem dX12_draw_16 : decode cX12_draw 16 = .ok (.ireturn, 1) := by decide +kernel
theorem dX12_draw_17 : decode cX12_draw 17 = .ok (.iload_n 1, 1) := by decide +kernel
theorem dX12_draw_18 : decode cX12_draw 18 = .ok (.i2l, 1) := by decide +kernel
theorem dX12_draw_19 : decode cX12_draw 19 = .ok (.ldc2_w 887, 3) := by decide +kernel
theorem dX12_draw_22 : decode cX12_draw 22 = .ok (.ldc2_w 889, 3) := by decide +kernel
theorem dX12_draw_25 : decode cX12_draw 25 = .ok (.invokestatic 263, 3) := by decide +kernel
theorem dX12_draw_28 : decode cX12_draw 28 = .ok (.ifCond .eq 17, 3) := by decide +kernel
theorem dX12_draw_31 : decode cX12_draw 31 = .ok (.iload_n 2, 1) := by decide +kernel
theorem dX12_draw_32 : decode cX12_draw 32 = .ok (.i2l, 1) := by decide +kernel
theorem dX12_draw_33 : decode cX12_draw 33 = .ok (.ldc2_w 887, 3) := by decide +kernel
theorem dX12_draw_36 : decode cX12_draw 36 = .ok (.ldc2_w 889, 3) := by decide +kernel
theorem dX12_draw_39 : decode cX12_draw 39 = .ok (.invokestatic 263, 3) := by decide +kernel
theorem dX12_draw_42 : decode cX12_draw 42 = .ok (.ifCond .ne 8, 3) := by decide +kernel
theorem dX12_draw_45 : decode cX12_draw 45 = .ok (.bipush (-2), 2) := by decide +kernel
theorem dX12_draw_47 : decode cX12_draw 47 = .ok (.goto 9, 3) := by decide +kernel
theorem dX12_draw_50 : decode cX12_draw 50 = .ok (.aload_n 0, 1) := by decide +kernel
theorem dX12_draw_51 : decode cX12_draw 51 = .ok (.iload_n 1, 1) := by decide +kernel
theorem dX12_draw_52 : decode cX12_draw 52 = .ok (.iload_n 2, 1) := by decide +kernel
theorem dX12_draw_53 : decode cX12_draw 53 = .ok (.invokevirtual 891, 3) := by decide +kernel
theorem dX12_draw_56 : decode cX12_draw 56 = .ok (.ireturn, 1) := by decide +kernel
def B_X12_draw_45 (N : Nat)   (V : sv_V) : Option (Int32 × sv_V) := some ((-2 : Int32), V)
set_option maxRecDepth 20000 in
theorem tB_X12_draw_45 {g : sx_G} (hG : sx_Go g) {P : Option Value → sv_V → Prop} {r : Int32} {Vr : sv_V} (hP : P (some (.int r)) Vr) {N : Nat}    {V : sv_V} (h : B_X12_draw_45 N   V = some (r, Vr)) : sv_N g qX12_draw 6 45 [] [] V P := by
  unfold B_X12_draw_45 at h
  refine sx_bipush (pc := 45) (v := (-2)) dX12_draw_45 (by decide) ?_
  refine sx_goto (pc := 47) (tgt := 56) dX12_draw_47 (by decide) ?_
  exact sv_iret (pc := 56) dX12_draw_56 rfl h hP
def F_X12_draw (N : Nat) (l1 : Int32) (l2 : Int32) (V : sv_V) : Option (Int32 × sv_V) := if (V.1 146 108) = 0 then (some ((-3 : Int32), V)) else (if (V.1 146 141) = 0 then (some ((-3 : Int32), V)) else ((F_X12_in l1.toInt64 (-20000 : Int64) (20000 : Int64) V).bind (fun (x5, V3) => if x5 = 0 then (B_X12_draw_45 N   V3) else ((F_X12_in l2.toInt64 (-20000 : Int64) (20000 : Int64) V3).bind (fun (x9, V7) => if x9 = 0 then (B_X12_draw_45 N   V7) else ((F_X12_drawIt N l1 l2 V7).bind (fun (x13, V11) => some (x13, V11))))))))
set_option maxRecDepth 20000 in
theorem t_X12_draw {g : sx_G} (hG : sx_Go g) {P : Option Value → sv_V → Prop} {r : Int32} {Vr : sv_V} (hP : P (some (.int r)) Vr) {N : Nat} {l1 : Int32} {l2 : Int32} {V : sv_V} (h : F_X12_draw N l1 l2 V = some (r, Vr)) : sv_N g qX12_draw 6 0 [(0, .ref 146), (1, .int l1), (2, .int l2)] [] V P := by
  unfold F_X12_draw at h
  refine sx_aload_n (pc := 0) dX12_draw_0 sx_m0 ?_
  refine sv_getZ (pc := 1) hG dX12_draw_1 f_12_764 lay_146 rfl ?_
  refine sx_if_eq (pc := 4) (tgt := 14) dX12_draw_4 (by decide) (fun c1 => ?_) (fun c1 => ?_)
  · have h := sx_pos c1 h
    refine sx_bipush (pc := 14) (v := (-3)) dX12_draw_14 (by decide) ?_
    exact sv_iret (pc := 16) dX12_draw_16 rfl h hP
  · have h := sx_neg c1 h
    refine sx_aload_n (pc := 7) dX12_draw_7 sx_m0 ?_
    refine sv_getI (pc := 8) hG dX12_draw_8 f_12_881 lay_146 rfl ?_
    refine sx_if_ne (pc := 11) (tgt := 17) dX12_draw_11 (by decide) (fun c2 => ?_) (fun c2 => ?_)
    · have h := sx_neg c2 h
      refine sx_iload_n (pc := 17) dX12_draw_17 sx_m1 ?_
      refine sx_i2l (pc := 18) dX12_draw_18 ?_
      refine sx_ldc2 (pc := 19) dX12_draw_19 k_X12_887 ?_
      refine sx_ldc2 (pc := 22) dX12_draw_22 k_X12_889 ?_
      obtain ⟨⟨x5, V3⟩, g4, h⟩ := sx_bnd h
      refine sv_cS (pc := 25) (y := qX12_in) (o := (some (.int x5))) (as := [.long l1.toInt64, .long (-20000 : Int64), .long (20000 : Int64)]) (V1 := V3) dX12_draw_25 l_X12_263 y0X12_in ysX12_in rfl (Nat.le_of_ble_eq_true rfl) (by decide) (Nat.le_of_ble_eq_true rfl) rfl rfl rfl (t_X12_in hG ⟨rfl, rfl⟩ g4) ?_
      refine sx_if_eq (pc := 28) (tgt := 45) dX12_draw_28 (by decide) (fun c6 => ?_) (fun c6 => ?_)
      · have h := sx_pos c6 h
        refine sx_wk sx_s0 ?_
        exact tB_X12_draw_45 hG hP  h
      · have h := sx_neg c6 h
        refine sx_iload_n (pc := 31) dX12_draw_31 sx_m2 ?_
        refine sx_i2l (pc := 32) dX12_draw_32 ?_
        refine sx_ldc2 (pc := 33) dX12_draw_33 k_X12_887 ?_
        refine sx_ldc2 (pc := 36) dX12_draw_36 k_X12_889 ?_
        obtain ⟨⟨x9, V7⟩, g8, h⟩ := sx_bnd h
        refine sv_cS (pc := 39) (y := qX12_in) (o := (some (.int x9))) (as := [.long l2.toInt64, .long (-20000 : Int64), .long (20000 : Int64)]) (V1 := V7) dX12_draw_39 l_X12_263 y0X12_in ysX12_in rfl (Nat.le_of_ble_eq_true rfl) (by decide) (Nat.le_of_ble_eq_true rfl) rfl rfl rfl (t_X12_in hG ⟨rfl, rfl⟩ g8) ?_
        refine sx_if_ne (pc := 42) (tgt := 50) dX12_draw_42 (by decide) (fun c10 => ?_) (fun c10 => ?_)
        · have h := sx_neg c10 h
          refine sx_aload_n (pc := 50) dX12_draw_50 sx_m0 ?_
          refine sx_iload_n (pc := 51) dX12_draw_51 sx_m1 ?_
          refine sx_iload_n (pc := 52) dX12_draw_52 sx_m2 ?_
          obtain ⟨⟨x13, V11⟩, g12, h⟩ := sx_bnd h
          refine sv_cV (pc := 53) (y := qX12_drawIt) (o := (some (.int x13))) (as := [.int l1, .int l2]) (V1 := V11) hG dX12_draw_53 l_X12_891 y0X12_drawIt yvX12_drawIt rfl (Nat.le_of_ble_eq_true rfl) lay_146 kr_12 (by decide) (Nat.le_of_ble_eq_true rfl) rfl rfl rfl (t_X12_drawIt hG ⟨rfl, rfl⟩ g12) ?_
          exact sv_iret (pc := 56) dX12_draw_56 rfl h hP
        · have h := sx_pos c10 h
          refine sx_wk sx_s0 ?_
          exact tB_X12_draw_45 hG hP  h
    · have h := sx_pos c2 h
      refine sx_bipush (pc := 14) (v := (-3)) dX12_draw_14 (by decide) ?_
      exact sv_iret (pc := 16) dX12_draw_16 rfl h hP
theorem dX12_pixel_0 : decode cX12_pixel 0 = .ok (.iload_n 1, 1) := by decide +kernel
theorem dX12_pixel_1 : decode cX12_pixel 1 = .ok (.i2l, 1) := by decide +kernel
theorem dX12_pixel_2 : decode cX12_pixel 2 = .ok (.lconst 0, 1) := by decide +kernel
theorem dX12_pixel_3 : decode cX12_pixel 3 = .ok (.aload_n 0, 1) := by decide +kernel
theorem dX12_pixel_4 : decode cX12_pixel 4 = .ok (.getfield 881, 3) := by decide +kernel
theorem dX12_pixel_7 : decode cX12_pixel 7 = .ok (.iconst 1, 1) := by decide +kernel
theorem dX12_pixel_8 : decode cX12_pixel 8 = .ok (.isub, 1) := by decide +kernel
theorem dX12_pixel_9 : decode cX12_pixel 9 = .ok (.i2l, 1) := by decide +kernel
theorem dX12_pixel_10 : decode cX12_pixel 10 = .ok (.invokestatic 263, 3) := by decide +kernel
theorem dX12_pixel_13 : decode cX12_pixel 13 = .ok (.ifCond .eq 19, 3) := by decide +kernel
theorem dX12_pixel_16 : decode cX12_pixel 16 = .ok (.iload_n 2, 1) := by decide +kernel
theorem dX12_pixel_17 : decode cX12_pixel 17 = .ok (.i2l, 1) := by decide +kernel
theorem dX12_pixel_18 : decode cX12_pixel 18 = .ok (.lconst 0, 1) := by decide +kernel
theorem dX12_pixel_19 : decode cX12_pixel 19 = .ok (.aload_n 0, 1) := by decide +kernel
theorem dX12_pixel_20 : decode cX12_pixel 20 = .ok (.getfield 884, 3) := by decide +kernel
theorem dX12_pixel_23 : decode cX12_pixel 23 = .ok (.iconst 1, 1) := by decide +kernel
theorem dX12_pixel_24 : decode cX12_pixel 24 = .ok (.isub, 1) := by decide +kernel
theorem dX12_pixel_25 : decode cX12_pixel 25 = .ok (.i2l, 1) := by decide +kernel
theorem dX12_pixel_26 : decode cX12_pixel 26 = .ok (.invokestatic 263, 3) := by decide +kernel
theorem dX12_pixel_29 : decode cX12_pixel 29 = .ok (.ifCond .ne 7, 3) := by decide +kernel
theorem dX12_pixel_32 : decode cX12_pixel 32 = .ok (.iconst (-1), 1) := by decide +kernel
theorem dX12_pixel_33 : decode cX12_pixel 33 = .ok (.goto 23, 3) := by decide +kernel
theorem dX12_pixel_36 : decode cX12_pixel 36 = .ok (.aload_n 0, 1) := by decide +kernel
theorem dX12_pixel_37 : decode cX12_pixel 37 = .ok (.getfield 188, 3) := by decide +kernel
theorem dX12_pixel_40 : decode cX12_pixel 40 = .ok (.sipush 128, 3) := by decide +kernel
theorem dX12_pixel_43 : decode cX12_pixel 43 = .ok (.iload_n 2, 1) := by decide +kernel
theorem dX12_pixel_44 : decode cX12_pixel 44 = .ok (.imul, 1) := by decide +kernel
theorem dX12_pixel_45 : decode cX12_pixel 45 = .ok (.iload_n 1, 1) := by decide +kernel
theorem dX12_pixel_46 : decode cX12_pixel 46 = .ok (.iadd, 1) := by decide +kernel
theorem dX12_pixel_47 : decode cX12_pixel 47 = .ok (.baload, 1) := by decide +kernel
theorem dX12_pixel_48 : decode cX12_pixel 48 = .ok (.ifCond .eq 7, 3) := by decide +kernel
theorem dX12_pixel_51 : decode cX12_pixel 51 = .ok (.iconst 1, 1) := by decide +kernel
theorem dX12_pixel_52 : decode cX12_pixel 52 = .ok (.goto 4, 3) := by decide +kernel
theorem dX12_pixel_55 : decode cX12_pixel 55 = .ok (.iconst 0, 1) := by decide +kernel
theorem dX12_pixel_56 : decode cX12_pixel 56 = .ok (.ireturn, 1) := by decide +kernel
def B_X12_pixel_32   (V : sv_V) : Option (Int32 × sv_V) := some ((-1 : Int32), V)
set_option maxRecDepth 20000 in
theorem tB_X12_pixel_32 {g : sx_G} (hG : sx_Go g) {P : Option Value → sv_V → Prop} {r : Int32} {Vr : sv_V} (hP : P (some (.int r)) Vr)    {V : sv_V} (h : B_X12_pixel_32   V = some (r, Vr)) : sv_N g qX12_pixel 1 32 [] [] V P := by
  unfold B_X12_pixel_32 at h
  refine sx_iconst (pc := 32) (v := (-1)) dX12_pixel_32 (by decide) ?_
  refine sx_goto (pc := 33) (tgt := 56) dX12_pixel_33 (by decide) ?_
  exact sv_iret (pc := 56) dX12_pixel_56 rfl h hP
def F_X12_pixel (l1 : Int32) (l2 : Int32) (V : sv_V) : Option (Int32 × sv_V) := (F_X12_in l1.toInt64 (0 : Int64) (((V.1 146 141) - (1 : Int32)).toInt64) V).bind (fun (x3, V1) => if x3 = 0 then (B_X12_pixel_32   V1) else ((F_X12_in l2.toInt64 (0 : Int64) (((V1.1 146 142) - (1 : Int32)).toInt64) V1).bind (fun (x7, V5) => if x7 = 0 then (B_X12_pixel_32   V5) else (if sx_in (((128 : Int32) * l2) + l1) 16384 = true then if (V5.1 204 (((128 : Int32) * l2) + l1).toNatClampNeg) = 0 then (some ((0 : Int32), V5)) else (some ((1 : Int32), V5)) else none))))
set_option maxRecDepth 20000 in
theorem t_X12_pixel {g : sx_G} (hG : sx_Go g) {P : Option Value → sv_V → Prop} {r : Int32} {Vr : sv_V} (hP : P (some (.int r)) Vr) {l1 : Int32} {l2 : Int32} {V : sv_V} (h : F_X12_pixel l1 l2 V = some (r, Vr)) : sv_N g qX12_pixel 1 0 [(0, .ref 146), (1, .int l1), (2, .int l2)] [] V P := by
  unfold F_X12_pixel at h
  refine sx_iload_n (pc := 0) dX12_pixel_0 sx_m1 ?_
  refine sx_i2l (pc := 1) dX12_pixel_1 ?_
  refine sx_lconst (pc := 2) (v := 0) dX12_pixel_2 rfl ?_
  refine sx_aload_n (pc := 3) dX12_pixel_3 sx_m0 ?_
  refine sv_getI (pc := 4) hG dX12_pixel_4 f_12_881 lay_146 rfl ?_
  refine sx_iconst (pc := 7) (v := 1) dX12_pixel_7 (by decide) ?_
  refine sx_isub (pc := 8) dX12_pixel_8 ?_
  refine sx_i2l (pc := 9) dX12_pixel_9 ?_
  obtain ⟨⟨x3, V1⟩, g2, h⟩ := sx_bnd h
  refine sv_cS (pc := 10) (y := qX12_in) (o := (some (.int x3))) (as := [.long l1.toInt64, .long (0 : Int64), .long (((V.1 146 141) - (1 : Int32)).toInt64)]) (V1 := V1) dX12_pixel_10 l_X12_263 y0X12_in ysX12_in rfl (Nat.le_of_ble_eq_true rfl) (by decide) (Nat.le_of_ble_eq_true rfl) rfl rfl rfl (t_X12_in hG ⟨rfl, rfl⟩ g2) ?_
  refine sx_if_eq (pc := 13) (tgt := 32) dX12_pixel_13 (by decide) (fun c4 => ?_) (fun c4 => ?_)
  · have h := sx_pos c4 h
    refine sx_wk sx_s0 ?_
    exact tB_X12_pixel_32 hG hP  h
  · have h := sx_neg c4 h
    refine sx_iload_n (pc := 16) dX12_pixel_16 sx_m2 ?_
    refine sx_i2l (pc := 17) dX12_pixel_17 ?_
    refine sx_lconst (pc := 18) (v := 0) dX12_pixel_18 rfl ?_
    refine sx_aload_n (pc := 19) dX12_pixel_19 sx_m0 ?_
    refine sv_getI (pc := 20) hG dX12_pixel_20 f_12_884 lay_146 rfl ?_
    refine sx_iconst (pc := 23) (v := 1) dX12_pixel_23 (by decide) ?_
    refine sx_isub (pc := 24) dX12_pixel_24 ?_
    refine sx_i2l (pc := 25) dX12_pixel_25 ?_
    obtain ⟨⟨x7, V5⟩, g6, h⟩ := sx_bnd h
    refine sv_cS (pc := 26) (y := qX12_in) (o := (some (.int x7))) (as := [.long l2.toInt64, .long (0 : Int64), .long (((V1.1 146 142) - (1 : Int32)).toInt64)]) (V1 := V5) dX12_pixel_26 l_X12_263 y0X12_in ysX12_in rfl (Nat.le_of_ble_eq_true rfl) (by decide) (Nat.le_of_ble_eq_true rfl) rfl rfl rfl (t_X12_in hG ⟨rfl, rfl⟩ g6) ?_
    refine sx_if_ne (pc := 29) (tgt := 36) dX12_pixel_29 (by decide) (fun c8 => ?_) (fun c8 => ?_)
    · have h := sx_neg c8 h
      refine sx_aload_n (pc := 36) dX12_pixel_36 sx_m0 ?_
      refine sv_getA (pc := 37) hG dX12_pixel_37 f_12_188 lay_146 rfl cr_146_143 ?_
      refine sx_sipush (pc := 40) (v := 128) dX12_pixel_40 (by decide) ?_
      refine sx_iload_n (pc := 43) dX12_pixel_43 sx_m2 ?_
      refine sx_imul (pc := 44) dX12_pixel_44 ?_
      refine sx_iload_n (pc := 45) dX12_pixel_45 sx_m1 ?_
      refine sx_iadd (pc := 46) dX12_pixel_46 ?_
      obtain ⟨g9, h⟩ := sx_grd h
      refine sv_zald (pc := 47) hG dX12_pixel_47 lay_204 g9 ?_
      refine sx_if_eq (pc := 48) (tgt := 55) dX12_pixel_48 (by decide) (fun c10 => ?_) (fun c10 => ?_)
      · have h := sx_pos c10 h
        refine sx_iconst (pc := 55) (v := 0) dX12_pixel_55 (by decide) ?_
        exact sv_iret (pc := 56) dX12_pixel_56 rfl h hP
      · have h := sx_neg c10 h
        refine sx_iconst (pc := 51) (v := 1) dX12_pixel_51 (by decide) ?_
        refine sx_goto (pc := 52) (tgt := 56) dX12_pixel_52 (by decide) ?_
        exact sv_iret (pc := 56) dX12_pixel_56 rfl h hP
    · have h := sx_pos c8 h
      refine sx_wk sx_s0 ?_
      exact tB_X12_pixel_32 hG hP  h
theorem dX12_type_0 : decode cX12_type 0 = .ok (.iload_n 1, 1) := by decide +kernel
theorem dX12_type_1 : decode cX12_type 1 = .ok (.i2l, 1) := by decide +kernel
theorem dX12_type_2 : decode cX12_type 2 = .ok (.lconst 0, 1) := by decide +kernel
theorem dX12_type_3 : decode cX12_type 3 = .ok (.ldc2_w 894, 3) := by decide +kernel
theorem dX12_type_6 : decode cX12_type 6 = .ok (.invokestatic 263, 3) := by decide +kernel
theorem dX12_type_9 : decode cX12_type 9 = .ok (.ifCond .ne 6, 3) := by decide +kernel
theorem dX12_type_12 : decode cX12_type 12 = .ok (.bipush (-2), 2) := by decide +kernel
theorem dX12_type_14 : decode cX12_type 14 = .ok (.ireturn, 1) := by decide +kernel
theorem dX12_type_15 : decode cX12_type 15 = .ok (.aload_n 0, 1) := by decide +kernel
theorem dX12_type_16 : decode cX12_type 16 = .ok (.getfield 896, 3) := by decide +kernel
theorem dX12_type_19 : decode cX12_type 19 = .ok (.bipush 100, 2) := by decide +kernel
theorem dX12_type_21 : decode cX12_type 21 = .ok (.if_icmp .ne 6, 3) := by decide +kernel
theorem dX12_type_24 : decode cX12_type 24 = .ok (.bipush (-4), 2) := by decide +kernel
theorem dX12_type_26 : decode cX12_type 26 = .ok (.ireturn, 1) := by decide +kernel
theorem dX12_type_27 : decode cX12_type 27 = .ok (.aload_n 0, 1) := by decide +kernel
theorem dX12_type_28 : decode cX12_type 28 = .ok (.getfield 191, 3) := by decide +kernel
theorem dX12_type_31 : decode cX12_type 31 = .ok (.aload_n 0, 1) := by decide +kernel
theorem dX12_type_32 : decode cX12_type 32 = .ok (.getfield 896, 3) := by decide +kernel
theorem dX12_type_35 : decode cX12_type 35 = .ok (.iload_n 1, 1) := by decide +kernel
theorem dX12_type_36 : decode cX12_type 36 = .ok (.iastore, 1) := by decide +kernel
theorem dX12_type_37 : decode cX12_type 37 = .ok (.aload_n 0, 1) := by decide +kernel
theorem dX12_type_38 : decode cX12_type 38 = .ok (.dup, 1) := by decide +kernel
theorem dX12_type_39 : decode cX12_type 39 = .ok (.getfield 896, 3) := by decide +kernel
theorem dX12_type_42 : decode cX12_type 42 = .ok (.iconst 1, 1) := by decide +kernel
theorem dX12_type_43 : decode cX12_type 43 = .ok (.iadd, 1) := by decide +kernel
theorem dX12_type_44 : decode cX12_type 44 = .ok (.putfield 896, 3) := by decide +kernel
theorem dX12_type_47 : decode cX12_type 47 = .ok (.aload_n 0, 1) := by decide +kernel
theorem dX12_type_48 : decode cX12_type 48 = .ok (.getfield 896, 3) := by decide +kernel
theorem dX12_type_51 : decode cX12_type 51 = .ok (.ireturn, 1) := by decide +kernel
def F_X12_type (l1 : Int32) (V : sv_V) : Option (Int32 × sv_V) := (F_X12_in l1.toInt64 (0 : Int64) (1114111 : Int64) V).bind (fun (x3, V1) => if x3 = 0 then (some ((-2 : Int32), V1)) else (if (V1.1 146 144) = (100 : Int32) then (some ((-4 : Int32), V1)) else (if sx_in (V1.1 146 144) 100 = true then sx_let (sv_I V1 205 (V1.1 146 144).toNatClampNeg l1) (fun V7 => sx_let (sv_I V7 146 144 ((V7.1 146 144) + (1 : Int32))) (fun V8 => some (V8.1 146 144, V8))) else none)))
set_option maxRecDepth 20000 in
theorem t_X12_type {g : sx_G} (hG : sx_Go g) {P : Option Value → sv_V → Prop} {r : Int32} {Vr : sv_V} (hP : P (some (.int r)) Vr) {l1 : Int32} {V : sv_V} (h : F_X12_type l1 V = some (r, Vr)) : sv_N g qX12_type 1 0 [(0, .ref 146), (1, .int l1)] [] V P := by
  unfold F_X12_type at h
  refine sx_iload_n (pc := 0) dX12_type_0 sx_m1 ?_
  refine sx_i2l (pc := 1) dX12_type_1 ?_
  refine sx_lconst (pc := 2) (v := 0) dX12_type_2 rfl ?_
  refine sx_ldc2 (pc := 3) dX12_type_3 k_X12_894 ?_
  obtain ⟨⟨x3, V1⟩, g2, h⟩ := sx_bnd h
  refine sv_cS (pc := 6) (y := qX12_in) (o := (some (.int x3))) (as := [.long l1.toInt64, .long (0 : Int64), .long (1114111 : Int64)]) (V1 := V1) dX12_type_6 l_X12_263 y0X12_in ysX12_in rfl (Nat.le_of_ble_eq_true rfl) (by decide) (Nat.le_of_ble_eq_true rfl) rfl rfl rfl (t_X12_in hG ⟨rfl, rfl⟩ g2) ?_
  refine sx_if_ne (pc := 9) (tgt := 15) dX12_type_9 (by decide) (fun c4 => ?_) (fun c4 => ?_)
  · have h := sx_neg c4 h
    refine sx_aload_n (pc := 15) dX12_type_15 sx_m0 ?_
    refine sv_getI (pc := 16) hG dX12_type_16 f_12_896 lay_146 rfl ?_
    refine sx_bipush (pc := 19) (v := 100) dX12_type_19 (by decide) ?_
    refine sx_icmp_ne (pc := 21) (tgt := 27) dX12_type_21 (by decide) (fun c5 => ?_) (fun c5 => ?_)
    · have h := sx_neg c5 h
      refine sx_aload_n (pc := 27) dX12_type_27 sx_m0 ?_
      refine sv_getA (pc := 28) hG dX12_type_28 f_12_191 lay_146 rfl cr_146_145 ?_
      refine sx_aload_n (pc := 31) dX12_type_31 sx_m0 ?_
      refine sv_getI (pc := 32) hG dX12_type_32 f_12_896 lay_146 rfl ?_
      refine sx_iload_n (pc := 35) dX12_type_35 sx_m1 ?_
      obtain ⟨g6, h⟩ := sx_grd h
      obtain ⟨V7, hV7⟩ : ∃ z : sv_V, z = sv_I V1 205 (V1.1 146 144).toNatClampNeg l1 := ⟨_, rfl⟩
      have h := sx_letE hV7 h
      refine sv_iast (pc := 36) hG dX12_type_36 lay_205 g6 hV7 ?_
      refine sx_aload_n (pc := 37) dX12_type_37 sx_m0 ?_
      refine sx_dup (pc := 38) dX12_type_38 rfl ?_
      refine sv_getI (pc := 39) hG dX12_type_39 f_12_896 lay_146 rfl ?_
      refine sx_iconst (pc := 42) (v := 1) dX12_type_42 (by decide) ?_
      refine sx_iadd (pc := 43) dX12_type_43 ?_
      obtain ⟨V8, hV8⟩ : ∃ z : sv_V, z = sv_I V7 146 144 ((V7.1 146 144) + (1 : Int32)) := ⟨_, rfl⟩
      have h := sx_letE hV8 h
      refine sv_putI (pc := 44) hG dX12_type_44 f_12_896 lay_146 rfl hV8 ?_
      refine sx_aload_n (pc := 47) dX12_type_47 sx_m0 ?_
      refine sv_getI (pc := 48) hG dX12_type_48 f_12_896 lay_146 rfl ?_
      exact sv_iret (pc := 51) dX12_type_51 rfl h hP
    · have h := sx_pos c5 h
      refine sx_bipush (pc := 24) (v := (-4)) dX12_type_24 (by decide) ?_
      exact sv_iret (pc := 26) dX12_type_26 rfl h hP
  · have h := sx_pos c4 h
    refine sx_bipush (pc := 12) (v := (-2)) dX12_type_12 (by decide) ?_
    exact sv_iret (pc := 14) dX12_type_14 rfl h hP
