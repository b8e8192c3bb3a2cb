/-! methods: X11_canvas, X11_toWholePixel, X12_nearest, X12_simple, X12_map, X12_settings, X12_rounded, X12_direction, X12_follow -/
theorem dX11_canvas_0 : decode cX11_canvas 0 = .ok (.iload_n 1, 1) := by decide +kernel
theorem dX11_canvas_1 : decode cX11_canvas 1 = .ok (.iconst 1, 1) := by decide +kernel
theorem dX11_canvas_2 : decode cX11_canvas 2 = .ok (.if_icmp .lt 22, 3) := by decide +kernel
theorem dX11_canvas_5 : decode cX11_canvas 5 = .ok (.iload_n 1, 1) := by decide +kernel
theorem dX11_canvas_6 : decode cX11_canvas 6 = .ok (.sipush 128, 3) := by decide +kernel
theorem dX11_canvas_9 : decode cX11_canvas 9 = .ok (.if_icmp .gt 15, 3) := by decide +kernel
theorem dX11_canvas_12 : decode cX11_canvas 12 = .ok (.iload_n 2, 1) := by decide +kernel
theorem dX11_canvas_13 : decode cX11_canvas 13 = .ok (.iconst 1, 1) := by decide +kernel
theorem dX11_canvas_14 : decode cX11_canvas 14 = .ok (.if_icmp .lt 10, 3) := by decide +kernel
theorem dX11_canvas_17 : decode cX11_canvas 17 = .ok (.iload_n 2, 1) := by decide +kernel
theorem dX11_canvas_18 : decode cX11_canvas 18 = .ok (.sipush 128, 3) := by decide +kernel
theorem dX11_canvas_21 : decode cX11_canvas 21 = .ok (.if_icmp .le 6, 3) := by decide +kernel
theorem dX11_canvas_24 : decode cX11_canvas 24 = .ok (.bipush (-2), 2) := by decide +kernel
theorem dX11_canvas_26 : decode cX11_canvas 26 = .ok (.ireturn, 1) := by decide +kernel
theorem dX11_canvas_27 : decode cX11_canvas 27 = .ok (.aload_n 0, 1) := by decide +kernel
theorem dX11_canvas_28 : decode cX11_canvas 28 = .ok (.getfield 44, 3) := by decide +kernel
theorem dX11_canvas_31 : decode cX11_canvas 31 = .ok (.iload_n 1, 1) := by decide +kernel
theorem dX11_canvas_32 : decode cX11_canvas 32 = .ok (.iload_n 2, 1) := by decide +kernel
theorem dX11_canvas_33 : decode cX11_canvas 33 = .ok (.invokevirtual 243, 3) := by decide +kernel
theorem dX11_canvas_36 : decode cX11_canvas 36 = .ok (.iconst 1, 1) := by decide +kernel
theorem dX11_canvas_37 : decode cX11_canvas 37 = .ok (.ireturn, 1) := by decide +kernel
def F_X11_canvas (N : Nat) (l1 : Int32) (l2 : Int32) (V : sv_V) : Option (Int32 × sv_V) := if l1 < (1 : Int32) then (some ((-2 : Int32), V)) else (if (128 : Int32) < l1 then (some ((-2 : Int32), V)) else (if l2 < (1 : Int32) then (some ((-2 : Int32), V)) else (if l2 ≤ (128 : Int32) then ((F_X1_renew N l1 l2 V).bind (fun V5 => some ((1 : Int32), V5))) else (some ((-2 : Int32), V)))))
set_option maxRecDepth 20000 in
theorem t_X11_canvas {g : sx_G} (hG : sx_Go g) {P : Option Value → sv_V → Prop} {r : Int32} {Vr : sv_V} (hP : P (some (.int r)) Vr) {N : Nat} {l1 : Int32} {l2 : Int32} {V : sv_V} (h : F_X11_canvas N l1 l2 V = some (r, Vr)) : sv_N g qX11_canvas 2 0 [(0, .ref 0), (1, .int l1), (2, .int l2)] [] V P := by
  unfold F_X11_canvas at h
  refine sx_iload_n (pc := 0) dX11_canvas_0 sx_m1 ?_
  refine sx_iconst (pc := 1) (v := 1) dX11_canvas_1 (by decide) ?_
  refine sx_icmp_lt (pc := 2) (tgt := 24) dX11_canvas_2 (by decide) (fun c1 => ?_) (fun c1 => ?_)
  · have h := sx_pos c1 h
    refine sx_bipush (pc := 24) (v := (-2)) dX11_canvas_24 (by decide) ?_
    exact sv_iret (pc := 26) dX11_canvas_26 rfl h hP
  · have h := sx_neg c1 h
    refine sx_iload_n (pc := 5) dX11_canvas_5 sx_m1 ?_
    refine sx_sipush (pc := 6) (v := 128) dX11_canvas_6 (by decide) ?_
    refine sx_icmp_gt (pc := 9) (tgt := 24) dX11_canvas_9 (by decide) (fun c2 => ?_) (fun c2 => ?_)
    · have h := sx_pos c2 h
      refine sx_bipush (pc := 24) (v := (-2)) dX11_canvas_24 (by decide) ?_
      exact sv_iret (pc := 26) dX11_canvas_26 rfl h hP
    · have h := sx_neg c2 h
      refine sx_iload_n (pc := 12) dX11_canvas_12 sx_m2 ?_
      refine sx_iconst (pc := 13) (v := 1) dX11_canvas_13 (by decide) ?_
      refine sx_icmp_lt (pc := 14) (tgt := 24) dX11_canvas_14 (by decide) (fun c3 => ?_) (fun c3 => ?_)
      · have h := sx_pos c3 h
        refine sx_bipush (pc := 24) (v := (-2)) dX11_canvas_24 (by decide) ?_
        exact sv_iret (pc := 26) dX11_canvas_26 rfl h hP
      · have h := sx_neg c3 h
        refine sx_iload_n (pc := 17) dX11_canvas_17 sx_m2 ?_
        refine sx_sipush (pc := 18) (v := 128) dX11_canvas_18 (by decide) ?_
        refine sx_icmp_le (pc := 21) (tgt := 27) dX11_canvas_21 (by decide) (fun c4 => ?_) (fun c4 => ?_)
        · have h := sx_pos c4 h
          refine sx_aload_n (pc := 27) dX11_canvas_27 sx_m0 ?_
          refine sv_getO (pc := 28) hG dX11_canvas_28 f_11_44 lay_0 rfl cr_0_5 ?_
          refine sx_iload_n (pc := 31) dX11_canvas_31 sx_m1 ?_
          refine sx_iload_n (pc := 32) dX11_canvas_32 sx_m2 ?_
          obtain ⟨V5, g6, h⟩ := sx_bnd h
          refine sv_cV (pc := 33) (y := qX1_renew) (o := none) (as := [.int l1, .int l2]) (V1 := V5) hG dX11_canvas_33 l_X11_243 y0X1_renew yvX1_renew rfl (Nat.le_of_ble_eq_true rfl) lay_143 kr_1 (by decide) (Nat.le_of_ble_eq_true rfl) rfl rfl rfl (t_X1_renew hG ⟨rfl, rfl⟩ g6) ?_
          refine sx_iconst (pc := 36) (v := 1) dX11_canvas_36 (by decide) ?_
          exact sv_iret (pc := 37) dX11_canvas_37 rfl h hP
        · have h := sx_neg c4 h
          refine sx_bipush (pc := 24) (v := (-2)) dX11_canvas_24 (by decide) ?_
          exact sv_iret (pc := 26) dX11_canvas_26 rfl h hP
theorem dX11_toWholePixel_0 : decode cX11_toWholePixel 0 = .ok (.lload_n 0, 1) := by decide +kernel
theorem dX11_toWholePixel_1 : decode cX11_toWholePixel 1 = .ok (.ldc2_w 269, 3) := by decide +kernel
theorem dX11_toWholePixel_4 : decode cX11_toWholePixel 4 = .ok (.ladd, 1) := by decide +kernel
theorem dX11_toWholePixel_5 : decode cX11_toWholePixel 5 = .ok (.ldc2_w 271, 3) := by decide +kernel
theorem dX11_toWholePixel_8 : decode cX11_toWholePixel 8 = .ok (.invokestatic 273, 3) := by decide +kernel
theorem dX11_toWholePixel_11 : decode cX11_toWholePixel 11 = .ok (.ldc2_w 271, 3) := by decide +kernel
theorem dX11_toWholePixel_14 : decode cX11_toWholePixel 14 = .ok (.lmul, 1) := by decide +kernel
theorem dX11_toWholePixel_15 : decode cX11_toWholePixel 15 = .ok (.lreturn, 1) := by decide +kernel
def F_X11_toWholePixel (l0 : Int64) (V : sv_V) : Option (Int64 × sv_V) := (F_J9_floorDiv_f86c9 (l0 + (32 : Int64)) (64 : Int64) V).bind (fun (x3, V1) => some (x3 * (64 : Int64), V1))
set_option maxRecDepth 20000 in
theorem t_X11_toWholePixel {g : sx_G} (hG : sx_Go g) {P : Option Value → sv_V → Prop} {r : Int64} {Vr : sv_V} (hP : P (some (.long r)) Vr) {l0 : Int64} {V : sv_V} (h : F_X11_toWholePixel l0 V = some (r, Vr)) : sv_N g qX11_toWholePixel 1 0 [(0, .long l0)] [] V P := by
  unfold F_X11_toWholePixel at h
  refine sx_lload_n (pc := 0) dX11_toWholePixel_0 sx_m0 ?_
  refine sx_ldc2 (pc := 1) dX11_toWholePixel_1 k_X11_269 ?_
  refine sx_ladd (pc := 4) dX11_toWholePixel_4 ?_
  refine sx_ldc2 (pc := 5) dX11_toWholePixel_5 k_X11_271 ?_
  obtain ⟨⟨x3, V1⟩, g2, h⟩ := sx_bnd h
  refine sv_cS (pc := 8) (y := qJ9_floorDiv_f86c9) (o := (some (.long x3))) (as := [.long (l0 + (32 : Int64)), .long (64 : Int64)]) (V1 := V1) dX11_toWholePixel_8 l_X11_273 y0J9_floorDiv_f86c9 ysJ9_floorDiv_f86c9 rfl (Nat.le_of_ble_eq_true rfl) (by decide) (Nat.le_of_ble_eq_true rfl) rfl rfl rfl (t_J9_floorDiv_f86c9 hG ⟨rfl, rfl⟩ g2) ?_
  refine sx_ldc2 (pc := 11) dX11_toWholePixel_11 k_X11_271 ?_
  refine sx_lmul (pc := 14) dX11_toWholePixel_14 ?_
  exact sv_lret (pc := 15) dX11_toWholePixel_15 rfl h hP
theorem dX12_nearest_0 : decode cX12_nearest 0 = .ok (.lload_n 0, 1) := by decide +kernel
theorem dX12_nearest_1 : decode cX12_nearest 1 = .ok (.lload_n 2, 1) := by decide +kernel
theorem dX12_nearest_2 : decode cX12_nearest 2 = .ok (.ldiv, 1) := by decide +kernel
theorem dX12_nearest_3 : decode cX12_nearest 3 = .ok (.lstore 4, 2) := by decide +kernel
theorem dX12_nearest_5 : decode cX12_nearest 5 = .ok (.lload_n 0, 1) := by decide +kernel
theorem dX12_nearest_6 : decode cX12_nearest 6 = .ok (.lload_n 2, 1) := by decide +kernel
theorem dX12_nearest_7 : decode cX12_nearest 7 = .ok (.lrem, 1) := by decide +kernel
theorem dX12_nearest_8 : decode cX12_nearest 8 = .ok (.invokestatic 198, 3) := by decide +kernel
theorem dX12_nearest_11 : decode cX12_nearest 11 = .ok (.lstore 6, 2) := by decide +kernel
theorem dX12_nearest_13 : decode cX12_nearest 13 = .ok (.lload 6, 2) := by decide +kernel
theorem dX12_nearest_15 : decode cX12_nearest 15 = .ok (.lload_n 2, 1) := by decide +kernel
theorem dX12_nearest_16 : decode cX12_nearest 16 = .ok (.invokestatic 198, 3) := by decide +kernel
theorem dX12_nearest_19 : decode cX12_nearest 19 = .ok (.lload 6, 2) := by decide +kernel
theorem dX12_nearest_21 : decode cX12_nearest 21 = .ok (.lsub, 1) := by decide +kernel
theorem dX12_nearest_22 : decode cX12_nearest 22 = .ok (.lcmp, 1) := by decide +kernel
theorem dX12_nearest_23 : decode cX12_nearest 23 = .ok (.ifCond .lt 7, 3) := by decide +kernel
theorem dX12_nearest_26 : decode cX12_nearest 26 = .ok (.lconst 1, 1) := by decide +kernel
theorem dX12_nearest_27 : decode cX12_nearest 27 = .ok (.goto 4, 3) := by decide +kernel
theorem dX12_nearest_30 : decode cX12_nearest 30 = .ok (.lconst 0, 1) := by decide +kernel
theorem dX12_nearest_31 : decode cX12_nearest 31 = .ok (.lstore 8, 2) := by decide +kernel
theorem dX12_nearest_33 : decode cX12_nearest 33 = .ok (.lload_n 0, 1) := by decide +kernel
theorem dX12_nearest_34 : decode cX12_nearest 34 = .ok (.lconst 0, 1) := by decide +kernel
theorem dX12_nearest_35 : decode cX12_nearest 35 = .ok (.lcmp, 1) := by decide +kernel
theorem dX12_nearest_36 : decode cX12_nearest 36 = .ok (.ifCond .ge 7, 3) := by decide +kernel
theorem dX12_nearest_39 : decode cX12_nearest 39 = .ok (.iconst 1, 1) := by decide +kernel
theorem dX12_nearest_40 : decode cX12_nearest 40 = .ok (.goto 4, 3) := by decide +kernel
theorem dX12_nearest_43 : decode cX12_nearest 43 = .ok (.iconst 0, 1) := by decide +kernel
theorem dX12_nearest_44 : decode cX12_nearest 44 = .ok (.lload_n 2, 1) := by decide +kernel
theorem dX12_nearest_45 : decode cX12_nearest 45 = .ok (.lconst 0, 1) := by decide +kernel
theorem dX12_nearest_46 : decode cX12_nearest 46 = .ok (.lcmp, 1) := by decide +kernel
theorem dX12_nearest_47 : decode cX12_nearest 47 = .ok (.ifCond .ge 7, 3) := by decide +kernel
theorem dX12_nearest_50 : decode cX12_nearest 50 = .ok (.iconst 1, 1) := by decide +kernel
theorem dX12_nearest_51 : decode cX12_nearest 51 = .ok (.goto 4, 3) := by decide +kernel
theorem dX12_nearest_54 : decode cX12_nearest 54 = .ok (.iconst 0, 1) := by decide +kernel
theorem dX12_nearest_55 : decode cX12_nearest 55 = .ok (.if_icmp .ne 11, 3) := by decide +kernel
theorem dX12_nearest_58 : decode cX12_nearest 58 = .ok (.lload 4, 2) := by decide +kernel
theorem dX12_nearest_60 : decode cX12_nearest 60 = .ok (.lload 8, 2) := by decide +kernel
theorem dX12_nearest_62 : decode cX12_nearest 62 = .ok (.ladd, 1) := by decide +kernel
theorem dX12_nearest_63 : decode cX12_nearest 63 = .ok (.goto 8, 3) := by decide +kernel
theorem dX12_nearest_66 : decode cX12_nearest 66 = .ok (.lload 4, 2) := by decide +kernel
theorem dX12_nearest_68 : decode cX12_nearest 68 = .ok (.lload 8, 2) := by decide +kernel
theorem dX12_nearest_70 : decode cX12_nearest 70 = .ok (.lsub, 1) := by decide +kernel
theorem dX12_nearest_71 : decode cX12_nearest 71 = .ok (.lreturn, 1) := by decide +kernel
def B_X12_nearest_55  (l4 : Int64) (l8 : Int64) (s0 : Int32) (s1 : Int32) (V : sv_V) : Option (Int64 × sv_V) := if s0 = s1 then (some (l4 + l8, V)) else (some (l4 - l8, V))
set_option maxRecDepth 20000 in
theorem tB_X12_nearest_55 {g : sx_G} (hG : sx_Go g) {P : Option Value → sv_V → Prop} {r : Int64} {Vr : sv_V} (hP : P (some (.long r)) Vr)   {l4 : Int64} {l8 : Int64} {s0 : Int32} {s1 : Int32} {V : sv_V} (h : B_X12_nearest_55  l4 l8 s0 s1 V = some (r, Vr)) : sv_N g qX12_nearest 1 55 [(4, .long l4), (8, .long l8)] [.int s1, .int s0] V P := by
  unfold B_X12_nearest_55 at h
  refine sx_icmp_ne (pc := 55) (tgt := 66) dX12_nearest_55 (by decide) (fun c1 => ?_) (fun c1 => ?_)
  · have h := sx_neg c1 h
    refine sx_lload (pc := 66) dX12_nearest_66 sx_m0 ?_
    refine sx_lload (pc := 68) dX12_nearest_68 sx_m1 ?_
    refine sx_lsub (pc := 70) dX12_nearest_70 ?_
    exact sv_lret (pc := 71) dX12_nearest_71 rfl h hP
  · have h := sx_pos c1 h
    refine sx_lload (pc := 58) dX12_nearest_58 sx_m0 ?_
    refine sx_lload (pc := 60) dX12_nearest_60 sx_m1 ?_
    refine sx_ladd (pc := 62) dX12_nearest_62 ?_
    refine sx_goto (pc := 63) (tgt := 71) dX12_nearest_63 (by decide) ?_
    exact sv_lret (pc := 71) dX12_nearest_71 rfl h hP
def B_X12_nearest_44  (l2 : Int64) (l4 : Int64) (l8 : Int64) (s0 : Int32) (V : sv_V) : Option (Int64 × sv_V) := if 0 ≤ (lg_cmp l2 (0 : Int64)) then (B_X12_nearest_55  l4 l8 s0 (0 : Int32) V) else (B_X12_nearest_55  l4 l8 s0 (1 : Int32) V)
set_option maxRecDepth 20000 in
theorem tB_X12_nearest_44 {g : sx_G} (hG : sx_Go g) {P : Option Value → sv_V → Prop} {r : Int64} {Vr : sv_V} (hP : P (some (.long r)) Vr)   {l2 : Int64} {l4 : Int64} {l8 : Int64} {s0 : Int32} {V : sv_V} (h : B_X12_nearest_44  l2 l4 l8 s0 V = some (r, Vr)) : sv_N g qX12_nearest 1 44 [(2, .long l2), (4, .long l4), (8, .long l8)] [.int s0] V P := by
  unfold B_X12_nearest_44 at h
  refine sx_lload_n (pc := 44) dX12_nearest_44 sx_m0 ?_
  refine sx_lconst (pc := 45) (v := 0) dX12_nearest_45 rfl ?_
  refine sx_lcmp (pc := 46) dX12_nearest_46 ?_
  refine sx_if_ge (pc := 47) (tgt := 54) dX12_nearest_47 (by decide) (fun c2 => ?_) (fun c2 => ?_)
  · have h := sx_pos c2 h
    refine sx_iconst (pc := 54) (v := 0) dX12_nearest_54 (by decide) ?_
    refine sx_wk (sx_s1 sx_m1 (sx_s1 sx_m2 sx_s0)) ?_
    exact tB_X12_nearest_55 hG hP  h
  · have h := sx_neg c2 h
    refine sx_iconst (pc := 50) (v := 1) dX12_nearest_50 (by decide) ?_
    refine sx_goto (pc := 51) (tgt := 55) dX12_nearest_51 (by decide) ?_
    refine sx_wk (sx_s1 sx_m1 (sx_s1 sx_m2 sx_s0)) ?_
    exact tB_X12_nearest_55 hG hP  h
def B_X12_nearest_31  (l0 : Int64) (l2 : Int64) (l4 : Int64) (s0 : Int64) (V : sv_V) : Option (Int64 × sv_V) := if 0 ≤ (lg_cmp l0 (0 : Int64)) then (B_X12_nearest_44  l2 l4 s0 (0 : Int32) V) else (B_X12_nearest_44  l2 l4 s0 (1 : Int32) V)
set_option maxRecDepth 20000 in
theorem tB_X12_nearest_31 {g : sx_G} (hG : sx_Go g) {P : Option Value → sv_V → Prop} {r : Int64} {Vr : sv_V} (hP : P (some (.long r)) Vr)   {l0 : Int64} {l2 : Int64} {l4 : Int64} {s0 : Int64} {V : sv_V} (h : B_X12_nearest_31  l0 l2 l4 s0 V = some (r, Vr)) : sv_N g qX12_nearest 1 31 [(0, .long l0), (2, .long l2), (4, .long l4)] [.long s0] V P := by
  unfold B_X12_nearest_31 at h
  refine sx_lstore (pc := 31) (lo' := [(8, .long s0), (0, .long l0), (2, .long l2), (4, .long l4)]) dX12_nearest_31 (by decide) rfl ?_
  refine sx_lload_n (pc := 33) dX12_nearest_33 sx_m1 ?_
  refine sx_lconst (pc := 34) (v := 0) dX12_nearest_34 rfl ?_
  refine sx_lcmp (pc := 35) dX12_nearest_35 ?_
  refine sx_if_ge (pc := 36) (tgt := 43) dX12_nearest_36 (by decide) (fun c3 => ?_) (fun c3 => ?_)
  · have h := sx_pos c3 h
    refine sx_iconst (pc := 43) (v := 0) dX12_nearest_43 (by decide) ?_
    refine sx_wk (sx_s1 sx_m2 (sx_s1 sx_m3 (sx_s1 sx_m0 sx_s0))) ?_
    exact tB_X12_nearest_44 hG hP  h
  · have h := sx_neg c3 h
    refine sx_iconst (pc := 39) (v := 1) dX12_nearest_39 (by decide) ?_
    refine sx_goto (pc := 40) (tgt := 44) dX12_nearest_40 (by decide) ?_
    refine sx_wk (sx_s1 sx_m2 (sx_s1 sx_m3 (sx_s1 sx_m0 sx_s0))) ?_
    exact tB_X12_nearest_44 hG hP  h
def F_X12_nearest (l0 : Int64) (l2 : Int64) (V : sv_V) : Option (Int64 × sv_V) := if ¬ l2 = 0 then sx_let (l0 / l2) (fun x5 => if ¬ l2 = 0 then (F_X12_sizeOf (l0 - l0 / l2 * l2) V).bind (fun (x9, V7) => (F_X12_sizeOf l2 V7).bind (fun (x12, V10) => if (lg_cmp x9 (x12 - x9)) < 0 then (B_X12_nearest_31  l0 l2 x5 (0 : Int64) V10) else (B_X12_nearest_31  l0 l2 x5 (1 : Int64) V10))) else none) else none
set_option maxRecDepth 20000 in
theorem t_X12_nearest {g : sx_G} (hG : sx_Go g) {P : Option Value → sv_V → Prop} {r : Int64} {Vr : sv_V} (hP : P (some (.long r)) Vr) {l0 : Int64} {l2 : Int64} {V : sv_V} (h : F_X12_nearest l0 l2 V = some (r, Vr)) : sv_N g qX12_nearest 1 0 [(0, .long l0), (2, .long l2)] [] V P := by
  unfold F_X12_nearest at h
  refine sx_lload_n (pc := 0) dX12_nearest_0 sx_m0 ?_
  refine sx_lload_n (pc := 1) dX12_nearest_1 sx_m1 ?_
  obtain ⟨g4, h⟩ := sx_grd h
  refine sx_ldiv (pc := 2) dX12_nearest_2 g4 ?_
  refine sv_tJ (fun x5 hx5 => ?_)
  have h := sx_letE hx5 h
  refine sx_lstore (pc := 3) (lo' := [(4, .long x5), (0, .long l0), (2, .long l2)]) dX12_nearest_3 (by decide) rfl ?_
  refine sx_lload_n (pc := 5) dX12_nearest_5 sx_m1 ?_
  refine sx_lload_n (pc := 6) dX12_nearest_6 sx_m2 ?_
  obtain ⟨g6, h⟩ := sx_grd h
  refine sx_lrem (pc := 7) dX12_nearest_7 g6 ?_
  obtain ⟨⟨x9, V7⟩, g8, h⟩ := sx_bnd h
  refine sv_cS (pc := 8) (y := qX12_sizeOf) (o := (some (.long x9))) (as := [.long (l0 - l0 / l2 * l2)]) (V1 := V7) dX12_nearest_8 l_X12_198 y0X12_sizeOf ysX12_sizeOf rfl (Nat.le_of_ble_eq_true rfl) (by decide) (Nat.le_of_ble_eq_true rfl) rfl rfl rfl (t_X12_sizeOf hG ⟨rfl, rfl⟩ g8) ?_
  refine sx_lstore (pc := 11) (lo' := [(6, .long x9), (4, .long x5), (0, .long l0), (2, .long l2)]) dX12_nearest_11 (by decide) rfl ?_
  refine sx_lload (pc := 13) dX12_nearest_13 sx_m0 ?_
  refine sx_lload_n (pc := 15) dX12_nearest_15 sx_m3 ?_
  obtain ⟨⟨x12, V10⟩, g11, h⟩ := sx_bnd h
  refine sv_cS (pc := 16) (y := qX12_sizeOf) (o := (some (.long x12))) (as := [.long l2]) (V1 := V10) dX12_nearest_16 l_X12_198 y0X12_sizeOf ysX12_sizeOf rfl (Nat.le_of_ble_eq_true rfl) (by decide) (Nat.le_of_ble_eq_true rfl) rfl rfl rfl (t_X12_sizeOf hG ⟨rfl, rfl⟩ g11) ?_
  refine sx_lload (pc := 19) dX12_nearest_19 sx_m0 ?_
  refine sx_lsub (pc := 21) dX12_nearest_21 ?_
  refine sx_lcmp (pc := 22) dX12_nearest_22 ?_
  refine sx_if_lt (pc := 23) (tgt := 30) dX12_nearest_23 (by decide) (fun c13 => ?_) (fun c13 => ?_)
  · have h := sx_pos c13 h
    refine sx_lconst (pc := 30) (v := 0) dX12_nearest_30 rfl ?_
    refine sx_wk (sx_s1 sx_m2 (sx_s1 sx_m3 (sx_s1 sx_m1 sx_s0))) ?_
    exact tB_X12_nearest_31 hG hP  h
  · have h := sx_neg c13 h
    refine sx_lconst (pc := 26) (v := 1) dX12_nearest_26 rfl ?_
    refine sx_goto (pc := 27) (tgt := 31) dX12_nearest_27 (by decide) ?_
    refine sx_wk (sx_s1 sx_m2 (sx_s1 sx_m3 (sx_s1 sx_m1 sx_s0))) ?_
    exact tB_X12_nearest_31 hG hP  h
theorem dX12_simple_0 : decode cX12_simple 0 = .ok (.aload_n 0, 1) := by decide +kernel
theorem dX12_simple_1 : decode cX12_simple 1 = .ok (.getfield 342, 3) := by decide +kernel
theorem dX12_simple_4 : decode cX12_simple 4 = .ok (.bipush 10, 2) := by decide +kernel
theorem dX12_simple_6 : decode cX12_simple 6 = .ok (.iadd, 1) := by decide +kernel
theorem dX12_simple_7 : decode cX12_simple 7 = .ok (.istore_n 1, 1) := by decide +kernel
theorem dX12_simple_8 : decode cX12_simple 8 = .ok (.iload_n 1, 1) := by decide +kernel
theorem dX12_simple_9 : decode cX12_simple 9 = .ok (.iconst 2, 1) := by decide +kernel
theorem dX12_simple_10 : decode cX12_simple 10 = .ok (.aload_n 0, 1) := by decide +kernel
theorem dX12_simple_11 : decode cX12_simple 11 = .ok (.getfield 348, 3) := by decide +kernel
theorem dX12_simple_14 : decode cX12_simple 14 = .ok (.imul, 1) := by decide +kernel
theorem dX12_simple_15 : decode cX12_simple 15 = .ok (.iadd, 1) := by decide +kernel
theorem dX12_simple_16 : decode cX12_simple 16 = .ok (.iconst 2, 1) := by decide +kernel
theorem dX12_simple_17 : decode cX12_simple 17 = .ok (.iadd, 1) := by decide +kernel
theorem dX12_simple_18 : decode cX12_simple 18 = .ok (.aload_n 0, 1) := by decide +kernel
theorem dX12_simple_19 : decode cX12_simple 19 = .ok (.getfield 345, 3) := by decide +kernel
theorem dX12_simple_22 : decode cX12_simple 22 = .ok (.if_icmp .le 5, 3) := by decide +kernel
theorem dX12_simple_25 : decode cX12_simple 25 = .ok (.iconst 0, 1) := by decide +kernel
theorem dX12_simple_26 : decode cX12_simple 26 = .ok (.ireturn, 1) := by decide +kernel
theorem dX12_simple_27 : decode cX12_simple 27 = .ok (.iconst (-1), 1) := by decide +kernel
theorem dX12_simple_28 : decode cX12_simple 28 = .ok (.istore_n 2, 1) := by decide +kernel
theorem dX12_simple_29 : decode cX12_simple 29 = .ok (.iconst 0, 1) := by decide +kernel
theorem dX12_simple_30 : decode cX12_simple 30 = .ok (.istore_n 3, 1) := by decide +kernel
theorem dX12_simple_31 : decode cX12_simple 31 = .ok (.iload_n 3, 1) := by decide +kernel
theorem dX12_simple_32 : decode cX12_simple 32 = .ok (.aload_n 0, 1) := by decide +kernel
theorem dX12_simple_33 : decode cX12_simple 33 = .ok (.getfield 348, 3) := by decide +kernel
theorem dX12_simple_36 : decode cX12_simple 36 = .ok (.if_icmp .ge 45, 3) := by decide +kernel
theorem dX12_simple_39 : decode cX12_simple 39 = .ok (.aload_n 0, 1) := by decide +kernel
theorem dX12_simple_40 : decode cX12_simple 40 = .ok (.iload_n 1, 1) := by decide +kernel
theorem dX12_simple_41 : decode cX12_simple 41 = .ok (.invokevirtual 213, 3) := by decide +kernel
theorem dX12_simple_44 : decode cX12_simple 44 = .ok (.istore 4, 2) := by decide +kernel
theorem dX12_simple_46 : decode cX12_simple 46 = .ok (.iload 4, 2) := by decide +kernel
theorem dX12_simple_48 : decode cX12_simple 48 = .ok (.iload_n 2, 1) := by decide +kernel
theorem dX12_simple_49 : decode cX12_simple 49 = .ok (.if_icmp .le 10, 3) := by decide +kernel
theorem dX12_simple_52 : decode cX12_simple 52 = .ok (.iload 4, 2) := by decide +kernel
theorem dX12_simple_54 : decode cX12_simple 54 = .ok (.bipush 100, 2) := by decide +kernel
theorem dX12_simple_56 : decode cX12_simple 56 = .ok (.if_icmp .lt 5, 3) := by decide +kernel
theorem dX12_simple_59 : decode cX12_simple 59 = .ok (.iconst 0, 1) := by decide +kernel
theorem dX12_simple_60 : decode cX12_simple 60 = .ok (.ireturn, 1) := by decide +kernel
theorem dX12_simple_61 : decode cX12_simple 61 = .ok (.aload_n 0, 1) := by decide +kernel
theorem dX12_simple_62 : decode cX12_simple 62 = .ok (.getfield 30, 3) := by decide +kernel
theorem dX12_simple_65 : decode cX12_simple 65 = .ok (.iload_n 3, 1) := by decide +kernel
theorem dX12_simple_66 : decode cX12_simple 66 = .ok (.iload 4, 2) := by decide +kernel
theorem dX12_simple_68 : decode cX12_simple 68 = .ok (.iastore, 1) := by decide +kernel
theorem dX12_simple_69 : decode cX12_simple 69 = .ok (.iload 4, 2) := by decide +kernel
theorem dX12_simple_71 : decode cX12_simple 71 = .ok (.istore_n 2, 1) := by decide +kernel
theorem dX12_simple_72 : decode cX12_simple 72 = .ok (.iinc 1 2, 3) := by decide +kernel
theorem dX12_simple_75 : decode cX12_simple 75 = .ok (.iinc 3 1, 3) := by decide +kernel
theorem dX12_simple_78 : decode cX12_simple 78 = .ok (.goto (-47), 3) := by decide +kernel
theorem dX12_simple_81 : decode cX12_simple 81 = .ok (.aload_n 0, 1) := by decide +kernel
theorem dX12_simple_82 : decode cX12_simple 82 = .ok (.iload_n 2, 1) := by decide +kernel
theorem dX12_simple_83 : decode cX12_simple 83 = .ok (.iconst 1, 1) := by decide +kernel
theorem dX12_simple_84 : decode cX12_simple 84 = .ok (.iadd, 1) := by decide +kernel
theorem dX12_simple_85 : decode cX12_simple 85 = .ok (.putfield 351, 3) := by decide +kernel
theorem dX12_simple_88 : decode cX12_simple 88 = .ok (.aload_n 0, 1) := by decide +kernel
theorem dX12_simple_89 : decode cX12_simple 89 = .ok (.aload_n 0, 1) := by decide +kernel
theorem dX12_simple_90 : decode cX12_simple 90 = .ok (.iload_n 1, 1) := by decide +kernel
theorem dX12_simple_91 : decode cX12_simple 91 = .ok (.invokevirtual 213, 3) := by decide +kernel
theorem dX12_simple_94 : decode cX12_simple 94 = .ok (.putfield 360, 3) := by decide +kernel
theorem dX12_simple_97 : decode cX12_simple 97 = .ok (.aload_n 0, 1) := by decide +kernel
theorem dX12_simple_98 : decode cX12_simple 98 = .ok (.iload_n 1, 1) := by decide +kernel
theorem dX12_simple_99 : decode cX12_simple 99 = .ok (.iconst 2, 1) := by decide +kernel
theorem dX12_simple_100 : decode cX12_simple 100 = .ok (.iadd, 1) := by decide +kernel
theorem dX12_simple_101 : decode cX12_simple 101 = .ok (.putfield 357, 3) := by decide +kernel
theorem dX12_simple_104 : decode cX12_simple 104 = .ok (.iload_n 1, 1) := by decide +kernel
theorem dX12_simple_105 : decode cX12_simple 105 = .ok (.iconst 2, 1) := by decide +kernel
theorem dX12_simple_106 : decode cX12_simple 106 = .ok (.aload_n 0, 1) := by decide +kernel
theorem dX12_simple_107 : decode cX12_simple 107 = .ok (.getfield 360, 3) := by decide +kernel
theorem dX12_simple_110 : decode cX12_simple 110 = .ok (.iadd, 1) := by decide +kernel
theorem dX12_simple_111 : decode cX12_simple 111 = .ok (.iadd, 1) := by decide +kernel
theorem dX12_simple_112 : decode cX12_simple 112 = .ok (.istore_n 1, 1) := by decide +kernel
theorem dX12_simple_113 : decode cX12_simple 113 = .ok (.aload_n 0, 1) := by decide +kernel
theorem dX12_simple_114 : decode cX12_simple 114 = .ok (.getfield 360, 3) := by decide +kernel
theorem dX12_simple_117 : decode cX12_simple 117 = .ok (.sipush 400, 3) := by decide +kernel
theorem dX12_simple_120 : decode cX12_simple 120 = .ok (.if_icmp .gt 11, 3) := by decide +kernel
theorem dX12_simple_123 : decode cX12_simple 123 = .ok (.iload_n 1, 1) := by decide +kernel
theorem dX12_simple_124 : decode cX12_simple 124 = .ok (.aload_n 0, 1) := by decide +kernel
theorem dX12_simple_125 : decode cX12_simple 125 = .ok (.getfield 345, 3) := by decide +kernel
theorem dX12_simple_128 : decode cX12_simple 128 = .ok (.if_icmp .le 5, 3) := by decide +kernel
theorem dX12_simple_131 : decode cX12_simple 131 = .ok (.iconst 0, 1) := by decide +kernel
theorem dX12_simple_132 : decode cX12_simple 132 = .ok (.ireturn, 1) := by decide +kernel
theorem dX12_simple_133 : decode cX12_simple 133 = .ok (.iconst 0, 1) := by decide +kernel
theorem dX12_simple_134 : decode cX12_simple 134 = .ok (.istore_n 3, 1) := by decide +kernel
theorem dX12_simple_135 : decode cX12_simple 135 = .ok (.iload_n 3, 1) := by decide +kernel
theorem dX12_simple_136 : decode cX12_simple 136 = .ok (.aload_n 0, 1) := by decide +kernel
theorem dX12_simple_137 : decode cX12_simple 137 = .ok (.getfield 351, 3) := by decide +kernel
theorem dX12_simple_140 : decode cX12_simple 140 = .ok (.if_icmp .ge 99, 3) := by decide +kernel
theorem dX12_simple_143 : decode cX12_simple 143 = .ok (.iload_n 1, 1) := by decide +kernel
theorem dX12_simple_144 : decode cX12_simple 144 = .ok (.aload_n 0, 1) := by decide +kernel
theorem dX12_simple_145 : decode cX12_simple 145 = .ok (.getfield 345, 3) := by decide +kernel
theorem dX12_simple_148 : decode cX12_simple 148 = .ok (.if_icmp .lt 5, 3) := by decide +kernel
theorem dX12_simple_151 : decode cX12_simple 151 = .ok (.iconst 0, 1) := by decide +kernel
theorem dX12_simple_152 : decode cX12_simple 152 = .ok (.ireturn, 1) := by decide +kernel
theorem dX12_simple_153 : decode cX12_simple 153 = .ok (.aload_n 0, 1) := by decide +kernel
theorem dX12_simple_154 : decode cX12_simple 154 = .ok (.iload_n 1, 1) := by decide +kernel
theorem dX12_simple_155 : decode cX12_simple 155 = .ok (.invokevirtual 209, 3) := by decide +kernel
theorem dX12_simple_158 : decode cX12_simple 158 = .ok (.istore 4, 2) := by decide +kernel
theorem dX12_simple_160 : decode cX12_simple 160 = .ok (.iinc 1 1, 3) := by decide +kernel
theorem dX12_simple_163 : decode cX12_simple 163 = .ok (.iconst 0, 1) := by decide +kernel
theorem dX12_simple_164 : decode cX12_simple 164 = .ok (.istore 5, 2) := by decide +kernel
theorem dX12_simple_166 : decode cX12_simple 166 = .ok (.iload 4, 2) := by decide +kernel
theorem dX12_simple_168 : decode cX12_simple 168 = .ok (.bipush 8, 2) := by decide +kernel
theorem dX12_simple_170 : decode cX12_simple 170 = .ok (.iand, 1) := by decide +kernel
theorem dX12_simple_171 : decode cX12_simple 171 = .ok (.ifCond .eq 23, 3) := by decide +kernel
theorem dX12_simple_174 : decode cX12_simple 174 = .ok (.iload_n 1, 1) := by decide +kernel
theorem dX12_simple_175 : decode cX12_simple 175 = .ok (.aload_n 0, 1) := by decide +kernel
theorem dX12_simple_176 : decode cX12_simple 176 = .ok (.getfield 345, 3) := by decide +kernel
theorem dX12_simple_179 : decode cX12_simple 179 = .ok (.if_icmp .lt 5, 3) := by decide +kernel
theorem dX12_simple_182 : decode cX12_simple 182 = .ok (.iconst 0, 1) := by decide +kernel
theorem dX12_simple_183 : decode cX12_simple 183 = .ok (.ireturn, 1) := by decide +kernel
theorem dX12_simple_184 : decode cX12_simple 184 = .ok (.aload_n 0, 1) := by decide +kernel
theorem dX12_simple_185 : decode cX12_simple 185 = .ok (.iload_n 1, 1) := by decide +kernel
theorem dX12_simple_186 : decode cX12_simple 186 = .ok (.invokevirtual 209, 3) := by decide +kernel
theorem dX12_simple_189 : decode cX12_simple 189 = .ok (.istore 5, 2) := by decide +kernel
theorem dX12_simple_191 : decode cX12_simple 191 = .ok (.iinc 1 1, 3) := by decide +kernel
theorem dX12_simple_194 : decode cX12_simple 194 = .ok (.iload_n 3, 1) := by decide +kernel
theorem dX12_simple_195 : decode cX12_simple 195 = .ok (.iconst 1, 1) := by decide +kernel
theorem dX12_simple_196 : decode cX12_simple 196 = .ok (.iadd, 1) := by decide +kernel
theorem dX12_simple_197 : decode cX12_simple 197 = .ok (.iload 5, 2) := by decide +kernel
theorem dX12_simple_199 : decode cX12_simple 199 = .ok (.iadd, 1) := by decide +kernel
theorem dX12_simple_200 : decode cX12_simple 200 = .ok (.aload_n 0, 1) := by decide +kernel
theorem dX12_simple_201 : decode cX12_simple 201 = .ok (.getfield 351, 3) := by decide +kernel
theorem dX12_simple_204 : decode cX12_simple 204 = .ok (.if_icmp .le 5, 3) := by decide +kernel
theorem dX12_simple_207 : decode cX12_simple 207 = .ok (.iconst 0, 1) := by decide +kernel
theorem dX12_simple_208 : decode cX12_simple 208 = .ok (.ireturn, 1) := by decide +kernel
theorem dX12_simple_209 : decode cX12_simple 209 = .ok (.iconst 0, 1) := by decide +kernel
theorem dX12_simple_210 : decode cX12_simple 210 = .ok (.istore 6, 2) := by decide +kernel
theorem dX12_simple_212 : decode cX12_simple 212 = .ok (.iload 6, 2) := by decide +kernel
theorem dX12_simple_214 : decode cX12_simple 214 = .ok (.iload 5, 2) := by decide +kernel
theorem dX12_simple_216 : decode cX12_simple 216 = .ok (.if_icmp .gt 20, 3) := by decide +kernel
theorem dX12_simple_219 : decode cX12_simple 219 = .ok (.aload_n 0, 1) := by decide +kernel
theorem dX12_simple_220 : decode cX12_simple 220 = .ok (.getfield 39, 3) := by decide +kernel
theorem dX12_simple_223 : decode cX12_simple 223 = .ok (.iload_n 3, 1) := by decide +kernel
theorem dX12_simple_224 : decode cX12_simple 224 = .ok (.iload 4, 2) := by decide +kernel
theorem dX12_simple_226 : decode cX12_simple 226 = .ok (.iastore, 1) := by decide +kernel
theorem dX12_simple_227 : decode cX12_simple 227 = .ok (.iinc 3 1, 3) := by decide +kernel
theorem dX12_simple_230 : decode cX12_simple 230 = .ok (.iinc 6 1, 3) := by decide +kernel
theorem dX12_simple_233 : decode cX12_simple 233 = .ok (.goto (-21), 3) := by decide +kernel
theorem dX12_simple_236 : decode cX12_simple 236 = .ok (.goto (-101), 3) := by decide +kernel
theorem dX12_simple_239 : decode cX12_simple 239 = .ok (.aload_n 0, 1) := by decide +kernel
theorem dX12_simple_240 : decode cX12_simple 240 = .ok (.iload_n 1, 1) := by decide +kernel
theorem dX12_simple_241 : decode cX12_simple 241 = .ok (.aload_n 0, 1) := by decide +kernel
theorem dX12_simple_242 : decode cX12_simple 242 = .ok (.getfield 33, 3) := by decide +kernel
theorem dX12_simple_245 : decode cX12_simple 245 = .ok (.iconst 2, 1) := by decide +kernel
theorem dX12_simple_246 : decode cX12_simple 246 = .ok (.bipush 16, 2) := by decide +kernel
theorem dX12_simple_248 : decode cX12_simple 248 = .ok (.invokevirtual 373, 3) := by decide +kernel
theorem dX12_simple_251 : decode cX12_simple 251 = .ok (.istore_n 1, 1) := by decide +kernel
theorem dX12_simple_252 : decode cX12_simple 252 = .ok (.iload_n 1, 1) := by decide +kernel
theorem dX12_simple_253 : decode cX12_simple 253 = .ok (.iconst (-1), 1) := by decide +kernel
theorem dX12_simple_254 : decode cX12_simple 254 = .ok (.if_icmp .ne 7, 3) := by decide +kernel
theorem dX12_simple_257 : decode cX12_simple 257 = .ok (.iconst (-1), 1) := by decide +kernel
theorem dX12_simple_258 : decode cX12_simple 258 = .ok (.goto 15, 3) := by decide +kernel
theorem dX12_simple_261 : decode cX12_simple 261 = .ok (.aload_n 0, 1) := by decide +kernel
theorem dX12_simple_262 : decode cX12_simple 262 = .ok (.iload_n 1, 1) := by decide +kernel
theorem dX12_simple_263 : decode cX12_simple 263 = .ok (.aload_n 0, 1) := by decide +kernel
theorem dX12_simple_264 : decode cX12_simple 264 = .ok (.getfield 36, 3) := by decide +kernel
theorem dX12_simple_267 : decode cX12_simple 267 = .ok (.iconst 4, 1) := by decide +kernel
theorem dX12_simple_268 : decode cX12_simple 268 = .ok (.bipush 32, 2) := by decide +kernel
theorem dX12_simple_270 : decode cX12_simple 270 = .ok (.invokevirtual 373, 3) := by decide +kernel
theorem dX12_simple_273 : decode cX12_simple 273 = .ok (.istore_n 1, 1) := by decide +kernel
theorem dX12_simple_274 : decode cX12_simple 274 = .ok (.iload_n 1, 1) := by decide +kernel
theorem dX12_simple_275 : decode cX12_simple 275 = .ok (.iconst (-1), 1) := by decide +kernel
theorem dX12_simple_276 : decode cX12_simple 276 = .ok (.if_icmp .eq 7, 3) := by decide +kernel
theorem dX12_simple_279 : decode cX12_simple 279 = .ok (.iconst 1, 1) := by decide +kernel
theorem dX12_simple_280 : decode cX12_simple 280 = .ok (.goto 4, 3) := by decide +kernel
theorem dX12_simple_283 : decode cX12_simple 283 = .ok (.iconst 0, 1) := by decide +kernel
theorem dX12_simple_284 : decode cX12_simple 284 = .ok (.ireturn, 1) := by decide +kernel
def B_X12_simple_212 (N : Nat) (k135 : Int32 → Int32 → sv_V → Option (Int32 × sv_V)) (k212 : Int32 → Int32 → Int32 → Int32 → Int32 → sv_V → Option (Int32 × sv_V)) (l1 : Int32) (l3 : Int32) (l4 : Int32) (l5 : Int32) (l6 : Int32) (V : sv_V) : Option (Int32 × sv_V) := if l5 < l6 then (k135 l1 l3 V) else (if sx_in l3 100 = true then sx_let (sv_I V 156 l3.toNatClampNeg l4) (fun V3 => sx_let (l3 + 1) (fun x4 => sx_let (l6 + 1) (fun x5 => k212 l1 x4 l4 l5 x5 V3))) else none)
set_option maxRecDepth 20000 in
theorem tB_X12_simple_212 {g : sx_G} (hG : sx_Go g) {P : Option Value → sv_V → Prop} {r : Int32} {Vr : sv_V} (hP : P (some (.int r)) Vr) {N : Nat} {k135 : Int32 → Int32 → sv_V → Option (Int32 × sv_V)} {k212 : Int32 → Int32 → Int32 → Int32 → Int32 → sv_V → Option (Int32 × sv_V)} (hk135 : ∀ (l1 : Int32) (l3 : Int32) (V : sv_V), k135 l1 l3 V = some (r, Vr) → sv_N g qX12_simple 4 135 [(0, .ref 146), (1, .int l1), (3, .int l3)] [] V P) (hk212 : ∀ (l1 : Int32) (l3 : Int32) (l4 : Int32) (l5 : Int32) (l6 : Int32) (V : sv_V), k212 l1 l3 l4 l5 l6 V = some (r, Vr) → sv_N g qX12_simple 4 212 [(0, .ref 146), (1, .int l1), (3, .int l3), (4, .int l4), (5, .int l5), (6, .int l6)] [] V P) {l1 : Int32} {l3 : Int32} {l4 : Int32} {l5 : Int32} {l6 : Int32} {V : sv_V} (h : B_X12_simple_212 N k135 k212 l1 l3 l4 l5 l6 V = some (r, Vr)) : sv_N g qX12_simple 4 212 [(0, .ref 146), (1, .int l1), (3, .int l3), (4, .int l4), (5, .int l5), (6, .int l6)] [] V P := by
  unfold B_X12_simple_212 at h
  refine sx_iload (pc := 212) dX12_simple_212 sx_m5 ?_
  refine sx_iload (pc := 214) dX12_simple_214 sx_m4 ?_
  refine sx_icmp_gt (pc := 216) (tgt := 236) dX12_simple_216 (by decide) (fun c1 => ?_) (fun c1 => ?_)
  · have h := sx_pos c1 h
    refine sx_goto (pc := 236) (tgt := 135) dX12_simple_236 (by decide) ?_
    refine sx_wk (sx_s1 sx_m0 (sx_s1 sx_m1 (sx_s1 sx_m2 sx_s0))) ?_
    exact hk135 _ _ _ h
  · have h := sx_neg c1 h
    refine sx_aload_n (pc := 219) dX12_simple_219 sx_m0 ?_
    refine sv_getA (pc := 220) hG dX12_simple_220 f_12_39 lay_146 rfl cr_146_36 ?_
    refine sx_iload_n (pc := 223) dX12_simple_223 sx_m2 ?_
    refine sx_iload (pc := 224) dX12_simple_224 sx_m3 ?_
    obtain ⟨g2, h⟩ := sx_grd h
    obtain ⟨V3, hV3⟩ : ∃ z : sv_V, z = sv_I V 156 l3.toNatClampNeg l4 := ⟨_, rfl⟩
    have h := sx_letE hV3 h
    refine sv_iast (pc := 226) hG dX12_simple_226 lay_156 g2 hV3 ?_
    obtain ⟨x4, hx4⟩ : ∃ z : Int32, z = l3 + 1 := ⟨_, rfl⟩
    have h := sx_letE hx4 h
    refine sx_iinc (pc := 227) (v := x4) (lo' := [(3, .int x4), (0, .ref 146), (1, .int l1), (4, .int l4), (5, .int l5), (6, .int l6)]) dX12_simple_227 sx_m2 (by rw [hx4]; rfl) (by decide) rfl ?_
    obtain ⟨x5, hx5⟩ : ∃ z : Int32, z = l6 + 1 := ⟨_, rfl⟩
    have h := sx_letE hx5 h
    refine sx_iinc (pc := 230) (v := x5) (lo' := [(6, .int x5), (3, .int x4), (0, .ref 146), (1, .int l1), (4, .int l4), (5, .int l5)]) dX12_simple_230 sx_m5 (by rw [hx5]; rfl) (by decide) rfl ?_
    refine sx_goto (pc := 233) (tgt := 212) dX12_simple_233 (by decide) ?_
    refine sx_wk (sx_s1 sx_m2 (sx_s1 sx_m3 (sx_s1 sx_m1 (sx_s1 sx_m4 (sx_s1 sx_m5 (sx_s1 sx_m0 sx_s0)))))) ?_
    exact hk212 _ _ _ _ _ _ h
theorem tL_X12_simple_212 {g : sx_G} (hG : sx_Go g) {P : Option Value → sv_V → Prop} {r : Int32} {Vr : sv_V} (hP : P (some (.int r)) Vr) {N : Nat} {k135 : Int32 → Int32 → sv_V → Option (Int32 × sv_V)} (hk135 : ∀ (l1 : Int32) (l3 : Int32) (V : sv_V), k135 l1 l3 V = some (r, Vr) → sv_N g qX12_simple 4 135 [(0, .ref 146), (1, .int l1), (3, .int l3)] [] V P) : ∀ (n : Nat) (l1 : Int32) (l3 : Int32) (l4 : Int32) (l5 : Int32) (l6 : Int32) (V : sv_V), sx_lp6 (B_X12_simple_212 N k135) n l1 l3 l4 l5 l6 V = some (r, Vr) → sv_N g qX12_simple 4 212 [(0, .ref 146), (1, .int l1), (3, .int l3), (4, .int l4), (5, .int l5), (6, .int l6)] [] V P :=
  sx_lp6_ind (fun k0 ih _ _ _ _ _ V h => tB_X12_simple_212 hG hP hk135 ih h)
def B_X12_simple_194 (N : Nat) (k135 : Int32 → Int32 → sv_V → Option (Int32 × sv_V)) (l1 : Int32) (l3 : Int32) (l4 : Int32) (l5 : Int32) (V : sv_V) : Option (Int32 × sv_V) := if ((l3 + (1 : Int32)) + l5) ≤ (V.1 146 29) then (sx_lp6 (B_X12_simple_212 N k135) N l1 l3 l4 l5 (0 : Int32) V) else (some ((0 : Int32), V))
set_option maxRecDepth 20000 in
theorem tB_X12_simple_194 {g : sx_G} (hG : sx_Go g) {P : Option Value → sv_V → Prop} {r : Int32} {Vr : sv_V} (hP : P (some (.int r)) Vr) {N : Nat} {k135 : Int32 → Int32 → sv_V → Option (Int32 × sv_V)} (hk135 : ∀ (l1 : Int32) (l3 : Int32) (V : sv_V), k135 l1 l3 V = some (r, Vr) → sv_N g qX12_simple 4 135 [(0, .ref 146), (1, .int l1), (3, .int l3)] [] V P) {l1 : Int32} {l3 : Int32} {l4 : Int32} {l5 : Int32} {V : sv_V} (h : B_X12_simple_194 N k135 l1 l3 l4 l5 V = some (r, Vr)) : sv_N g qX12_simple 4 194 [(0, .ref 146), (1, .int l1), (3, .int l3), (4, .int l4), (5, .int l5)] [] V P := by
  unfold B_X12_simple_194 at h
  refine sx_iload_n (pc := 194) dX12_simple_194 sx_m2 ?_
  refine sx_iconst (pc := 195) (v := 1) dX12_simple_195 (by decide) ?_
  refine sx_iadd (pc := 196) dX12_simple_196 ?_
  refine sx_iload (pc := 197) dX12_simple_197 sx_m4 ?_
  refine sx_iadd (pc := 199) dX12_simple_199 ?_
  refine sx_aload_n (pc := 200) dX12_simple_200 sx_m0 ?_
  refine sv_getI (pc := 201) hG dX12_simple_201 f_12_351 lay_146 rfl ?_
  refine sx_icmp_le (pc := 204) (tgt := 209) dX12_simple_204 (by decide) (fun c6 => ?_) (fun c6 => ?_)
  · have h := sx_pos c6 h
    refine sx_iconst (pc := 209) (v := 0) dX12_simple_209 (by decide) ?_
    refine sx_istore (pc := 210) (lo' := [(6, .int (0 : Int32)), (0, .ref 146), (1, .int l1), (3, .int l3), (4, .int l4), (5, .int l5)]) dX12_simple_210 (by decide) rfl ?_
    refine sx_wk (sx_s1 sx_m1 (sx_s1 sx_m2 (sx_s1 sx_m3 (sx_s1 sx_m4 (sx_s1 sx_m5 (sx_s1 sx_m0 sx_s0)))))) ?_
    exact tL_X12_simple_212 hG hP hk135 N _ _ _ _ _ _ h
  · have h := sx_neg c6 h
    refine sx_iconst (pc := 207) (v := 0) dX12_simple_207 (by decide) ?_
    exact sv_zret (pc := 208) dX12_simple_208 rfl rfl h hP
def B_X12_simple_273 (N : Nat)  (s0 : Int32) (V : sv_V) : Option (Int32 × sv_V) := if s0 = (-1 : Int32) then (some ((0 : Int32), V)) else (some ((1 : Int32), V))
set_option maxRecDepth 20000 in
theorem tB_X12_simple_273 {g : sx_G} (hG : sx_Go g) {P : Option Value → sv_V → Prop} {r : Int32} {Vr : sv_V} (hP : P (some (.int r)) Vr) {N : Nat}   {s0 : Int32} {V : sv_V} (h : B_X12_simple_273 N  s0 V = some (r, Vr)) : sv_N g qX12_simple 4 273 [] [.int s0] V P := by
  unfold B_X12_simple_273 at h
  refine sx_istore_n (pc := 273) (lo' := [(1, .int s0)]) dX12_simple_273 (by decide) rfl ?_
  refine sx_iload_n (pc := 274) dX12_simple_274 sx_m0 ?_
  refine sx_iconst (pc := 275) (v := (-1)) dX12_simple_275 (by decide) ?_
  refine sx_icmp_eq (pc := 276) (tgt := 283) dX12_simple_276 (by decide) (fun c7 => ?_) (fun c7 => ?_)
  · have h := sx_pos c7 h
    refine sx_iconst (pc := 283) (v := 0) dX12_simple_283 (by decide) ?_
    exact sv_zret (pc := 284) dX12_simple_284 rfl rfl h hP
  · have h := sx_neg c7 h
    refine sx_iconst (pc := 279) (v := 1) dX12_simple_279 (by decide) ?_
    refine sx_goto (pc := 280) (tgt := 284) dX12_simple_280 (by decide) ?_
    exact sv_zret (pc := 284) dX12_simple_284 rfl rfl h hP
def B_X12_simple_135 (N : Nat) (k135 : Int32 → Int32 → sv_V → Option (Int32 × sv_V)) (l1 : Int32) (l3 : Int32) (V : sv_V) : Option (Int32 × sv_V) := if (V.1 146 29) ≤ l3 then ((F_X12_coordinates N l1 154 (2 : Int32) (16 : Int32) V).bind (fun (x11, V9) => if x11 = (-1 : Int32) then (B_X12_simple_273 N  (-1 : Int32) V9) else ((F_X12_coordinates N x11 155 (4 : Int32) (32 : Int32) V9).bind (fun (x15, V13) => B_X12_simple_273 N  x15 V13)))) else (if l1 < (V.1 146 27) then ((F_X12_u1 l1 V).bind (fun (x19, V17) => sx_let (l1 + 1) (fun x20 => if (x19 &&& (8 : Int32)) = 0 then (B_X12_simple_194 N k135 x20 l3 x19 (0 : Int32) V17) else (if x20 < (V17.1 146 27) then ((F_X12_u1 x20 V17).bind (fun (x25, V23) => sx_let (x20 + 1) (fun x26 => B_X12_simple_194 N k135 x26 l3 x19 x25 V23))) else (some ((0 : Int32), V17)))))) else (some ((0 : Int32), V)))
set_option maxRecDepth 20000 in
theorem tB_X12_simple_135 {g : sx_G} (hG : sx_Go g) {P : Option Value → sv_V → Prop} {r : Int32} {Vr : sv_V} (hP : P (some (.int r)) Vr) {N : Nat} {k135 : Int32 → Int32 → sv_V → Option (Int32 × sv_V)} (hk135 : ∀ (l1 : Int32) (l3 : Int32) (V : sv_V), k135 l1 l3 V = some (r, Vr) → sv_N g qX12_simple 4 135 [(0, .ref 146), (1, .int l1), (3, .int l3)] [] V P) {l1 : Int32} {l3 : Int32} {V : sv_V} (h : B_X12_simple_135 N k135 l1 l3 V = some (r, Vr)) : sv_N g qX12_simple 4 135 [(0, .ref 146), (1, .int l1), (3, .int l3)] [] V P := by
  unfold B_X12_simple_135 at h
  refine sx_iload_n (pc := 135) dX12_simple_135 sx_m2 ?_
  refine sx_aload_n (pc := 136) dX12_simple_136 sx_m0 ?_
  refine sv_getI (pc := 137) hG dX12_simple_137 f_12_351 lay_146 rfl ?_
  refine sx_icmp_ge (pc := 140) (tgt := 239) dX12_simple_140 (by decide) (fun c8 => ?_) (fun c8 => ?_)
  · have h := sx_pos c8 h
    refine sx_aload_n (pc := 239) dX12_simple_239 sx_m0 ?_
    refine sx_iload_n (pc := 240) dX12_simple_240 sx_m1 ?_
    refine sx_aload_n (pc := 241) dX12_simple_241 sx_m0 ?_
    refine sv_getA (pc := 242) hG dX12_simple_242 f_12_33 lay_146 rfl cr_146_34 ?_
    refine sx_iconst (pc := 245) (v := 2) dX12_simple_245 (by decide) ?_
    refine sx_bipush (pc := 246) (v := 16) dX12_simple_246 (by decide) ?_
    obtain ⟨⟨x11, V9⟩, g10, h⟩ := sx_bnd h
    refine sv_cV (pc := 248) (y := qX12_coordinates) (o := (some (.int x11))) (as := [.int l1, .ref 154, .int (2 : Int32), .int (16 : Int32)]) (V1 := V9) hG dX12_simple_248 l_X12_373 y0X12_coordinates yvX12_coordinates rfl (Nat.le_of_ble_eq_true rfl) lay_146 kr_12 (by decide) (Nat.le_of_ble_eq_true rfl) rfl rfl rfl (t_X12_coordinates hG ⟨rfl, rfl⟩ g10) ?_
    refine sx_istore_n (pc := 251) (lo' := [(1, .int x11), (0, .ref 146), (3, .int l3)]) dX12_simple_251 (by decide) rfl ?_
    refine sx_iload_n (pc := 252) dX12_simple_252 sx_m0 ?_
    refine sx_iconst (pc := 253) (v := (-1)) dX12_simple_253 (by decide) ?_
    refine sx_icmp_ne (pc := 254) (tgt := 261) dX12_simple_254 (by decide) (fun c12 => ?_) (fun c12 => ?_)
    · have h := sx_neg c12 h
      refine sx_aload_n (pc := 261) dX12_simple_261 sx_m1 ?_
      refine sx_iload_n (pc := 262) dX12_simple_262 sx_m0 ?_
      refine sx_aload_n (pc := 263) dX12_simple_263 sx_m1 ?_
      refine sv_getA (pc := 264) hG dX12_simple_264 f_12_36 lay_146 rfl cr_146_35 ?_
      refine sx_iconst (pc := 267) (v := 4) dX12_simple_267 (by decide) ?_
      refine sx_bipush (pc := 268) (v := 32) dX12_simple_268 (by decide) ?_
      obtain ⟨⟨x15, V13⟩, g14, h⟩ := sx_bnd h
      refine sv_cV (pc := 270) (y := qX12_coordinates) (o := (some (.int x15))) (as := [.int x11, .ref 155, .int (4 : Int32), .int (32 : Int32)]) (V1 := V13) hG dX12_simple_270 l_X12_373 y0X12_coordinates yvX12_coordinates rfl (Nat.le_of_ble_eq_true rfl) lay_146 kr_12 (by decide) (Nat.le_of_ble_eq_true rfl) rfl rfl rfl (t_X12_coordinates hG ⟨rfl, rfl⟩ g14) ?_
      refine sx_wk sx_s0 ?_
      exact tB_X12_simple_273 hG hP  h
    · have h := sx_pos c12 h
      refine sx_iconst (pc := 257) (v := (-1)) dX12_simple_257 (by decide) ?_
      refine sx_goto (pc := 258) (tgt := 273) dX12_simple_258 (by decide) ?_
      refine sx_wk sx_s0 ?_
      exact tB_X12_simple_273 hG hP  h
  · have h := sx_neg c8 h
    refine sx_iload_n (pc := 143) dX12_simple_143 sx_m1 ?_
    refine sx_aload_n (pc := 144) dX12_simple_144 sx_m0 ?_
    refine sv_getI (pc := 145) hG dX12_simple_145 f_12_345 lay_146 rfl ?_
    refine sx_icmp_lt (pc := 148) (tgt := 153) dX12_simple_148 (by decide) (fun c16 => ?_) (fun c16 => ?_)
    · have h := sx_pos c16 h
      refine sx_aload_n (pc := 153) dX12_simple_153 sx_m0 ?_
      refine sx_iload_n (pc := 154) dX12_simple_154 sx_m1 ?_
      obtain ⟨⟨x19, V17⟩, g18, h⟩ := sx_bnd h
      refine sv_cV (pc := 155) (y := qX12_u1) (o := (some (.int x19))) (as := [.int l1]) (V1 := V17) hG dX12_simple_155 l_X12_209 y0X12_u1 yvX12_u1 rfl (Nat.le_of_ble_eq_true rfl) lay_146 kr_12 (by decide) (Nat.le_of_ble_eq_true rfl) rfl rfl rfl (t_X12_u1 hG ⟨rfl, rfl⟩ g18) ?_
      refine sx_istore (pc := 158) (lo' := [(4, .int x19), (0, .ref 146), (1, .int l1), (3, .int l3)]) dX12_simple_158 (by decide) rfl ?_
      obtain ⟨x20, hx20⟩ : ∃ z : Int32, z = l1 + 1 := ⟨_, rfl⟩
      have h := sx_letE hx20 h
      refine sx_iinc (pc := 160) (v := x20) (lo' := [(1, .int x20), (4, .int x19), (0, .ref 146), (3, .int l3)]) dX12_simple_160 sx_m2 (by rw [hx20]; rfl) (by decide) rfl ?_
      refine sx_iconst (pc := 163) (v := 0) dX12_simple_163 (by decide) ?_
      refine sx_istore (pc := 164) (lo' := [(5, .int (0 : Int32)), (1, .int x20), (4, .int x19), (0, .ref 146), (3, .int l3)]) dX12_simple_164 (by decide) rfl ?_
      refine sx_iload (pc := 166) dX12_simple_166 sx_m2 ?_
      refine sx_bipush (pc := 168) (v := 8) dX12_simple_168 (by decide) ?_
      refine sx_iand (pc := 170) dX12_simple_170 ?_
      refine sx_if_eq (pc := 171) (tgt := 194) dX12_simple_171 (by decide) (fun c21 => ?_) (fun c21 => ?_)
      · have h := sx_pos c21 h
        refine sx_wk (sx_s1 sx_m3 (sx_s1 sx_m1 (sx_s1 sx_m4 (sx_s1 sx_m2 (sx_s1 sx_m0 sx_s0))))) ?_
        exact tB_X12_simple_194 hG hP hk135 h
      · have h := sx_neg c21 h
        refine sx_iload_n (pc := 174) dX12_simple_174 sx_m1 ?_
        refine sx_aload_n (pc := 175) dX12_simple_175 sx_m3 ?_
        refine sv_getI (pc := 176) hG dX12_simple_176 f_12_345 lay_146 rfl ?_
        refine sx_icmp_lt (pc := 179) (tgt := 184) dX12_simple_179 (by decide) (fun c22 => ?_) (fun c22 => ?_)
        · have h := sx_pos c22 h
          refine sx_aload_n (pc := 184) dX12_simple_184 sx_m3 ?_
          refine sx_iload_n (pc := 185) dX12_simple_185 sx_m1 ?_
          obtain ⟨⟨x25, V23⟩, g24, h⟩ := sx_bnd h
          refine sv_cV (pc := 186) (y := qX12_u1) (o := (some (.int x25))) (as := [.int x20]) (V1 := V23) hG dX12_simple_186 l_X12_209 y0X12_u1 yvX12_u1 rfl (Nat.le_of_ble_eq_true rfl) lay_146 kr_12 (by decide) (Nat.le_of_ble_eq_true rfl) rfl rfl rfl (t_X12_u1 hG ⟨rfl, rfl⟩ g24) ?_
          refine sx_istore (pc := 189) (lo' := [(5, .int x25), (1, .int x20), (4, .int x19), (0, .ref 146), (3, .int l3)]) dX12_simple_189 (by decide) rfl ?_
          obtain ⟨x26, hx26⟩ : ∃ z : Int32, z = x20 + 1 := ⟨_, rfl⟩
          have h := sx_letE hx26 h
          refine sx_iinc (pc := 191) (v := x26) (lo' := [(1, .int x26), (5, .int x25), (4, .int x19), (0, .ref 146), (3, .int l3)]) dX12_simple_191 sx_m1 (by rw [hx26]; rfl) (by decide) rfl ?_
          refine sx_wk (sx_s1 sx_m3 (sx_s1 sx_m0 (sx_s1 sx_m4 (sx_s1 sx_m2 (sx_s1 sx_m1 sx_s0))))) ?_
          exact tB_X12_simple_194 hG hP hk135 h
        · have h := sx_neg c22 h
          refine sx_iconst (pc := 182) (v := 0) dX12_simple_182 (by decide) ?_
          exact sv_zret (pc := 183) dX12_simple_183 rfl rfl h hP
    · have h := sx_neg c16 h
      refine sx_iconst (pc := 151) (v := 0) dX12_simple_151 (by decide) ?_
      exact sv_zret (pc := 152) dX12_simple_152 rfl rfl h hP
theorem tL_X12_simple_135 {g : sx_G} (hG : sx_Go g) {P : Option Value → sv_V → Prop} {r : Int32} {Vr : sv_V} (hP : P (some (.int r)) Vr) {N : Nat}   : ∀ (n : Nat) (l1 : Int32) (l3 : Int32) (V : sv_V), sx_lp3 (B_X12_simple_135 N ) n l1 l3 V = some (r, Vr) → sv_N g qX12_simple 4 135 [(0, .ref 146), (1, .int l1), (3, .int l3)] [] V P :=
  sx_lp3_ind (fun k0 ih _ _ V h => tB_X12_simple_135 hG hP ih h)
def B_X12_simple_31 (N : Nat) (k31 : Int32 → Int32 → Int32 → sv_V → Option (Int32 × sv_V)) (l1 : Int32) (l2 : Int32) (l3 : Int32) (V : sv_V) : Option (Int32 × sv_V) := if (V.1 146 28) ≤ l3 then (sx_let (sv_I V 146 29 (l2 + (1 : Int32))) (fun V28 => (F_X12_u2 l1 V28).bind (fun (x31, V29) => sx_let (sv_I V29 146 32 x31) (fun V32 => sx_let (sv_I V32 146 31 (l1 + (2 : Int32))) (fun V33 => sx_let (l1 + ((2 : Int32) + (V33.1 146 32))) (fun x34 => if (400 : Int32) < (V33.1 146 32) then (some ((0 : Int32), V33)) else (if x34 ≤ (V33.1 146 27) then (sx_lp3 (B_X12_simple_135 N ) N x34 (0 : Int32) V33) else (some ((0 : Int32), V33))))))))) else ((F_X12_u2 l1 V).bind (fun (x39, V37) => if x39 ≤ l2 then (some ((0 : Int32), V37)) else (if x39 < (100 : Int32) then (if sx_in l3 12 = true then sx_let (sv_I V37 153 l3.toNatClampNeg x39) (fun V43 => sx_let (l1 + 2) (fun x44 => sx_let (l3 + 1) (fun x45 => k31 x44 x39 x45 V43))) else none) else (some ((0 : Int32), V37)))))
set_option maxRecDepth 20000 in
theorem tB_X12_simple_31 {g : sx_G} (hG : sx_Go g) {P : Option Value → sv_V → Prop} {r : Int32} {Vr : sv_V} (hP : P (some (.int r)) Vr) {N : Nat} {k31 : Int32 → Int32 → Int32 → sv_V → Option (Int32 × sv_V)} (hk31 : ∀ (l1 : Int32) (l2 : Int32) (l3 : Int32) (V : sv_V), k31 l1 l2 l3 V = some (r, Vr) → sv_N g qX12_simple 4 31 [(0, .ref 146), (1, .int l1), (2, .int l2), (3, .int l3)] [] V P) {l1 : Int32} {l2 : Int32} {l3 : Int32} {V : sv_V} (h : B_X12_simple_31 N k31 l1 l2 l3 V = some (r, Vr)) : sv_N g qX12_simple 4 31 [(0, .ref 146), (1, .int l1), (2, .int l2), (3, .int l3)] [] V P := by
  unfold B_X12_simple_31 at h
  refine sx_iload_n (pc := 31) dX12_simple_31 sx_m3 ?_
  refine sx_aload_n (pc := 32) dX12_simple_32 sx_m0 ?_
  refine sv_getI (pc := 33) hG dX12_simple_33 f_12_348 lay_146 rfl ?_
  refine sx_icmp_ge (pc := 36) (tgt := 81) dX12_simple_36 (by decide) (fun c27 => ?_) (fun c27 => ?_)
  · have h := sx_pos c27 h
    refine sx_aload_n (pc := 81) dX12_simple_81 sx_m0 ?_
    refine sx_iload_n (pc := 82) dX12_simple_82 sx_m2 ?_
    refine sx_iconst (pc := 83) (v := 1) dX12_simple_83 (by decide) ?_
    refine sx_iadd (pc := 84) dX12_simple_84 ?_
    obtain ⟨V28, hV28⟩ : ∃ z : sv_V, z = sv_I V 146 29 (l2 + (1 : Int32)) := ⟨_, rfl⟩
    have h := sx_letE hV28 h
    refine sv_putI (pc := 85) hG dX12_simple_85 f_12_351 lay_146 rfl hV28 ?_
    refine sx_aload_n (pc := 88) dX12_simple_88 sx_m0 ?_
    refine sx_aload_n (pc := 89) dX12_simple_89 sx_m0 ?_
    refine sx_iload_n (pc := 90) dX12_simple_90 sx_m1 ?_
    obtain ⟨⟨x31, V29⟩, g30, h⟩ := sx_bnd h
    refine sv_cV (pc := 91) (y := qX12_u2) (o := (some (.int x31))) (as := [.int l1]) (V1 := V29) hG dX12_simple_91 l_X12_213 y0X12_u2 yvX12_u2 rfl (Nat.le_of_ble_eq_true rfl) lay_146 kr_12 (by decide) (Nat.le_of_ble_eq_true rfl) rfl rfl rfl (t_X12_u2 hG ⟨rfl, rfl⟩ g30) ?_
    obtain ⟨V32, hV32⟩ : ∃ z : sv_V, z = sv_I V29 146 32 x31 := ⟨_, rfl⟩
    have h := sx_letE hV32 h
    refine sv_putI (pc := 94) hG dX12_simple_94 f_12_360 lay_146 rfl hV32 ?_
    refine sx_aload_n (pc := 97) dX12_simple_97 sx_m0 ?_
    refine sx_iload_n (pc := 98) dX12_simple_98 sx_m1 ?_
    refine sx_iconst (pc := 99) (v := 2) dX12_simple_99 (by decide) ?_
    refine sx_iadd (pc := 100) dX12_simple_100 ?_
    obtain ⟨V33, hV33⟩ : ∃ z : sv_V, z = sv_I V32 146 31 (l1 + (2 : Int32)) := ⟨_, rfl⟩
    have h := sx_letE hV33 h
    refine sv_putI (pc := 101) hG dX12_simple_101 f_12_357 lay_146 rfl hV33 ?_
    refine sx_iload_n (pc := 104) dX12_simple_104 sx_m1 ?_
    refine sx_iconst (pc := 105) (v := 2) dX12_simple_105 (by decide) ?_
    refine sx_aload_n (pc := 106) dX12_simple_106 sx_m0 ?_
    refine sv_getI (pc := 107) hG dX12_simple_107 f_12_360 lay_146 rfl ?_
    refine sx_iadd (pc := 110) dX12_simple_110 ?_
    refine sx_iadd (pc := 111) dX12_simple_111 ?_
    refine sv_tI (fun x34 hx34 => ?_)
    have h := sx_letE hx34 h
    refine sx_istore_n (pc := 112) (lo' := [(1, .int x34), (0, .ref 146), (2, .int l2), (3, .int l3)]) dX12_simple_112 (by decide) rfl ?_
    refine sx_aload_n (pc := 113) dX12_simple_113 sx_m1 ?_
    refine sv_getI (pc := 114) hG dX12_simple_114 f_12_360 lay_146 rfl ?_
    refine sx_sipush (pc := 117) (v := 400) dX12_simple_117 (by decide) ?_
    refine sx_icmp_gt (pc := 120) (tgt := 131) dX12_simple_120 (by decide) (fun c35 => ?_) (fun c35 => ?_)
    · have h := sx_pos c35 h
      refine sx_iconst (pc := 131) (v := 0) dX12_simple_131 (by decide) ?_
      exact sv_zret (pc := 132) dX12_simple_132 rfl rfl h hP
    · have h := sx_neg c35 h
      refine sx_iload_n (pc := 123) dX12_simple_123 sx_m0 ?_
      refine sx_aload_n (pc := 124) dX12_simple_124 sx_m1 ?_
      refine sv_getI (pc := 125) hG dX12_simple_125 f_12_345 lay_146 rfl ?_
      refine sx_icmp_le (pc := 128) (tgt := 133) dX12_simple_128 (by decide) (fun c36 => ?_) (fun c36 => ?_)
      · have h := sx_pos c36 h
        refine sx_iconst (pc := 133) (v := 0) dX12_simple_133 (by decide) ?_
        refine sx_istore_n (pc := 134) (lo' := [(3, .int (0 : Int32)), (1, .int x34), (0, .ref 146), (2, .int l2)]) dX12_simple_134 (by decide) rfl ?_
        refine sx_wk (sx_s1 sx_m2 (sx_s1 sx_m1 (sx_s1 sx_m0 sx_s0))) ?_
        exact tL_X12_simple_135 hG hP  N _ _ _ h
      · have h := sx_neg c36 h
        refine sx_iconst (pc := 131) (v := 0) dX12_simple_131 (by decide) ?_
        exact sv_zret (pc := 132) dX12_simple_132 rfl rfl h hP
  · have h := sx_neg c27 h
    refine sx_aload_n (pc := 39) dX12_simple_39 sx_m0 ?_
    refine sx_iload_n (pc := 40) dX12_simple_40 sx_m1 ?_
    obtain ⟨⟨x39, V37⟩, g38, h⟩ := sx_bnd h
    refine sv_cV (pc := 41) (y := qX12_u2) (o := (some (.int x39))) (as := [.int l1]) (V1 := V37) hG dX12_simple_41 l_X12_213 y0X12_u2 yvX12_u2 rfl (Nat.le_of_ble_eq_true rfl) lay_146 kr_12 (by decide) (Nat.le_of_ble_eq_true rfl) rfl rfl rfl (t_X12_u2 hG ⟨rfl, rfl⟩ g38) ?_
    refine sx_istore (pc := 44) (lo' := [(4, .int x39), (0, .ref 146), (1, .int l1), (2, .int l2), (3, .int l3)]) dX12_simple_44 (by decide) rfl ?_
    refine sx_iload (pc := 46) dX12_simple_46 sx_m0 ?_
    refine sx_iload_n (pc := 48) dX12_simple_48 sx_m3 ?_
    refine sx_icmp_le (pc := 49) (tgt := 59) dX12_simple_49 (by decide) (fun c40 => ?_) (fun c40 => ?_)
    · have h := sx_pos c40 h
      refine sx_iconst (pc := 59) (v := 0) dX12_simple_59 (by decide) ?_
      exact sv_zret (pc := 60) dX12_simple_60 rfl rfl h hP
    · have h := sx_neg c40 h
      refine sx_iload (pc := 52) dX12_simple_52 sx_m0 ?_
      refine sx_bipush (pc := 54) (v := 100) dX12_simple_54 (by decide) ?_
      refine sx_icmp_lt (pc := 56) (tgt := 61) dX12_simple_56 (by decide) (fun c41 => ?_) (fun c41 => ?_)
      · have h := sx_pos c41 h
        refine sx_aload_n (pc := 61) dX12_simple_61 sx_m1 ?_
        refine sv_getA (pc := 62) hG dX12_simple_62 f_12_30 lay_146 rfl cr_146_33 ?_
        refine sx_iload_n (pc := 65) dX12_simple_65 sx_m4 ?_
        refine sx_iload (pc := 66) dX12_simple_66 sx_m0 ?_
        obtain ⟨g42, h⟩ := sx_grd h
        obtain ⟨V43, hV43⟩ : ∃ z : sv_V, z = sv_I V37 153 l3.toNatClampNeg x39 := ⟨_, rfl⟩
        have h := sx_letE hV43 h
        refine sv_iast (pc := 68) hG dX12_simple_68 lay_153 g42 hV43 ?_
        refine sx_iload (pc := 69) dX12_simple_69 sx_m0 ?_
        refine sx_istore_n (pc := 71) (lo' := [(2, .int x39), (4, .int x39), (0, .ref 146), (1, .int l1), (3, .int l3)]) dX12_simple_71 (by decide) rfl ?_
        obtain ⟨x44, hx44⟩ : ∃ z : Int32, z = l1 + 2 := ⟨_, rfl⟩
        have h := sx_letE hx44 h
        refine sx_iinc (pc := 72) (v := x44) (lo' := [(1, .int x44), (2, .int x39), (4, .int x39), (0, .ref 146), (3, .int l3)]) dX12_simple_72 sx_m3 (by rw [hx44]; rfl) (by decide) rfl ?_
        obtain ⟨x45, hx45⟩ : ∃ z : Int32, z = l3 + 1 := ⟨_, rfl⟩
        have h := sx_letE hx45 h
        refine sx_iinc (pc := 75) (v := x45) (lo' := [(3, .int x45), (1, .int x44), (2, .int x39), (4, .int x39), (0, .ref 146)]) dX12_simple_75 sx_m4 (by rw [hx45]; rfl) (by decide) rfl ?_
        refine sx_goto (pc := 78) (tgt := 31) dX12_simple_78 (by decide) ?_
        refine sx_wk (sx_s1 sx_m4 (sx_s1 sx_m1 (sx_s1 sx_m2 (sx_s1 sx_m0 sx_s0)))) ?_
        exact hk31 _ _ _ _ h
      · have h := sx_neg c41 h
        refine sx_iconst (pc := 59) (v := 0) dX12_simple_59 (by decide) ?_
        exact sv_zret (pc := 60) dX12_simple_60 rfl rfl h hP
theorem tL_X12_simple_31 {g : sx_G} (hG : sx_Go g) {P : Option Value → sv_V → Prop} {r : Int32} {Vr : sv_V} (hP : P (some (.int r)) Vr) {N : Nat}   : ∀ (n : Nat) (l1 : Int32) (l2 : Int32) (l3 : Int32) (V : sv_V), sx_lp4 (B_X12_simple_31 N ) n l1 l2 l3 V = some (r, Vr) → sv_N g qX12_simple 4 31 [(0, .ref 146), (1, .int l1), (2, .int l2), (3, .int l3)] [] V P :=
  sx_lp4_ind (fun k0 ih _ _ _ V h => tB_X12_simple_31 hG hP ih h)
def F_X12_simple (N : Nat)  (V : sv_V) : Option (Int32 × sv_V) := sx_let ((V.1 146 26) + (10 : Int32)) (fun x46 => if ((x46 + ((2 : Int32) * (V.1 146 28))) + (2 : Int32)) ≤ (V.1 146 27) then (sx_lp4 (B_X12_simple_31 N ) N x46 (-1 : Int32) (0 : Int32) V) else (some ((0 : Int32), V)))
set_option maxRecDepth 20000 in
theorem t_X12_simple {g : sx_G} (hG : sx_Go g) {P : Option Value → sv_V → Prop} {r : Int32} {Vr : sv_V} (hP : P (some (.int r)) Vr) {N : Nat}  {V : sv_V} (h : F_X12_simple N  V = some (r, Vr)) : sv_N g qX12_simple 4 0 [(0, .ref 146)] [] V P := by
  unfold F_X12_simple at h
  refine sx_aload_n (pc := 0) dX12_simple_0 sx_m0 ?_
  refine sv_getI (pc := 1) hG dX12_simple_1 f_12_342 lay_146 rfl ?_
  refine sx_bipush (pc := 4) (v := 10) dX12_simple_4 (by decide) ?_
  refine sx_iadd (pc := 6) dX12_simple_6 ?_
  refine sv_tI (fun x46 hx46 => ?_)
  have h := sx_letE hx46 h
  refine sx_istore_n (pc := 7) (lo' := [(1, .int x46), (0, .ref 146)]) dX12_simple_7 (by decide) rfl ?_
  refine sx_iload_n (pc := 8) dX12_simple_8 sx_m0 ?_
  refine sx_iconst (pc := 9) (v := 2) dX12_simple_9 (by decide) ?_
  refine sx_aload_n (pc := 10) dX12_simple_10 sx_m1 ?_
  refine sv_getI (pc := 11) hG dX12_simple_11 f_12_348 lay_146 rfl ?_
  refine sx_imul (pc := 14) dX12_simple_14 ?_
  refine sx_iadd (pc := 15) dX12_simple_15 ?_
  refine sx_iconst (pc := 16) (v := 2) dX12_simple_16 (by decide) ?_
  refine sx_iadd (pc := 17) dX12_simple_17 ?_
  refine sx_aload_n (pc := 18) dX12_simple_18 sx_m1 ?_
  refine sv_getI (pc := 19) hG dX12_simple_19 f_12_345 lay_146 rfl ?_
  refine sx_icmp_le (pc := 22) (tgt := 27) dX12_simple_22 (by decide) (fun c47 => ?_) (fun c47 => ?_)
  · have h := sx_pos c47 h
    refine sx_iconst (pc := 27) (v := (-1)) dX12_simple_27 (by decide) ?_
    refine sx_istore_n (pc := 28) (lo' := [(2, .int (-1 : Int32)), (1, .int x46), (0, .ref 146)]) dX12_simple_28 (by decide) rfl ?_
    refine sx_iconst (pc := 29) (v := 0) dX12_simple_29 (by decide) ?_
    refine sx_istore_n (pc := 30) (lo' := [(3, .int (0 : Int32)), (2, .int (-1 : Int32)), (1, .int x46), (0, .ref 146)]) dX12_simple_30 (by decide) rfl ?_
    refine sx_wk (sx_s1 sx_m3 (sx_s1 sx_m2 (sx_s1 sx_m1 (sx_s1 sx_m0 sx_s0)))) ?_
    exact tL_X12_simple_31 hG hP  N _ _ _ _ h
  · have h := sx_neg c47 h
    refine sx_iconst (pc := 25) (v := 0) dX12_simple_25 (by decide) ?_
    exact sv_zret (pc := 26) dX12_simple_26 rfl rfl h hP
theorem dX12_map_0 : decode cX12_map 0 = .ok (.aload_n 0, 1) := by decide +kernel
theorem dX12_map_1 : decode cX12_map 1 = .ok (.ldc 239, 2) := by decide +kernel
theorem dX12_map_3 : decode cX12_map 3 = .ok (.invokevirtual 251, 3) := by decide +kernel
theorem dX12_map_6 : decode cX12_map 6 = .ok (.istore_n 1, 1) := by decide +kernel
theorem dX12_map_7 : decode cX12_map 7 = .ok (.aload_n 0, 1) := by decide +kernel
theorem dX12_map_8 : decode cX12_map 8 = .ok (.ldc 239, 2) := by decide +kernel
theorem dX12_map_10 : decode cX12_map 10 = .ok (.invokevirtual 257, 3) := by decide +kernel
theorem dX12_map_13 : decode cX12_map 13 = .ok (.istore_n 2, 1) := by decide +kernel
theorem dX12_map_14 : decode cX12_map 14 = .ok (.iload_n 2, 1) := by decide +kernel
theorem dX12_map_15 : decode cX12_map 15 = .ok (.iconst 4, 1) := by decide +kernel
theorem dX12_map_16 : decode cX12_map 16 = .ok (.if_icmp .lt 13, 3) := by decide +kernel
theorem dX12_map_19 : decode cX12_map 19 = .ok (.aload_n 0, 1) := by decide +kernel
theorem dX12_map_20 : decode cX12_map 20 = .ok (.iload_n 1, 1) := by decide +kernel
theorem dX12_map_21 : decode cX12_map 21 = .ok (.iconst 2, 1) := by decide +kernel
theorem dX12_map_22 : decode cX12_map 22 = .ok (.iadd, 1) := by decide +kernel
theorem dX12_map_23 : decode cX12_map 23 = .ok (.invokevirtual 213, 3) := by decide +kernel
theorem dX12_map_26 : decode cX12_map 26 = .ok (.goto 4, 3) := by decide +kernel
theorem dX12_map_29 : decode cX12_map 29 = .ok (.iconst 0, 1) := by decide +kernel
theorem dX12_map_30 : decode cX12_map 30 = .ok (.istore_n 3, 1) := by decide +kernel
theorem dX12_map_31 : decode cX12_map 31 = .ok (.iload_n 2, 1) := by decide +kernel
theorem dX12_map_32 : decode cX12_map 32 = .ok (.iconst 4, 1) := by decide +kernel
theorem dX12_map_33 : decode cX12_map 33 = .ok (.if_icmp .lt 33, 3) := by decide +kernel
theorem dX12_map_36 : decode cX12_map 36 = .ok (.aload_n 0, 1) := by decide +kernel
theorem dX12_map_37 : decode cX12_map 37 = .ok (.iload_n 1, 1) := by decide +kernel
theorem dX12_map_38 : decode cX12_map 38 = .ok (.invokevirtual 213, 3) := by decide +kernel
theorem dX12_map_41 : decode cX12_map 41 = .ok (.ifCond .ne 25, 3) := by decide +kernel
theorem dX12_map_44 : decode cX12_map 44 = .ok (.iload_n 3, 1) := by decide +kernel
theorem dX12_map_45 : decode cX12_map 45 = .ok (.i2l, 1) := by decide +kernel
theorem dX12_map_46 : decode cX12_map 46 = .ok (.lconst 1, 1) := by decide +kernel
theorem dX12_map_47 : decode cX12_map 47 = .ok (.ldc2_w 380, 3) := by decide +kernel
theorem dX12_map_50 : decode cX12_map 50 = .ok (.invokestatic 263, 3) := by decide +kernel
theorem dX12_map_53 : decode cX12_map 53 = .ok (.ifCond .eq 13, 3) := by decide +kernel
theorem dX12_map_56 : decode cX12_map 56 = .ok (.iload_n 2, 1) := by decide +kernel
theorem dX12_map_57 : decode cX12_map 57 = .ok (.iconst 4, 1) := by decide +kernel
theorem dX12_map_58 : decode cX12_map 58 = .ok (.bipush 8, 2) := by decide +kernel
theorem dX12_map_60 : decode cX12_map 60 = .ok (.iload_n 3, 1) := by decide +kernel
theorem dX12_map_61 : decode cX12_map 61 = .ok (.imul, 1) := by decide +kernel
theorem dX12_map_62 : decode cX12_map 62 = .ok (.iadd, 1) := by decide +kernel
theorem dX12_map_63 : decode cX12_map 63 = .ok (.if_icmp .ge 5, 3) := by decide +kernel
theorem dX12_map_66 : decode cX12_map 66 = .ok (.iconst 0, 1) := by decide +kernel
theorem dX12_map_67 : decode cX12_map 67 = .ok (.ireturn, 1) := by decide +kernel
theorem dX12_map_68 : decode cX12_map 68 = .ok (.bipush 9, 2) := by decide +kernel
theorem dX12_map_70 : decode cX12_map 70 = .ok (.istore 4, 2) := by decide +kernel
theorem dX12_map_72 : decode cX12_map 72 = .ok (.lconst 0, 1) := by decide +kernel
theorem dX12_map_73 : decode cX12_map 73 = .ok (.lstore 5, 2) := by decide +kernel
theorem dX12_map_75 : decode cX12_map 75 = .ok (.iconst 0, 1) := by decide +kernel
theorem dX12_map_76 : decode cX12_map 76 = .ok (.istore 7, 2) := by decide +kernel
theorem dX12_map_78 : decode cX12_map 78 = .ok (.iload 7, 2) := by decide +kernel
theorem dX12_map_80 : decode cX12_map 80 = .ok (.iload_n 3, 1) := by decide +kernel
theorem dX12_map_81 : decode cX12_map 81 = .ok (.if_icmp .ge 111, 3) := by decide +kernel
theorem dX12_map_84 : decode cX12_map 84 = .ok (.iload_n 1, 1) := by decide +kernel
theorem dX12_map_85 : decode cX12_map 85 = .ok (.iconst 4, 1) := by decide +kernel
theorem dX12_map_86 : decode cX12_map 86 = .ok (.iadd, 1) := by decide +kernel
theorem dX12_map_87 : decode cX12_map 87 = .ok (.bipush 8, 2) := by decide +kernel
theorem dX12_map_89 : decode cX12_map 89 = .ok (.iload 7, 2) := by decide +kernel
theorem dX12_map_91 : decode cX12_map 91 = .ok (.imul, 1) := by decide +kernel
theorem dX12_map_92 : decode cX12_map 92 = .ok (.iadd, 1) := by decide +kernel
theorem dX12_map_93 : decode cX12_map 93 = .ok (.istore 8, 2) := by decide +kernel
theorem dX12_map_95 : decode cX12_map 95 = .ok (.aload_n 0, 1) := by decide +kernel
theorem dX12_map_96 : decode cX12_map 96 = .ok (.iload 8, 2) := by decide +kernel
theorem dX12_map_98 : decode cX12_map 98 = .ok (.invokevirtual 213, 3) := by decide +kernel
theorem dX12_map_101 : decode cX12_map 101 = .ok (.istore 9, 2) := by decide +kernel
theorem dX12_map_103 : decode cX12_map 103 = .ok (.aload_n 0, 1) := by decide +kernel
theorem dX12_map_104 : decode cX12_map 104 = .ok (.iload 8, 2) := by decide +kernel
theorem dX12_map_106 : decode cX12_map 106 = .ok (.iconst 2, 1) := by decide +kernel
theorem dX12_map_107 : decode cX12_map 107 = .ok (.iadd, 1) := by decide +kernel
theorem dX12_map_108 : decode cX12_map 108 = .ok (.invokevirtual 213, 3) := by decide +kernel
theorem dX12_map_111 : decode cX12_map 111 = .ok (.istore 10, 2) := by decide +kernel
theorem dX12_map_113 : decode cX12_map 113 = .ok (.iload 9, 2) := by decide +kernel
theorem dX12_map_115 : decode cX12_map 115 = .ok (.iconst 3, 1) := by decide +kernel
theorem dX12_map_116 : decode cX12_map 116 = .ok (.if_icmp .ne 14, 3) := by decide +kernel
theorem dX12_map_119 : decode cX12_map 119 = .ok (.iload 10, 2) := by decide +kernel
theorem dX12_map_121 : decode cX12_map 121 = .ok (.bipush 10, 2) := by decide +kernel
theorem dX12_map_123 : decode cX12_map 123 = .ok (.if_icmp .ne 7, 3) := by decide +kernel
theorem dX12_map_126 : decode cX12_map 126 = .ok (.iconst 0, 1) := by decide +kernel
theorem dX12_map_127 : decode cX12_map 127 = .ok (.goto 36, 3) := by decide +kernel
theorem dX12_map_130 : decode cX12_map 130 = .ok (.iload 9, 2) := by decide +kernel
theorem dX12_map_132 : decode cX12_map 132 = .ok (.iconst 3, 1) := by decide +kernel
theorem dX12_map_133 : decode cX12_map 133 = .ok (.if_icmp .ne 13, 3) := by decide +kernel
theorem dX12_map_136 : decode cX12_map 136 = .ok (.iload 10, 2) := by decide +kernel
theorem dX12_map_138 : decode cX12_map 138 = .ok (.iconst 1, 1) := by decide +kernel
theorem dX12_map_139 : decode cX12_map 139 = .ok (.if_icmp .ne 7, 3) := by decide +kernel
theorem dX12_map_142 : decode cX12_map 142 = .ok (.iconst 1, 1) := by decide +kernel
theorem dX12_map_143 : decode cX12_map 143 = .ok (.goto 20, 3) := by decide +kernel
theorem dX12_map_146 : decode cX12_map 146 = .ok (.iload 9, 2) := by decide +kernel
theorem dX12_map_148 : decode cX12_map 148 = .ok (.iconst 1, 1) := by decide +kernel
theorem dX12_map_149 : decode cX12_map 149 = .ok (.if_icmp .ne 12, 3) := by decide +kernel
theorem dX12_map_152 : decode cX12_map 152 = .ok (.iload 10, 2) := by decide +kernel
theorem dX12_map_154 : decode cX12_map 154 = .ok (.ifCond .ne 7, 3) := by decide +kernel
theorem dX12_map_157 : decode cX12_map 157 = .ok (.iconst 2, 1) := by decide +kernel
theorem dX12_map_158 : decode cX12_map 158 = .ok (.goto 5, 3) := by decide +kernel
theorem dX12_map_161 : decode cX12_map 161 = .ok (.bipush 9, 2) := by decide +kernel
theorem dX12_map_163 : decode cX12_map 163 = .ok (.istore 11, 2) := by decide +kernel
theorem dX12_map_165 : decode cX12_map 165 = .ok (.iload 11, 2) := by decide +kernel
theorem dX12_map_167 : decode cX12_map 167 = .ok (.iload 4, 2) := by decide +kernel
theorem dX12_map_169 : decode cX12_map 169 = .ok (.if_icmp .ge 17, 3) := by decide +kernel
theorem dX12_map_172 : decode cX12_map 172 = .ok (.iload 11, 2) := by decide +kernel
theorem dX12_map_174 : decode cX12_map 174 = .ok (.istore 4, 2) := by decide +kernel
theorem dX12_map_176 : decode cX12_map 176 = .ok (.aload_n 0, 1) := by decide +kernel
theorem dX12_map_177 : decode cX12_map 177 = .ok (.iload 8, 2) := by decide +kernel
theorem dX12_map_179 : decode cX12_map 179 = .ok (.iconst 4, 1) := by decide +kernel
theorem dX12_map_180 : decode cX12_map 180 = .ok (.iadd, 1) := by decide +kernel
theorem dX12_map_181 : decode cX12_map 181 = .ok (.invokevirtual 297, 3) := by decide +kernel
theorem dX12_map_184 : decode cX12_map 184 = .ok (.lstore 5, 2) := by decide +kernel
theorem dX12_map_186 : decode cX12_map 186 = .ok (.iinc 7 1, 3) := by decide +kernel
theorem dX12_map_189 : decode cX12_map 189 = .ok (.goto (-111), 3) := by decide +kernel
theorem dX12_map_192 : decode cX12_map 192 = .ok (.iload 4, 2) := by decide +kernel
theorem dX12_map_194 : decode cX12_map 194 = .ok (.bipush 9, 2) := by decide +kernel
theorem dX12_map_196 : decode cX12_map 196 = .ok (.if_icmp .eq 15, 3) := by decide +kernel
theorem dX12_map_199 : decode cX12_map 199 = .ok (.lload 5, 2) := by decide +kernel
theorem dX12_map_201 : decode cX12_map 201 = .ok (.ldc2_w 382, 3) := by decide +kernel
theorem dX12_map_204 : decode cX12_map 204 = .ok (.ladd, 1) := by decide +kernel
theorem dX12_map_205 : decode cX12_map 205 = .ok (.iload_n 2, 1) := by decide +kernel
theorem dX12_map_206 : decode cX12_map 206 = .ok (.i2l, 1) := by decide +kernel
theorem dX12_map_207 : decode cX12_map 207 = .ok (.lcmp, 1) := by decide +kernel
theorem dX12_map_208 : decode cX12_map 208 = .ok (.ifCond .le 5, 3) := by decide +kernel
theorem dX12_map_211 : decode cX12_map 211 = .ok (.iconst 0, 1) := by decide +kernel
theorem dX12_map_212 : decode cX12_map 212 = .ok (.ireturn, 1) := by decide +kernel
theorem dX12_map_213 : decode cX12_map 213 = .ok (.aload_n 0, 1) := by decide +kernel
theorem dX12_map_214 : decode cX12_map 214 = .ok (.iload_n 1, 1) := by decide +kernel
theorem dX12_map_215 : decode cX12_map 215 = .ok (.lload 5, 2) := by decide +kernel
theorem dX12_map_217 : decode cX12_map 217 = .ok (.l2i, 1) := by decide +kernel
theorem dX12_map_218 : decode cX12_map 218 = .ok (.iadd, 1) := by decide +kernel
theorem dX12_map_219 : decode cX12_map 219 = .ok (.putfield 384, 3) := by decide +kernel
theorem dX12_map_222 : decode cX12_map 222 = .ok (.aload_n 0, 1) := by decide +kernel
theorem dX12_map_223 : decode cX12_map 223 = .ok (.iload 4, 2) := by decide +kernel
theorem dX12_map_225 : decode cX12_map 225 = .ok (.ifCond .ne 8, 3) := by decide +kernel
theorem dX12_map_228 : decode cX12_map 228 = .ok (.bipush 12, 2) := by decide +kernel
theorem dX12_map_230 : decode cX12_map 230 = .ok (.goto 14, 3) := by decide +kernel
theorem dX12_map_233 : decode cX12_map 233 = .ok (.iload 4, 2) := by decide +kernel
theorem dX12_map_235 : decode cX12_map 235 = .ok (.iconst 1, 1) := by decide +kernel
theorem dX12_map_236 : decode cX12_map 236 = .ok (.if_icmp .ne 7, 3) := by decide +kernel
theorem dX12_map_239 : decode cX12_map 239 = .ok (.iconst 4, 1) := by decide +kernel
theorem dX12_map_240 : decode cX12_map 240 = .ok (.goto 4, 3) := by decide +kernel
theorem dX12_map_243 : decode cX12_map 243 = .ok (.iconst 0, 1) := by decide +kernel
theorem dX12_map_244 : decode cX12_map 244 = .ok (.putfield 387, 3) := by decide +kernel
theorem dX12_map_247 : decode cX12_map 247 = .ok (.iload_n 2, 1) := by decide +kernel
theorem dX12_map_248 : decode cX12_map 248 = .ok (.lload 5, 2) := by decide +kernel
theorem dX12_map_250 : decode cX12_map 250 = .ok (.l2i, 1) := by decide +kernel
theorem dX12_map_251 : decode cX12_map 251 = .ok (.isub, 1) := by decide +kernel
theorem dX12_map_252 : decode cX12_map 252 = .ok (.istore 7, 2) := by decide +kernel
theorem dX12_map_254 : decode cX12_map 254 = .ok (.aload_n 0, 1) := by decide +kernel
theorem dX12_map_255 : decode cX12_map 255 = .ok (.aload_n 0, 1) := by decide +kernel
theorem dX12_map_256 : decode cX12_map 256 = .ok (.getfield 384, 3) := by decide +kernel
theorem dX12_map_259 : decode cX12_map 259 = .ok (.invokevirtual 213, 3) := by decide +kernel
theorem dX12_map_262 : decode cX12_map 262 = .ok (.aload_n 0, 1) := by decide +kernel
theorem dX12_map_263 : decode cX12_map 263 = .ok (.getfield 387, 3) := by decide +kernel
theorem dX12_map_266 : decode cX12_map 266 = .ok (.if_icmp .eq 5, 3) := by decide +kernel
theorem dX12_map_269 : decode cX12_map 269 = .ok (.iconst 0, 1) := by decide +kernel
theorem dX12_map_270 : decode cX12_map 270 = .ok (.ireturn, 1) := by decide +kernel
theorem dX12_map_271 : decode cX12_map 271 = .ok (.aload_n 0, 1) := by decide +kernel
theorem dX12_map_272 : decode cX12_map 272 = .ok (.getfield 387, 3) := by decide +kernel
theorem dX12_map_275 : decode cX12_map 275 = .ok (.ifCond .ne 45, 3) := by decide +kernel
theorem dX12_map_278 : decode cX12_map 278 = .ok (.aload_n 0, 1) := by decide +kernel
theorem dX12_map_279 : decode cX12_map 279 = .ok (.aload_n 0, 1) := by decide +kernel
theorem dX12_map_280 : decode cX12_map 280 = .ok (.getfield 384, 3) := by decide +kernel
theorem dX12_map_283 : decode cX12_map 283 = .ok (.iconst 2, 1) := by decide +kernel
theorem dX12_map_284 : decode cX12_map 284 = .ok (.iadd, 1) := by decide +kernel
theorem dX12_map_285 : decode cX12_map 285 = .ok (.invokevirtual 213, 3) := by decide +kernel
theorem dX12_map_288 : decode cX12_map 288 = .ok (.sipush 262, 3) := by decide +kernel
theorem dX12_map_291 : decode cX12_map 291 = .ok (.if_icmp .ne 25, 3) := by decide +kernel
theorem dX12_map_294 : decode cX12_map 294 = .ok (.iload 7, 2) := by decide +kernel
theorem dX12_map_296 : decode cX12_map 296 = .ok (.sipush 262, 3) := by decide +kernel
theorem dX12_map_299 : decode cX12_map 299 = .ok (.if_icmp .lt 17, 3) := by decide +kernel
theorem dX12_map_302 : decode cX12_map 302 = .ok (.aload_n 0, 1) := by decide +kernel
theorem dX12_map_303 : decode cX12_map 303 = .ok (.sipush 256, 3) := by decide +kernel
theorem dX12_map_306 : decode cX12_map 306 = .ok (.invokevirtual 390, 3) := by decide +kernel
theorem dX12_map_309 : decode cX12_map 309 = .ok (.ifCond .eq 7, 3) := by decide +kernel
theorem dX12_map_312 : decode cX12_map 312 = .ok (.iconst 1, 1) := by decide +kernel
theorem dX12_map_313 : decode cX12_map 313 = .ok (.goto 30, 3) := by decide +kernel
theorem dX12_map_316 : decode cX12_map 316 = .ok (.iconst 0, 1) := by decide +kernel
theorem dX12_map_317 : decode cX12_map 317 = .ok (.goto 26, 3) := by decide +kernel
theorem dX12_map_320 : decode cX12_map 320 = .ok (.aload_n 0, 1) := by decide +kernel
theorem dX12_map_321 : decode cX12_map 321 = .ok (.getfield 387, 3) := by decide +kernel
theorem dX12_map_324 : decode cX12_map 324 = .ok (.iconst 4, 1) := by decide +kernel
theorem dX12_map_325 : decode cX12_map 325 = .ok (.if_icmp .ne 12, 3) := by decide +kernel
theorem dX12_map_328 : decode cX12_map 328 = .ok (.aload_n 0, 1) := by decide +kernel
theorem dX12_map_329 : decode cX12_map 329 = .ok (.iload 7, 2) := by decide +kernel
theorem dX12_map_331 : decode cX12_map 331 = .ok (.invokevirtual 393, 3) := by decide +kernel
theorem dX12_map_334 : decode cX12_map 334 = .ok (.goto 9, 3) := by decide +kernel
theorem dX12_map_337 : decode cX12_map 337 = .ok (.aload_n 0, 1) := by decide +kernel
theorem dX12_map_338 : decode cX12_map 338 = .ok (.iload 7, 2) := by decide +kernel
theorem dX12_map_340 : decode cX12_map 340 = .ok (.invokevirtual 396, 3) := by decide +kernel
theorem dX12_map_343 : decode cX12_map 343 = .ok (.ireturn, 1) := by decide +kernel
def B_X12_map_186 (N : Nat) (k78 : Int32 → Int32 → Int32 → Int32 → Int64 → Int32 → sv_V → Option (Int32 × sv_V)) (l1 : Int32) (l2 : Int32) (l3 : Int32) (l4 : Int32) (l5 : Int64) (l7 : Int32) (V : sv_V) : Option (Int32 × sv_V) := sx_let (l7 + 1) (fun x1 => k78 l1 l2 l3 l4 l5 x1 V)
set_option maxRecDepth 20000 in
theorem tB_X12_map_186 {g : sx_G} (hG : sx_Go g) {P : Option Value → sv_V → Prop} {r : Int32} {Vr : sv_V} (hP : P (some (.int r)) Vr) {N : Nat} {k78 : Int32 → Int32 → Int32 → Int32 → Int64 → Int32 → sv_V → Option (Int32 × sv_V)} (hk78 : ∀ (l1 : Int32) (l2 : Int32) (l3 : Int32) (l4 : Int32) (l5 : Int64) (l7 : Int32) (V : sv_V), k78 l1 l2 l3 l4 l5 l7 V = some (r, Vr) → sv_N g qX12_map 4 78 [(0, .ref 146), (1, .int l1), (2, .int l2), (3, .int l3), (4, .int l4), (5, .long l5), (7, .int l7)] [] V P) {l1 : Int32} {l2 : Int32} {l3 : Int32} {l4 : Int32} {l5 : Int64} {l7 : Int32} {V : sv_V} (h : B_X12_map_186 N k78 l1 l2 l3 l4 l5 l7 V = some (r, Vr)) : sv_N g qX12_map 4 186 [(0, .ref 146), (1, .int l1), (2, .int l2), (3, .int l3), (4, .int l4), (5, .long l5), (7, .int l7)] [] V P := by
  unfold B_X12_map_186 at h
  obtain ⟨x1, hx1⟩ : ∃ z : Int32, z = l7 + 1 := ⟨_, rfl⟩
  have h := sx_letE hx1 h
  refine sx_iinc (pc := 186) (v := x1) (lo' := [(7, .int x1), (0, .ref 146), (1, .int l1), (2, .int l2), (3, .int l3), (4, .int l4), (5, .long l5)]) dX12_map_186 sx_m6 (by rw [hx1]; rfl) (by decide) rfl ?_
  refine sx_goto (pc := 189) (tgt := 78) dX12_map_189 (by decide) ?_
  refine sx_wk (sx_s1 sx_m1 (sx_s1 sx_m2 (sx_s1 sx_m3 (sx_s1 sx_m4 (sx_s1 sx_m5 (sx_s1 sx_m6 (sx_s1 sx_m0 sx_s0))))))) ?_
  exact hk78 _ _ _ _ _ _ _ h
def B_X12_map_163 (N : Nat) (k78 : Int32 → Int32 → Int32 → Int32 → Int64 → Int32 → sv_V → Option (Int32 × sv_V)) (l1 : Int32) (l2 : Int32) (l3 : Int32) (l4 : Int32) (l5 : Int64) (l7 : Int32) (l8 : Int32) (s0 : Int32) (V : sv_V) : Option (Int32 × sv_V) := if l4 ≤ s0 then (B_X12_map_186 N k78 l1 l2 l3 l4 l5 l7 V) else ((F_X12_u4 (l8 + (4 : Int32)) V).bind (fun (x5, V3) => B_X12_map_186 N k78 l1 l2 l3 s0 x5 l7 V3))
set_option maxRecDepth 20000 in
theorem tB_X12_map_163 {g : sx_G} (hG : sx_Go g) {P : Option Value → sv_V → Prop} {r : Int32} {Vr : sv_V} (hP : P (some (.int r)) Vr) {N : Nat} {k78 : Int32 → Int32 → Int32 → Int32 → Int64 → Int32 → sv_V → Option (Int32 × sv_V)} (hk78 : ∀ (l1 : Int32) (l2 : Int32) (l3 : Int32) (l4 : Int32) (l5 : Int64) (l7 : Int32) (V : sv_V), k78 l1 l2 l3 l4 l5 l7 V = some (r, Vr) → sv_N g qX12_map 4 78 [(0, .ref 146), (1, .int l1), (2, .int l2), (3, .int l3), (4, .int l4), (5, .long l5), (7, .int l7)] [] V P) {l1 : Int32} {l2 : Int32} {l3 : Int32} {l4 : Int32} {l5 : Int64} {l7 : Int32} {l8 : Int32} {s0 : Int32} {V : sv_V} (h : B_X12_map_163 N k78 l1 l2 l3 l4 l5 l7 l8 s0 V = some (r, Vr)) : sv_N g qX12_map 4 163 [(0, .ref 146), (1, .int l1), (2, .int l2), (3, .int l3), (4, .int l4), (5, .long l5), (7, .int l7), (8, .int l8)] [.int s0] V P := by
  unfold B_X12_map_163 at h
  refine sx_istore (pc := 163) (lo' := [(11, .int s0), (0, .ref 146), (1, .int l1), (2, .int l2), (3, .int l3), (4, .int l4), (5, .long l5), (7, .int l7), (8, .int l8)]) dX12_map_163 (by decide) rfl ?_
  refine sx_iload (pc := 165) dX12_map_165 sx_m0 ?_
  refine sx_iload (pc := 167) dX12_map_167 sx_m5 ?_
  refine sx_icmp_ge (pc := 169) (tgt := 186) dX12_map_169 (by decide) (fun c2 => ?_) (fun c2 => ?_)
  · have h := sx_pos c2 h
    refine sx_wk (sx_s1 sx_m1 (sx_s1 sx_m2 (sx_s1 sx_m3 (sx_s1 sx_m4 (sx_s1 sx_m5 (sx_s1 sx_m6 (sx_s1 sx_m7 sx_s0))))))) ?_
    exact tB_X12_map_186 hG hP hk78 h
  · have h := sx_neg c2 h
    refine sx_iload (pc := 172) dX12_map_172 sx_m0 ?_
    refine sx_istore (pc := 174) (lo' := [(4, .int s0), (11, .int s0), (0, .ref 146), (1, .int l1), (2, .int l2), (3, .int l3), (5, .long l5), (7, .int l7), (8, .int l8)]) dX12_map_174 (by decide) rfl ?_
    refine sx_aload_n (pc := 176) dX12_map_176 sx_m2 ?_
    refine sx_iload (pc := 177) dX12_map_177 sx_m8 ?_
    refine sx_iconst (pc := 179) (v := 4) dX12_map_179 (by decide) ?_
    refine sx_iadd (pc := 180) dX12_map_180 ?_
    obtain ⟨⟨x5, V3⟩, g4, h⟩ := sx_bnd h
    refine sv_cV (pc := 181) (y := qX12_u4) (o := (some (.long x5))) (as := [.int (l8 + (4 : Int32))]) (V1 := V3) hG dX12_map_181 l_X12_297 y0X12_u4 yvX12_u4 rfl (Nat.le_of_ble_eq_true rfl) lay_146 kr_12 (by decide) (Nat.le_of_ble_eq_true rfl) rfl rfl rfl (t_X12_u4 hG ⟨rfl, rfl⟩ g4) ?_
    refine sx_lstore (pc := 184) (lo' := [(5, .long x5), (4, .int s0), (11, .int s0), (0, .ref 146), (1, .int l1), (2, .int l2), (3, .int l3), (7, .int l7), (8, .int l8)]) dX12_map_184 (by decide) rfl ?_
    refine sx_wk (sx_s1 sx_m3 (sx_s1 sx_m4 (sx_s1 sx_m5 (sx_s1 sx_m6 (sx_s1 sx_m1 (sx_s1 sx_m0 (sx_s1 sx_m7 sx_s0))))))) ?_
    exact tB_X12_map_186 hG hP hk78 h
def B_X12_map_161 (N : Nat) (k78 : Int32 → Int32 → Int32 → Int32 → Int64 → Int32 → sv_V → Option (Int32 × sv_V)) (l1 : Int32) (l2 : Int32) (l3 : Int32) (l4 : Int32) (l5 : Int64) (l7 : Int32) (l8 : Int32) (V : sv_V) : Option (Int32 × sv_V) := B_X12_map_163 N k78 l1 l2 l3 l4 l5 l7 l8 (9 : Int32) V
set_option maxRecDepth 20000 in
theorem tB_X12_map_161 {g : sx_G} (hG : sx_Go g) {P : Option Value → sv_V → Prop} {r : Int32} {Vr : sv_V} (hP : P (some (.int r)) Vr) {N : Nat} {k78 : Int32 → Int32 → Int32 → Int32 → Int64 → Int32 → sv_V → Option (Int32 × sv_V)} (hk78 : ∀ (l1 : Int32) (l2 : Int32) (l3 : Int32) (l4 : Int32) (l5 : Int64) (l7 : Int32) (V : sv_V), k78 l1 l2 l3 l4 l5 l7 V = some (r, Vr) → sv_N g qX12_map 4 78 [(0, .ref 146), (1, .int l1), (2, .int l2), (3, .int l3), (4, .int l4), (5, .long l5), (7, .int l7)] [] V P) {l1 : Int32} {l2 : Int32} {l3 : Int32} {l4 : Int32} {l5 : Int64} {l7 : Int32} {l8 : Int32} {V : sv_V} (h : B_X12_map_161 N k78 l1 l2 l3 l4 l5 l7 l8 V = some (r, Vr)) : sv_N g qX12_map 4 161 [(0, .ref 146), (1, .int l1), (2, .int l2), (3, .int l3), (4, .int l4), (5, .long l5), (7, .int l7), (8, .int l8)] [] V P := by
  unfold B_X12_map_161 at h
  refine sx_bipush (pc := 161) (v := 9) dX12_map_161 (by decide) ?_
  refine sx_wk (sx_s1 sx_m0 (sx_s1 sx_m1 (sx_s1 sx_m2 (sx_s1 sx_m3 (sx_s1 sx_m4 (sx_s1 sx_m5 (sx_s1 sx_m6 (sx_s1 sx_m7 sx_s0)))))))) ?_
  exact tB_X12_map_163 hG hP hk78 h
def B_X12_map_146 (N : Nat) (k78 : Int32 → Int32 → Int32 → Int32 → Int64 → Int32 → sv_V → Option (Int32 × sv_V)) (l1 : Int32) (l2 : Int32) (l3 : Int32) (l4 : Int32) (l5 : Int64) (l7 : Int32) (l8 : Int32) (l9 : Int32) (l10 : Int32) (V : sv_V) : Option (Int32 × sv_V) := if l9 = (1 : Int32) then (if l10 = 0 then (B_X12_map_163 N k78 l1 l2 l3 l4 l5 l7 l8 (2 : Int32) V) else (B_X12_map_161 N k78 l1 l2 l3 l4 l5 l7 l8 V)) else (B_X12_map_161 N k78 l1 l2 l3 l4 l5 l7 l8 V)
set_option maxRecDepth 20000 in
theorem tB_X12_map_146 {g : sx_G} (hG : sx_Go g) {P : Option Value → sv_V → Prop} {r : Int32} {Vr : sv_V} (hP : P (some (.int r)) Vr) {N : Nat} {k78 : Int32 → Int32 → Int32 → Int32 → Int64 → Int32 → sv_V → Option (Int32 × sv_V)} (hk78 : ∀ (l1 : Int32) (l2 : Int32) (l3 : Int32) (l4 : Int32) (l5 : Int64) (l7 : Int32) (V : sv_V), k78 l1 l2 l3 l4 l5 l7 V = some (r, Vr) → sv_N g qX12_map 4 78 [(0, .ref 146), (1, .int l1), (2, .int l2), (3, .int l3), (4, .int l4), (5, .long l5), (7, .int l7)] [] V P) {l1 : Int32} {l2 : Int32} {l3 : Int32} {l4 : Int32} {l5 : Int64} {l7 : Int32} {l8 : Int32} {l9 : Int32} {l10 : Int32} {V : sv_V} (h : B_X12_map_146 N k78 l1 l2 l3 l4 l5 l7 l8 l9 l10 V = some (r, Vr)) : sv_N g qX12_map 4 146 [(0, .ref 146), (1, .int l1), (2, .int l2), (3, .int l3), (4, .int l4), (5, .long l5), (7, .int l7), (8, .int l8), (9, .int l9), (10, .int l10)] [] V P := by
  unfold B_X12_map_146 at h
  refine sx_iload (pc := 146) dX12_map_146 sx_m8 ?_
  refine sx_iconst (pc := 148) (v := 1) dX12_map_148 (by decide) ?_
  refine sx_icmp_ne (pc := 149) (tgt := 161) dX12_map_149 (by decide) (fun c6 => ?_) (fun c6 => ?_)
  · have h := sx_neg c6 h
    refine sx_wk (sx_s1 sx_m0 (sx_s1 sx_m1 (sx_s1 sx_m2 (sx_s1 sx_m3 (sx_s1 sx_m4 (sx_s1 sx_m5 (sx_s1 sx_m6 (sx_s1 sx_m7 sx_s0)))))))) ?_
    exact tB_X12_map_161 hG hP hk78 h
  · have h := sx_pos c6 h
    refine sx_iload (pc := 152) dX12_map_152 sx_m9 ?_
    refine sx_if_ne (pc := 154) (tgt := 161) dX12_map_154 (by decide) (fun c7 => ?_) (fun c7 => ?_)
    · have h := sx_neg c7 h
      refine sx_wk (sx_s1 sx_m0 (sx_s1 sx_m1 (sx_s1 sx_m2 (sx_s1 sx_m3 (sx_s1 sx_m4 (sx_s1 sx_m5 (sx_s1 sx_m6 (sx_s1 sx_m7 sx_s0)))))))) ?_
      exact tB_X12_map_161 hG hP hk78 h
    · have h := sx_pos c7 h
      refine sx_iconst (pc := 157) (v := 2) dX12_map_157 (by decide) ?_
      refine sx_goto (pc := 158) (tgt := 163) dX12_map_158 (by decide) ?_
      refine sx_wk (sx_s1 sx_m0 (sx_s1 sx_m1 (sx_s1 sx_m2 (sx_s1 sx_m3 (sx_s1 sx_m4 (sx_s1 sx_m5 (sx_s1 sx_m6 (sx_s1 sx_m7 sx_s0)))))))) ?_
      exact tB_X12_map_163 hG hP hk78 h
def B_X12_map_130 (N : Nat) (k78 : Int32 → Int32 → Int32 → Int32 → Int64 → Int32 → sv_V → Option (Int32 × sv_V)) (l1 : Int32) (l2 : Int32) (l3 : Int32) (l4 : Int32) (l5 : Int64) (l7 : Int32) (l8 : Int32) (l9 : Int32) (l10 : Int32) (V : sv_V) : Option (Int32 × sv_V) := if l9 = (3 : Int32) then (if l10 = (1 : Int32) then (B_X12_map_163 N k78 l1 l2 l3 l4 l5 l7 l8 (1 : Int32) V) else (B_X12_map_146 N k78 l1 l2 l3 l4 l5 l7 l8 l9 l10 V)) else (B_X12_map_146 N k78 l1 l2 l3 l4 l5 l7 l8 l9 l10 V)
set_option maxRecDepth 20000 in
theorem tB_X12_map_130 {g : sx_G} (hG : sx_Go g) {P : Option Value → sv_V → Prop} {r : Int32} {Vr : sv_V} (hP : P (some (.int r)) Vr) {N : Nat} {k78 : Int32 → Int32 → Int32 → Int32 → Int64 → Int32 → sv_V → Option (Int32 × sv_V)} (hk78 : ∀ (l1 : Int32) (l2 : Int32) (l3 : Int32) (l4 : Int32) (l5 : Int64) (l7 : Int32) (V : sv_V), k78 l1 l2 l3 l4 l5 l7 V = some (r, Vr) → sv_N g qX12_map 4 78 [(0, .ref 146), (1, .int l1), (2, .int l2), (3, .int l3), (4, .int l4), (5, .long l5), (7, .int l7)] [] V P) {l1 : Int32} {l2 : Int32} {l3 : Int32} {l4 : Int32} {l5 : Int64} {l7 : Int32} {l8 : Int32} {l9 : Int32} {l10 : Int32} {V : sv_V} (h : B_X12_map_130 N k78 l1 l2 l3 l4 l5 l7 l8 l9 l10 V = some (r, Vr)) : sv_N g qX12_map 4 130 [(0, .ref 146), (1, .int l1), (2, .int l2), (3, .int l3), (4, .int l4), (5, .long l5), (7, .int l7), (8, .int l8), (9, .int l9), (10, .int l10)] [] V P := by
  unfold B_X12_map_130 at h
  refine sx_iload (pc := 130) dX12_map_130 sx_m8 ?_
  refine sx_iconst (pc := 132) (v := 3) dX12_map_132 (by decide) ?_
  refine sx_icmp_ne (pc := 133) (tgt := 146) dX12_map_133 (by decide) (fun c8 => ?_) (fun c8 => ?_)
  · have h := sx_neg c8 h
    refine sx_wk (sx_s1 sx_m0 (sx_s1 sx_m1 (sx_s1 sx_m2 (sx_s1 sx_m3 (sx_s1 sx_m4 (sx_s1 sx_m5 (sx_s1 sx_m6 (sx_s1 sx_m7 (sx_s1 sx_m8 (sx_s1 sx_m9 sx_s0)))))))))) ?_
    exact tB_X12_map_146 hG hP hk78 h
  · have h := sx_pos c8 h
    refine sx_iload (pc := 136) dX12_map_136 sx_m9 ?_
    refine sx_iconst (pc := 138) (v := 1) dX12_map_138 (by decide) ?_
    refine sx_icmp_ne (pc := 139) (tgt := 146) dX12_map_139 (by decide) (fun c9 => ?_) (fun c9 => ?_)
    · have h := sx_neg c9 h
      refine sx_wk (sx_s1 sx_m0 (sx_s1 sx_m1 (sx_s1 sx_m2 (sx_s1 sx_m3 (sx_s1 sx_m4 (sx_s1 sx_m5 (sx_s1 sx_m6 (sx_s1 sx_m7 (sx_s1 sx_m8 (sx_s1 sx_m9 sx_s0)))))))))) ?_
      exact tB_X12_map_146 hG hP hk78 h
    · have h := sx_pos c9 h
      refine sx_iconst (pc := 142) (v := 1) dX12_map_142 (by decide) ?_
      refine sx_goto (pc := 143) (tgt := 163) dX12_map_143 (by decide) ?_
      refine sx_wk (sx_s1 sx_m0 (sx_s1 sx_m1 (sx_s1 sx_m2 (sx_s1 sx_m3 (sx_s1 sx_m4 (sx_s1 sx_m5 (sx_s1 sx_m6 (sx_s1 sx_m7 sx_s0)))))))) ?_
      exact tB_X12_map_163 hG hP hk78 h
def B_X12_map_316 (N : Nat)   (V : sv_V) : Option (Int32 × sv_V) := some ((0 : Int32), V)
set_option maxRecDepth 20000 in
theorem tB_X12_map_316 {g : sx_G} (hG : sx_Go g) {P : Option Value → sv_V → Prop} {r : Int32} {Vr : sv_V} (hP : P (some (.int r)) Vr) {N : Nat}    {V : sv_V} (h : B_X12_map_316 N   V = some (r, Vr)) : sv_N g qX12_map 4 316 [] [] V P := by
  unfold B_X12_map_316 at h
  refine sx_iconst (pc := 316) (v := 0) dX12_map_316 (by decide) ?_
  refine sx_goto (pc := 317) (tgt := 343) dX12_map_317 (by decide) ?_
  exact sv_zret (pc := 343) dX12_map_343 rfl rfl h hP
def B_X12_map_244 (N : Nat)  (l2 : Int32) (l5 : Int64) (s1 : Int32) (V : sv_V) : Option (Int32 × sv_V) := sx_let (sv_I V 146 22 s1) (fun V10 => sx_let (l2 - l5.toInt32) (fun x11 => (F_X12_u2 (V10.1 146 21) V10).bind (fun (x14, V12) => if x14 = (V12.1 146 22) then (if (V12.1 146 22) = 0 then ((F_X12_u2 ((V12.1 146 21) + (2 : Int32)) V12).bind (fun (x28, V26) => if x28 = (262 : Int32) then (if x11 < (262 : Int32) then (B_X12_map_316 N   V26) else ((F_X12_setMany (256 : Int32) V26).bind (fun (x33, V31) => if x33 = 0 then (B_X12_map_316 N   V31) else (some ((1 : Int32), V31))))) else (B_X12_map_316 N   V26))) else (if (V12.1 146 22) = (4 : Int32) then ((F_X12_segments N x11 V12).bind (fun (x24, V22) => if sv_bl x24 = true then some (x24, V22) else none)) else ((F_X12_groups N x11 V12).bind (fun (x20, V18) => if sv_bl x20 = true then some (x20, V18) else none)))) else (some ((0 : Int32), V12)))))
set_option maxRecDepth 20000 in
theorem tB_X12_map_244 {g : sx_G} (hG : sx_Go g) {P : Option Value → sv_V → Prop} {r : Int32} {Vr : sv_V} (hP : P (some (.int r)) Vr) {N : Nat}   {l2 : Int32} {l5 : Int64} {s1 : Int32} {V : sv_V} (h : B_X12_map_244 N  l2 l5 s1 V = some (r, Vr)) : sv_N g qX12_map 4 244 [(0, .ref 146), (2, .int l2), (5, .long l5)] [.int s1, .ref 146] V P := by
  unfold B_X12_map_244 at h
  obtain ⟨V10, hV10⟩ : ∃ z : sv_V, z = sv_I V 146 22 s1 := ⟨_, rfl⟩
  have h := sx_letE hV10 h
  refine sv_putI (pc := 244) hG dX12_map_244 f_12_387 lay_146 rfl hV10 ?_
  refine sx_iload_n (pc := 247) dX12_map_247 sx_m1 ?_
  refine sx_lload (pc := 248) dX12_map_248 sx_m2 ?_
  refine sx_l2i (pc := 250) dX12_map_250 ?_
  refine sx_isub (pc := 251) dX12_map_251 ?_
  refine sv_tI (fun x11 hx11 => ?_)
  have h := sx_letE hx11 h
  refine sx_istore (pc := 252) (lo' := [(7, .int x11), (0, .ref 146), (2, .int l2), (5, .long l5)]) dX12_map_252 (by decide) rfl ?_
  refine sx_aload_n (pc := 254) dX12_map_254 sx_m1 ?_
  refine sx_aload_n (pc := 255) dX12_map_255 sx_m1 ?_
  refine sv_getI (pc := 256) hG dX12_map_256 f_12_384 lay_146 rfl ?_
  obtain ⟨⟨x14, V12⟩, g13, h⟩ := sx_bnd h
  refine sv_cV (pc := 259) (y := qX12_u2) (o := (some (.int x14))) (as := [.int (V10.1 146 21)]) (V1 := V12) hG dX12_map_259 l_X12_213 y0X12_u2 yvX12_u2 rfl (Nat.le_of_ble_eq_true rfl) lay_146 kr_12 (by decide) (Nat.le_of_ble_eq_true rfl) rfl rfl rfl (t_X12_u2 hG ⟨rfl, rfl⟩ g13) ?_
  refine sx_aload_n (pc := 262) dX12_map_262 sx_m1 ?_
  refine sv_getI (pc := 263) hG dX12_map_263 f_12_387 lay_146 rfl ?_
  refine sx_icmp_eq (pc := 266) (tgt := 271) dX12_map_266 (by decide) (fun c15 => ?_) (fun c15 => ?_)
  · have h := sx_pos c15 h
    refine sx_aload_n (pc := 271) dX12_map_271 sx_m1 ?_
    refine sv_getI (pc := 272) hG dX12_map_272 f_12_387 lay_146 rfl ?_
    refine sx_if_ne (pc := 275) (tgt := 320) dX12_map_275 (by decide) (fun c16 => ?_) (fun c16 => ?_)
    · have h := sx_neg c16 h
      refine sx_aload_n (pc := 320) dX12_map_320 sx_m1 ?_
      refine sv_getI (pc := 321) hG dX12_map_321 f_12_387 lay_146 rfl ?_
      refine sx_iconst (pc := 324) (v := 4) dX12_map_324 (by decide) ?_
      refine sx_icmp_ne (pc := 325) (tgt := 337) dX12_map_325 (by decide) (fun c17 => ?_) (fun c17 => ?_)
      · have h := sx_neg c17 h
        refine sx_aload_n (pc := 337) dX12_map_337 sx_m1 ?_
        refine sx_iload (pc := 338) dX12_map_338 sx_m0 ?_
        obtain ⟨⟨x20, V18⟩, g19, h⟩ := sx_bnd h
        refine sv_cV (pc := 340) (y := qX12_groups) (o := (some (.int x20))) (as := [.int x11]) (V1 := V18) hG dX12_map_340 l_X12_396 y0X12_groups yvX12_groups rfl (Nat.le_of_ble_eq_true rfl) lay_146 kr_12 (by decide) (Nat.le_of_ble_eq_true rfl) rfl rfl rfl (t_X12_groups hG ⟨rfl, rfl⟩ g19) ?_
        obtain ⟨g21, h⟩ := sx_grd h
        exact sv_zret (pc := 343) dX12_map_343 rfl g21 h hP
      · have h := sx_pos c17 h
        refine sx_aload_n (pc := 328) dX12_map_328 sx_m1 ?_
        refine sx_iload (pc := 329) dX12_map_329 sx_m0 ?_
        obtain ⟨⟨x24, V22⟩, g23, h⟩ := sx_bnd h
        refine sv_cV (pc := 331) (y := qX12_segments) (o := (some (.int x24))) (as := [.int x11]) (V1 := V22) hG dX12_map_331 l_X12_393 y0X12_segments yvX12_segments rfl (Nat.le_of_ble_eq_true rfl) lay_146 kr_12 (by decide) (Nat.le_of_ble_eq_true rfl) rfl rfl rfl (t_X12_segments hG ⟨rfl, rfl⟩ g23) ?_
        refine sx_goto (pc := 334) (tgt := 343) dX12_map_334 (by decide) ?_
        obtain ⟨g25, h⟩ := sx_grd h
        exact sv_zret (pc := 343) dX12_map_343 rfl g25 h hP
    · have h := sx_pos c16 h
      refine sx_aload_n (pc := 278) dX12_map_278 sx_m1 ?_
      refine sx_aload_n (pc := 279) dX12_map_279 sx_m1 ?_
      refine sv_getI (pc := 280) hG dX12_map_280 f_12_384 lay_146 rfl ?_
      refine sx_iconst (pc := 283) (v := 2) dX12_map_283 (by decide) ?_
      refine sx_iadd (pc := 284) dX12_map_284 ?_
      obtain ⟨⟨x28, V26⟩, g27, h⟩ := sx_bnd h
      refine sv_cV (pc := 285) (y := qX12_u2) (o := (some (.int x28))) (as := [.int ((V12.1 146 21) + (2 : Int32))]) (V1 := V26) hG dX12_map_285 l_X12_213 y0X12_u2 yvX12_u2 rfl (Nat.le_of_ble_eq_true rfl) lay_146 kr_12 (by decide) (Nat.le_of_ble_eq_true rfl) rfl rfl rfl (t_X12_u2 hG ⟨rfl, rfl⟩ g27) ?_
      refine sx_sipush (pc := 288) (v := 262) dX12_map_288 (by decide) ?_
      refine sx_icmp_ne (pc := 291) (tgt := 316) dX12_map_291 (by decide) (fun c29 => ?_) (fun c29 => ?_)
      · have h := sx_neg c29 h
        refine sx_wk sx_s0 ?_
        exact tB_X12_map_316 hG hP  h
      · have h := sx_pos c29 h
        refine sx_iload (pc := 294) dX12_map_294 sx_m0 ?_
        refine sx_sipush (pc := 296) (v := 262) dX12_map_296 (by decide) ?_
        refine sx_icmp_lt (pc := 299) (tgt := 316) dX12_map_299 (by decide) (fun c30 => ?_) (fun c30 => ?_)
        · have h := sx_pos c30 h
          refine sx_wk sx_s0 ?_
          exact tB_X12_map_316 hG hP  h
        · have h := sx_neg c30 h
          refine sx_aload_n (pc := 302) dX12_map_302 sx_m1 ?_
          refine sx_sipush (pc := 303) (v := 256) dX12_map_303 (by decide) ?_
          obtain ⟨⟨x33, V31⟩, g32, h⟩ := sx_bnd h
          refine sv_cV (pc := 306) (y := qX12_setMany) (o := (some (.int x33))) (as := [.int (256 : Int32)]) (V1 := V31) hG dX12_map_306 l_X12_390 y0X12_setMany yvX12_setMany rfl (Nat.le_of_ble_eq_true rfl) lay_146 kr_12 (by decide) (Nat.le_of_ble_eq_true rfl) rfl rfl rfl (t_X12_setMany hG ⟨rfl, rfl⟩ g32) ?_
          refine sx_if_eq (pc := 309) (tgt := 316) dX12_map_309 (by decide) (fun c34 => ?_) (fun c34 => ?_)
          · have h := sx_pos c34 h
            refine sx_wk sx_s0 ?_
            exact tB_X12_map_316 hG hP  h
          · have h := sx_neg c34 h
            refine sx_iconst (pc := 312) (v := 1) dX12_map_312 (by decide) ?_
            refine sx_goto (pc := 313) (tgt := 343) dX12_map_313 (by decide) ?_
            exact sv_zret (pc := 343) dX12_map_343 rfl rfl h hP
  · have h := sx_neg c15 h
    refine sx_iconst (pc := 269) (v := 0) dX12_map_269 (by decide) ?_
    exact sv_zret (pc := 270) dX12_map_270 rfl rfl h hP
def B_X12_map_78 (N : Nat) (k78 : Int32 → Int32 → Int32 → Int32 → Int64 → Int32 → sv_V → Option (Int32 × sv_V)) (l1 : Int32) (l2 : Int32) (l3 : Int32) (l4 : Int32) (l5 : Int64) (l7 : Int32) (V : sv_V) : Option (Int32 × sv_V) := if l3 ≤ l7 then (if l4 = (9 : Int32) then (some ((0 : Int32), V)) else (if (lg_cmp (l5 + (6 : Int64)) l2.toInt64) ≤ 0 then (sx_let (sv_I V 146 21 (l1 + l5.toInt32)) (fun V38 => if l4 = 0 then (B_X12_map_244 N  l2 l5 (12 : Int32) V38) else (if l4 = (1 : Int32) then (B_X12_map_244 N  l2 l5 (4 : Int32) V38) else (B_X12_map_244 N  l2 l5 (0 : Int32) V38)))) else (some ((0 : Int32), V)))) else (sx_let ((l1 + (4 : Int32)) + ((8 : Int32) * l7)) (fun x41 => (F_X12_u2 x41 V).bind (fun (x44, V42) => (F_X12_u2 (x41 + (2 : Int32)) V42).bind (fun (x47, V45) => if x44 = (3 : Int32) then (if x47 = (10 : Int32) then (B_X12_map_163 N k78 l1 l2 l3 l4 l5 l7 x41 (0 : Int32) V45) else (B_X12_map_130 N k78 l1 l2 l3 l4 l5 l7 x41 x44 x47 V45)) else (B_X12_map_130 N k78 l1 l2 l3 l4 l5 l7 x41 x44 x47 V45)))))
set_option maxRecDepth 20000 in
theorem tB_X12_map_78 {g : sx_G} (hG : sx_Go g) {P : Option Value → sv_V → Prop} {r : Int32} {Vr : sv_V} (hP : P (some (.int r)) Vr) {N : Nat} {k78 : Int32 → Int32 → Int32 → Int32 → Int64 → Int32 → sv_V → Option (Int32 × sv_V)} (hk78 : ∀ (l1 : Int32) (l2 : Int32) (l3 : Int32) (l4 : Int32) (l5 : Int64) (l7 : Int32) (V : sv_V), k78 l1 l2 l3 l4 l5 l7 V = some (r, Vr) → sv_N g qX12_map 4 78 [(0, .ref 146), (1, .int l1), (2, .int l2), (3, .int l3), (4, .int l4), (5, .long l5), (7, .int l7)] [] V P) {l1 : Int32} {l2 : Int32} {l3 : Int32} {l4 : Int32} {l5 : Int64} {l7 : Int32} {V : sv_V} (h : B_X12_map_78 N k78 l1 l2 l3 l4 l5 l7 V = some (r, Vr)) : sv_N g qX12_map 4 78 [(0, .ref 146), (1, .int l1), (2, .int l2), (3, .int l3), (4, .int l4), (5, .long l5), (7, .int l7)] [] V P := by
  unfold B_X12_map_78 at h
  refine sx_iload (pc := 78) dX12_map_78 sx_m6 ?_
  refine sx_iload_n (pc := 80) dX12_map_80 sx_m3 ?_
  refine sx_icmp_ge (pc := 81) (tgt := 192) dX12_map_81 (by decide) (fun c35 => ?_) (fun c35 => ?_)
  · have h := sx_pos c35 h
    refine sx_iload (pc := 192) dX12_map_192 sx_m4 ?_
    refine sx_bipush (pc := 194) (v := 9) dX12_map_194 (by decide) ?_
    refine sx_icmp_eq (pc := 196) (tgt := 211) dX12_map_196 (by decide) (fun c36 => ?_) (fun c36 => ?_)
    · have h := sx_pos c36 h
      refine sx_iconst (pc := 211) (v := 0) dX12_map_211 (by decide) ?_
      exact sv_zret (pc := 212) dX12_map_212 rfl rfl h hP
    · have h := sx_neg c36 h
      refine sx_lload (pc := 199) dX12_map_199 sx_m5 ?_
      refine sx_ldc2 (pc := 201) dX12_map_201 k_X12_382 ?_
      refine sx_ladd (pc := 204) dX12_map_204 ?_
      refine sx_iload_n (pc := 205) dX12_map_205 sx_m2 ?_
      refine sx_i2l (pc := 206) dX12_map_206 ?_
      refine sx_lcmp (pc := 207) dX12_map_207 ?_
      refine sx_if_le (pc := 208) (tgt := 213) dX12_map_208 (by decide) (fun c37 => ?_) (fun c37 => ?_)
      · have h := sx_pos c37 h
        refine sx_aload_n (pc := 213) dX12_map_213 sx_m0 ?_
        refine sx_iload_n (pc := 214) dX12_map_214 sx_m1 ?_
        refine sx_lload (pc := 215) dX12_map_215 sx_m5 ?_
        refine sx_l2i (pc := 217) dX12_map_217 ?_
        refine sx_iadd (pc := 218) dX12_map_218 ?_
        obtain ⟨V38, hV38⟩ : ∃ z : sv_V, z = sv_I V 146 21 (l1 + l5.toInt32) := ⟨_, rfl⟩
        have h := sx_letE hV38 h
        refine sv_putI (pc := 219) hG dX12_map_219 f_12_384 lay_146 rfl hV38 ?_
        refine sx_aload_n (pc := 222) dX12_map_222 sx_m0 ?_
        refine sx_iload (pc := 223) dX12_map_223 sx_m4 ?_
        refine sx_if_ne (pc := 225) (tgt := 233) dX12_map_225 (by decide) (fun c39 => ?_) (fun c39 => ?_)
        · have h := sx_neg c39 h
          refine sx_iload (pc := 233) dX12_map_233 sx_m4 ?_
          refine sx_iconst (pc := 235) (v := 1) dX12_map_235 (by decide) ?_
          refine sx_icmp_ne (pc := 236) (tgt := 243) dX12_map_236 (by decide) (fun c40 => ?_) (fun c40 => ?_)
          · have h := sx_neg c40 h
            refine sx_iconst (pc := 243) (v := 0) dX12_map_243 (by decide) ?_
            refine sx_wk (sx_s1 sx_m0 (sx_s1 sx_m2 (sx_s1 sx_m5 sx_s0))) ?_
            exact tB_X12_map_244 hG hP  h
          · have h := sx_pos c40 h
            refine sx_iconst (pc := 239) (v := 4) dX12_map_239 (by decide) ?_
            refine sx_goto (pc := 240) (tgt := 244) dX12_map_240 (by decide) ?_
            refine sx_wk (sx_s1 sx_m0 (sx_s1 sx_m2 (sx_s1 sx_m5 sx_s0))) ?_
            exact tB_X12_map_244 hG hP  h
        · have h := sx_pos c39 h
          refine sx_bipush (pc := 228) (v := 12) dX12_map_228 (by decide) ?_
          refine sx_goto (pc := 230) (tgt := 244) dX12_map_230 (by decide) ?_
          refine sx_wk (sx_s1 sx_m0 (sx_s1 sx_m2 (sx_s1 sx_m5 sx_s0))) ?_
          exact tB_X12_map_244 hG hP  h
      · have h := sx_neg c37 h
        refine sx_iconst (pc := 211) (v := 0) dX12_map_211 (by decide) ?_
        exact sv_zret (pc := 212) dX12_map_212 rfl rfl h hP
  · have h := sx_neg c35 h
    refine sx_iload_n (pc := 84) dX12_map_84 sx_m1 ?_
    refine sx_iconst (pc := 85) (v := 4) dX12_map_85 (by decide) ?_
    refine sx_iadd (pc := 86) dX12_map_86 ?_
    refine sx_bipush (pc := 87) (v := 8) dX12_map_87 (by decide) ?_
    refine sx_iload (pc := 89) dX12_map_89 sx_m6 ?_
    refine sx_imul (pc := 91) dX12_map_91 ?_
    refine sx_iadd (pc := 92) dX12_map_92 ?_
    refine sv_tI (fun x41 hx41 => ?_)
    have h := sx_letE hx41 h
    refine sx_istore (pc := 93) (lo' := [(8, .int x41), (0, .ref 146), (1, .int l1), (2, .int l2), (3, .int l3), (4, .int l4), (5, .long l5), (7, .int l7)]) dX12_map_93 (by decide) rfl ?_
    refine sx_aload_n (pc := 95) dX12_map_95 sx_m1 ?_
    refine sx_iload (pc := 96) dX12_map_96 sx_m0 ?_
    obtain ⟨⟨x44, V42⟩, g43, h⟩ := sx_bnd h
    refine sv_cV (pc := 98) (y := qX12_u2) (o := (some (.int x44))) (as := [.int x41]) (V1 := V42) hG dX12_map_98 l_X12_213 y0X12_u2 yvX12_u2 rfl (Nat.le_of_ble_eq_true rfl) lay_146 kr_12 (by decide) (Nat.le_of_ble_eq_true rfl) rfl rfl rfl (t_X12_u2 hG ⟨rfl, rfl⟩ g43) ?_
    refine sx_istore (pc := 101) (lo' := [(9, .int x44), (8, .int x41), (0, .ref 146), (1, .int l1), (2, .int l2), (3, .int l3), (4, .int l4), (5, .long l5), (7, .int l7)]) dX12_map_101 (by decide) rfl ?_
    refine sx_aload_n (pc := 103) dX12_map_103 sx_m2 ?_
    refine sx_iload (pc := 104) dX12_map_104 sx_m1 ?_
    refine sx_iconst (pc := 106) (v := 2) dX12_map_106 (by decide) ?_
    refine sx_iadd (pc := 107) dX12_map_107 ?_
    obtain ⟨⟨x47, V45⟩, g46, h⟩ := sx_bnd h
    refine sv_cV (pc := 108) (y := qX12_u2) (o := (some (.int x47))) (as := [.int (x41 + (2 : Int32))]) (V1 := V45) hG dX12_map_108 l_X12_213 y0X12_u2 yvX12_u2 rfl (Nat.le_of_ble_eq_true rfl) lay_146 kr_12 (by decide) (Nat.le_of_ble_eq_true rfl) rfl rfl rfl (t_X12_u2 hG ⟨rfl, rfl⟩ g46) ?_
    refine sx_istore (pc := 111) (lo' := [(10, .int x47), (9, .int x44), (8, .int x41), (0, .ref 146), (1, .int l1), (2, .int l2), (3, .int l3), (4, .int l4), (5, .long l5), (7, .int l7)]) dX12_map_111 (by decide) rfl ?_
    refine sx_iload (pc := 113) dX12_map_113 sx_m1 ?_
    refine sx_iconst (pc := 115) (v := 3) dX12_map_115 (by decide) ?_
    refine sx_icmp_ne (pc := 116) (tgt := 130) dX12_map_116 (by decide) (fun c48 => ?_) (fun c48 => ?_)
    · have h := sx_neg c48 h
      refine sx_wk (sx_s1 sx_m3 (sx_s1 sx_m4 (sx_s1 sx_m5 (sx_s1 sx_m6 (sx_s1 sx_m7 (sx_s1 sx_m8 (sx_s1 sx_m9 (sx_s1 sx_m2 (sx_s1 sx_m1 (sx_s1 sx_m0 sx_s0)))))))))) ?_
      exact tB_X12_map_130 hG hP hk78 h
    · have h := sx_pos c48 h
      refine sx_iload (pc := 119) dX12_map_119 sx_m0 ?_
      refine sx_bipush (pc := 121) (v := 10) dX12_map_121 (by decide) ?_
      refine sx_icmp_ne (pc := 123) (tgt := 130) dX12_map_123 (by decide) (fun c49 => ?_) (fun c49 => ?_)
      · have h := sx_neg c49 h
        refine sx_wk (sx_s1 sx_m3 (sx_s1 sx_m4 (sx_s1 sx_m5 (sx_s1 sx_m6 (sx_s1 sx_m7 (sx_s1 sx_m8 (sx_s1 sx_m9 (sx_s1 sx_m2 (sx_s1 sx_m1 (sx_s1 sx_m0 sx_s0)))))))))) ?_
        exact tB_X12_map_130 hG hP hk78 h
      · have h := sx_pos c49 h
        refine sx_iconst (pc := 126) (v := 0) dX12_map_126 (by decide) ?_
        refine sx_goto (pc := 127) (tgt := 163) dX12_map_127 (by decide) ?_
        refine sx_wk (sx_s1 sx_m3 (sx_s1 sx_m4 (sx_s1 sx_m5 (sx_s1 sx_m6 (sx_s1 sx_m7 (sx_s1 sx_m8 (sx_s1 sx_m9 (sx_s1 sx_m2 sx_s0)))))))) ?_
        exact tB_X12_map_163 hG hP hk78 h
theorem tL_X12_map_78 {g : sx_G} (hG : sx_Go g) {P : Option Value → sv_V → Prop} {r : Int32} {Vr : sv_V} (hP : P (some (.int r)) Vr) {N : Nat}   : ∀ (n : Nat) (l1 : Int32) (l2 : Int32) (l3 : Int32) (l4 : Int32) (l5 : Int64) (l7 : Int32) (V : sv_V), sx_lp7 (B_X12_map_78 N ) n l1 l2 l3 l4 l5 l7 V = some (r, Vr) → sv_N g qX12_map 4 78 [(0, .ref 146), (1, .int l1), (2, .int l2), (3, .int l3), (4, .int l4), (5, .long l5), (7, .int l7)] [] V P :=
  sx_lp7_ind (fun k0 ih _ _ _ _ _ _ V h => tB_X12_map_78 hG hP ih h)
def B_X12_map_30 (N : Nat)  (l1 : Int32) (l2 : Int32) (s0 : Int32) (V : sv_V) : Option (Int32 × sv_V) := if l2 < (4 : Int32) then (some ((0 : Int32), V)) else ((F_X12_u2 l1 V).bind (fun (x53, V51) => if x53 = 0 then ((F_X12_in s0.toInt64 (1 : Int64) (8 : Int64) V51).bind (fun (x57, V55) => if x57 = 0 then (some ((0 : Int32), V55)) else (if ((4 : Int32) + ((8 : Int32) * s0)) ≤ l2 then (sx_lp7 (B_X12_map_78 N ) N l1 l2 s0 (9 : Int32) (0 : Int64) (0 : Int32) V55) else (some ((0 : Int32), V55))))) else (some ((0 : Int32), V51))))
set_option maxRecDepth 20000 in
theorem tB_X12_map_30 {g : sx_G} (hG : sx_Go g) {P : Option Value → sv_V → Prop} {r : Int32} {Vr : sv_V} (hP : P (some (.int r)) Vr) {N : Nat}   {l1 : Int32} {l2 : Int32} {s0 : Int32} {V : sv_V} (h : B_X12_map_30 N  l1 l2 s0 V = some (r, Vr)) : sv_N g qX12_map 4 30 [(0, .ref 146), (1, .int l1), (2, .int l2)] [.int s0] V P := by
  unfold B_X12_map_30 at h
  refine sx_istore_n (pc := 30) (lo' := [(3, .int s0), (0, .ref 146), (1, .int l1), (2, .int l2)]) dX12_map_30 (by decide) rfl ?_
  refine sx_iload_n (pc := 31) dX12_map_31 sx_m3 ?_
  refine sx_iconst (pc := 32) (v := 4) dX12_map_32 (by decide) ?_
  refine sx_icmp_lt (pc := 33) (tgt := 66) dX12_map_33 (by decide) (fun c50 => ?_) (fun c50 => ?_)
  · have h := sx_pos c50 h
    refine sx_iconst (pc := 66) (v := 0) dX12_map_66 (by decide) ?_
    exact sv_zret (pc := 67) dX12_map_67 rfl rfl h hP
  · have h := sx_neg c50 h
    refine sx_aload_n (pc := 36) dX12_map_36 sx_m1 ?_
    refine sx_iload_n (pc := 37) dX12_map_37 sx_m2 ?_
    obtain ⟨⟨x53, V51⟩, g52, h⟩ := sx_bnd h
    refine sv_cV (pc := 38) (y := qX12_u2) (o := (some (.int x53))) (as := [.int l1]) (V1 := V51) hG dX12_map_38 l_X12_213 y0X12_u2 yvX12_u2 rfl (Nat.le_of_ble_eq_true rfl) lay_146 kr_12 (by decide) (Nat.le_of_ble_eq_true rfl) rfl rfl rfl (t_X12_u2 hG ⟨rfl, rfl⟩ g52) ?_
    refine sx_if_ne (pc := 41) (tgt := 66) dX12_map_41 (by decide) (fun c54 => ?_) (fun c54 => ?_)
    · have h := sx_neg c54 h
      refine sx_iconst (pc := 66) (v := 0) dX12_map_66 (by decide) ?_
      exact sv_zret (pc := 67) dX12_map_67 rfl rfl h hP
    · have h := sx_pos c54 h
      refine sx_iload_n (pc := 44) dX12_map_44 sx_m0 ?_
      refine sx_i2l (pc := 45) dX12_map_45 ?_
      refine sx_lconst (pc := 46) (v := 1) dX12_map_46 rfl ?_
      refine sx_ldc2 (pc := 47) dX12_map_47 k_X12_380 ?_
      obtain ⟨⟨x57, V55⟩, g56, h⟩ := sx_bnd h
      refine sv_cS (pc := 50) (y := qX12_in) (o := (some (.int x57))) (as := [.long s0.toInt64, .long (1 : Int64), .long (8 : Int64)]) (V1 := V55) dX12_map_50 l_X12_263 y0X12_in ysX12_in rfl (Nat.le_of_ble_eq_true rfl) (by decide) (Nat.le_of_ble_eq_true rfl) rfl rfl rfl (t_X12_in hG ⟨rfl, rfl⟩ g56) ?_
      refine sx_if_eq (pc := 53) (tgt := 66) dX12_map_53 (by decide) (fun c58 => ?_) (fun c58 => ?_)
      · have h := sx_pos c58 h
        refine sx_iconst (pc := 66) (v := 0) dX12_map_66 (by decide) ?_
        exact sv_zret (pc := 67) dX12_map_67 rfl rfl h hP
      · have h := sx_neg c58 h
        refine sx_iload_n (pc := 56) dX12_map_56 sx_m3 ?_
        refine sx_iconst (pc := 57) (v := 4) dX12_map_57 (by decide) ?_
        refine sx_bipush (pc := 58) (v := 8) dX12_map_58 (by decide) ?_
        refine sx_iload_n (pc := 60) dX12_map_60 sx_m0 ?_
        refine sx_imul (pc := 61) dX12_map_61 ?_
        refine sx_iadd (pc := 62) dX12_map_62 ?_
        refine sx_icmp_ge (pc := 63) (tgt := 68) dX12_map_63 (by decide) (fun c59 => ?_) (fun c59 => ?_)
        · have h := sx_pos c59 h
          refine sx_bipush (pc := 68) (v := 9) dX12_map_68 (by decide) ?_
          refine sx_istore (pc := 70) (lo' := [(4, .int (9 : Int32)), (3, .int s0), (0, .ref 146), (1, .int l1), (2, .int l2)]) dX12_map_70 (by decide) rfl ?_
          refine sx_lconst (pc := 72) (v := 0) dX12_map_72 rfl ?_
          refine sx_lstore (pc := 73) (lo' := [(5, .long (0 : Int64)), (4, .int (9 : Int32)), (3, .int s0), (0, .ref 146), (1, .int l1), (2, .int l2)]) dX12_map_73 (by decide) rfl ?_
          refine sx_iconst (pc := 75) (v := 0) dX12_map_75 (by decide) ?_
          refine sx_istore (pc := 76) (lo' := [(7, .int (0 : Int32)), (5, .long (0 : Int64)), (4, .int (9 : Int32)), (3, .int s0), (0, .ref 146), (1, .int l1), (2, .int l2)]) dX12_map_76 (by decide) rfl ?_
          refine sx_wk (sx_s1 sx_m4 (sx_s1 sx_m5 (sx_s1 sx_m6 (sx_s1 sx_m3 (sx_s1 sx_m2 (sx_s1 sx_m1 (sx_s1 sx_m0 sx_s0))))))) ?_
          exact tL_X12_map_78 hG hP  N _ _ _ _ _ _ _ h
        · have h := sx_neg c59 h
          refine sx_iconst (pc := 66) (v := 0) dX12_map_66 (by decide) ?_
          exact sv_zret (pc := 67) dX12_map_67 rfl rfl h hP
def F_X12_map (N : Nat)  (V : sv_V) : Option (Int32 × sv_V) := (F_X12_beginOf N (1668112752 : Int32) V).bind (fun (x62, V60) => (F_X12_lengthOf N (1668112752 : Int32) V60).bind (fun (x65, V63) => if x65 < (4 : Int32) then (B_X12_map_30 N  x62 x65 (0 : Int32) V63) else ((F_X12_u2 (x62 + (2 : Int32)) V63).bind (fun (x69, V67) => B_X12_map_30 N  x62 x65 x69 V67))))
set_option maxRecDepth 20000 in
theorem t_X12_map {g : sx_G} (hG : sx_Go g) {P : Option Value → sv_V → Prop} {r : Int32} {Vr : sv_V} (hP : P (some (.int r)) Vr) {N : Nat}  {V : sv_V} (h : F_X12_map N  V = some (r, Vr)) : sv_N g qX12_map 4 0 [(0, .ref 146)] [] V P := by
  unfold F_X12_map at h
  refine sx_aload_n (pc := 0) dX12_map_0 sx_m0 ?_
  refine sx_ldc (pc := 1) dX12_map_1 k_X12_239 ?_
  obtain ⟨⟨x62, V60⟩, g61, h⟩ := sx_bnd h
  refine sv_cV (pc := 3) (y := qX12_beginOf) (o := (some (.int x62))) (as := [.int (1668112752 : Int32)]) (V1 := V60) hG dX12_map_3 l_X12_251 y0X12_beginOf yvX12_beginOf rfl (Nat.le_of_ble_eq_true rfl) lay_146 kr_12 (by decide) (Nat.le_of_ble_eq_true rfl) rfl rfl rfl (t_X12_beginOf hG ⟨rfl, rfl⟩ g61) ?_
  refine sx_istore_n (pc := 6) (lo' := [(1, .int x62), (0, .ref 146)]) dX12_map_6 (by decide) rfl ?_
  refine sx_aload_n (pc := 7) dX12_map_7 sx_m1 ?_
  refine sx_ldc (pc := 8) dX12_map_8 k_X12_239 ?_
  obtain ⟨⟨x65, V63⟩, g64, h⟩ := sx_bnd h
  refine sv_cV (pc := 10) (y := qX12_lengthOf) (o := (some (.int x65))) (as := [.int (1668112752 : Int32)]) (V1 := V63) hG dX12_map_10 l_X12_257 y0X12_lengthOf yvX12_lengthOf rfl (Nat.le_of_ble_eq_true rfl) lay_146 kr_12 (by decide) (Nat.le_of_ble_eq_true rfl) rfl rfl rfl (t_X12_lengthOf hG ⟨rfl, rfl⟩ g64) ?_
  refine sx_istore_n (pc := 13) (lo' := [(2, .int x65), (1, .int x62), (0, .ref 146)]) dX12_map_13 (by decide) rfl ?_
  refine sx_iload_n (pc := 14) dX12_map_14 sx_m0 ?_
  refine sx_iconst (pc := 15) (v := 4) dX12_map_15 (by decide) ?_
  refine sx_icmp_lt (pc := 16) (tgt := 29) dX12_map_16 (by decide) (fun c66 => ?_) (fun c66 => ?_)
  · have h := sx_pos c66 h
    refine sx_iconst (pc := 29) (v := 0) dX12_map_29 (by decide) ?_
    refine sx_wk (sx_s1 sx_m2 (sx_s1 sx_m1 (sx_s1 sx_m0 sx_s0))) ?_
    exact tB_X12_map_30 hG hP  h
  · have h := sx_neg c66 h
    refine sx_aload_n (pc := 19) dX12_map_19 sx_m2 ?_
    refine sx_iload_n (pc := 20) dX12_map_20 sx_m1 ?_
    refine sx_iconst (pc := 21) (v := 2) dX12_map_21 (by decide) ?_
    refine sx_iadd (pc := 22) dX12_map_22 ?_
    obtain ⟨⟨x69, V67⟩, g68, h⟩ := sx_bnd h
    refine sv_cV (pc := 23) (y := qX12_u2) (o := (some (.int x69))) (as := [.int (x62 + (2 : Int32))]) (V1 := V67) hG dX12_map_23 l_X12_213 y0X12_u2 yvX12_u2 rfl (Nat.le_of_ble_eq_true rfl) lay_146 kr_12 (by decide) (Nat.le_of_ble_eq_true rfl) rfl rfl rfl (t_X12_u2 hG ⟨rfl, rfl⟩ g68) ?_
    refine sx_goto (pc := 26) (tgt := 30) dX12_map_26 (by decide) ?_
    refine sx_wk (sx_s1 sx_m2 (sx_s1 sx_m1 (sx_s1 sx_m0 sx_s0))) ?_
    exact tB_X12_map_30 hG hP  h
theorem dX12_settings_0 : decode cX12_settings 0 = .ok (.aload_n 0, 1) := by decide +kernel
theorem dX12_settings_1 : decode cX12_settings 1 = .ok (.sipush 16384, 3) := by decide +kernel
theorem dX12_settings_4 : decode cX12_settings 4 = .ok (.putfield 433, 3) := by decide +kernel
theorem dX12_settings_7 : decode cX12_settings 7 = .ok (.aload_n 0, 1) := by decide +kernel
theorem dX12_settings_8 : decode cX12_settings 8 = .ok (.iconst 0, 1) := by decide +kernel
theorem dX12_settings_9 : decode cX12_settings 9 = .ok (.putfield 436, 3) := by decide +kernel
theorem dX12_settings_12 : decode cX12_settings 12 = .ok (.aload_n 0, 1) := by decide +kernel
theorem dX12_settings_13 : decode cX12_settings 13 = .ok (.sipush 16384, 3) := by decide +kernel
theorem dX12_settings_16 : decode cX12_settings 16 = .ok (.putfield 439, 3) := by decide +kernel
theorem dX12_settings_19 : decode cX12_settings 19 = .ok (.aload_n 0, 1) := by decide +kernel
theorem dX12_settings_20 : decode cX12_settings 20 = .ok (.iconst 0, 1) := by decide +kernel
theorem dX12_settings_21 : decode cX12_settings 21 = .ok (.putfield 442, 3) := by decide +kernel
theorem dX12_settings_24 : decode cX12_settings 24 = .ok (.aload_n 0, 1) := by decide +kernel
theorem dX12_settings_25 : decode cX12_settings 25 = .ok (.sipush 16384, 3) := by decide +kernel
theorem dX12_settings_28 : decode cX12_settings 28 = .ok (.putfield 445, 3) := by decide +kernel
theorem dX12_settings_31 : decode cX12_settings 31 = .ok (.aload_n 0, 1) := by decide +kernel
theorem dX12_settings_32 : decode cX12_settings 32 = .ok (.iconst 0, 1) := by decide +kernel
theorem dX12_settings_33 : decode cX12_settings 33 = .ok (.putfield 448, 3) := by decide +kernel
theorem dX12_settings_36 : decode cX12_settings 36 = .ok (.aload_n 0, 1) := by decide +kernel
theorem dX12_settings_37 : decode cX12_settings 37 = .ok (.iconst 0, 1) := by decide +kernel
theorem dX12_settings_38 : decode cX12_settings 38 = .ok (.putfield 451, 3) := by decide +kernel
theorem dX12_settings_41 : decode cX12_settings 41 = .ok (.aload_n 0, 1) := by decide +kernel
theorem dX12_settings_42 : decode cX12_settings 42 = .ok (.iconst 0, 1) := by decide +kernel
theorem dX12_settings_43 : decode cX12_settings 43 = .ok (.putfield 454, 3) := by decide +kernel
theorem dX12_settings_46 : decode cX12_settings 46 = .ok (.aload_n 0, 1) := by decide +kernel
theorem dX12_settings_47 : decode cX12_settings 47 = .ok (.iconst 0, 1) := by decide +kernel
theorem dX12_settings_48 : decode cX12_settings 48 = .ok (.putfield 457, 3) := by decide +kernel
theorem dX12_settings_51 : decode cX12_settings 51 = .ok (.aload_n 0, 1) := by decide +kernel
theorem dX12_settings_52 : decode cX12_settings 52 = .ok (.iconst 1, 1) := by decide +kernel
theorem dX12_settings_53 : decode cX12_settings 53 = .ok (.putfield 460, 3) := by decide +kernel
theorem dX12_settings_56 : decode cX12_settings 56 = .ok (.aload_n 0, 1) := by decide +kernel
theorem dX12_settings_57 : decode cX12_settings 57 = .ok (.iconst 1, 1) := by decide +kernel
theorem dX12_settings_58 : decode cX12_settings 58 = .ok (.putfield 463, 3) := by decide +kernel
theorem dX12_settings_61 : decode cX12_settings 61 = .ok (.aload_n 0, 1) := by decide +kernel
theorem dX12_settings_62 : decode cX12_settings 62 = .ok (.iconst 1, 1) := by decide +kernel
theorem dX12_settings_63 : decode cX12_settings 63 = .ok (.putfield 466, 3) := by decide +kernel
theorem dX12_settings_66 : decode cX12_settings 66 = .ok (.aload_n 0, 1) := by decide +kernel
theorem dX12_settings_67 : decode cX12_settings 67 = .ok (.iconst 1, 1) := by decide +kernel
theorem dX12_settings_68 : decode cX12_settings 68 = .ok (.putfield 469, 3) := by decide +kernel
theorem dX12_settings_71 : decode cX12_settings 71 = .ok (.aload_n 0, 1) := by decide +kernel
theorem dX12_settings_72 : decode cX12_settings 72 = .ok (.bipush 24, 2) := by decide +kernel
theorem dX12_settings_74 : decode cX12_settings 74 = .ok (.bipush 64, 2) := by decide +kernel
theorem dX12_settings_76 : decode cX12_settings 76 = .ok (.iconst 0, 1) := by decide +kernel
theorem dX12_settings_77 : decode cX12_settings 77 = .ok (.bipush 32, 2) := by decide +kernel
theorem dX12_settings_79 : decode cX12_settings 79 = .ok (.invokevirtual 472, 3) := by decide +kernel
theorem dX12_settings_82 : decode cX12_settings 82 = .ok (.return_, 1) := by decide +kernel
def F_X12_settings  (V : sv_V) : Option sv_V := sx_let (sv_I V 146 63 (16384 : Int32)) (fun V1 => sx_let (sv_I V1 146 64 (0 : Int32)) (fun V2 => sx_let (sv_I V2 146 65 (16384 : Int32)) (fun V3 => sx_let (sv_I V3 146 66 (0 : Int32)) (fun V4 => sx_let (sv_I V4 146 67 (16384 : Int32)) (fun V5 => sx_let (sv_I V5 146 68 (0 : Int32)) (fun V6 => sx_let (sv_I V6 146 69 (0 : Int32)) (fun V7 => sx_let (sv_I V7 146 70 (0 : Int32)) (fun V8 => sx_let (sv_I V8 146 71 (0 : Int32)) (fun V9 => sx_let (sv_I V9 146 72 (1 : Int32)) (fun V10 => sx_let (sv_I V10 146 73 (1 : Int32)) (fun V11 => sx_let (sv_I V11 146 74 (1 : Int32)) (fun V12 => sx_let (sv_I V12 146 75 (1 : Int32)) (fun V13 => (F_X12_setRounding (24 : Int32) (64 : Int32) (0 : Int32) (32 : Int32) V13).bind (fun V14 => some V14))))))))))))))
set_option maxRecDepth 20000 in
theorem t_X12_settings {g : sx_G} (hG : sx_Go g) {P : Option Value → sv_V → Prop} {Vr : sv_V} (hP : P none Vr)  {V : sv_V} (h : F_X12_settings  V = some Vr) : sv_N g qX12_settings 1 0 [(0, .ref 146)] [] V P := by
  unfold F_X12_settings at h
  refine sx_aload_n (pc := 0) dX12_settings_0 sx_m0 ?_
  refine sx_sipush (pc := 1) (v := 16384) dX12_settings_1 (by decide) ?_
  obtain ⟨V1, hV1⟩ : ∃ z : sv_V, z = sv_I V 146 63 (16384 : Int32) := ⟨_, rfl⟩
  have h := sx_letE hV1 h
  refine sv_putI (pc := 4) hG dX12_settings_4 f_12_433 lay_146 rfl hV1 ?_
  refine sx_aload_n (pc := 7) dX12_settings_7 sx_m0 ?_
  refine sx_iconst (pc := 8) (v := 0) dX12_settings_8 (by decide) ?_
  obtain ⟨V2, hV2⟩ : ∃ z : sv_V, z = sv_I V1 146 64 (0 : Int32) := ⟨_, rfl⟩
  have h := sx_letE hV2 h
  refine sv_putI (pc := 9) hG dX12_settings_9 f_12_436 lay_146 rfl hV2 ?_
  refine sx_aload_n (pc := 12) dX12_settings_12 sx_m0 ?_
  refine sx_sipush (pc := 13) (v := 16384) dX12_settings_13 (by decide) ?_
  obtain ⟨V3, hV3⟩ : ∃ z : sv_V, z = sv_I V2 146 65 (16384 : Int32) := ⟨_, rfl⟩
  have h := sx_letE hV3 h
  refine sv_putI (pc := 16) hG dX12_settings_16 f_12_439 lay_146 rfl hV3 ?_
  refine sx_aload_n (pc := 19) dX12_settings_19 sx_m0 ?_
  refine sx_iconst (pc := 20) (v := 0) dX12_settings_20 (by decide) ?_
  obtain ⟨V4, hV4⟩ : ∃ z : sv_V, z = sv_I V3 146 66 (0 : Int32) := ⟨_, rfl⟩
  have h := sx_letE hV4 h
  refine sv_putI (pc := 21) hG dX12_settings_21 f_12_442 lay_146 rfl hV4 ?_
  refine sx_aload_n (pc := 24) dX12_settings_24 sx_m0 ?_
  refine sx_sipush (pc := 25) (v := 16384) dX12_settings_25 (by decide) ?_
  obtain ⟨V5, hV5⟩ : ∃ z : sv_V, z = sv_I V4 146 67 (16384 : Int32) := ⟨_, rfl⟩
  have h := sx_letE hV5 h
  refine sv_putI (pc := 28) hG dX12_settings_28 f_12_445 lay_146 rfl hV5 ?_
  refine sx_aload_n (pc := 31) dX12_settings_31 sx_m0 ?_
  refine sx_iconst (pc := 32) (v := 0) dX12_settings_32 (by decide) ?_
  obtain ⟨V6, hV6⟩ : ∃ z : sv_V, z = sv_I V5 146 68 (0 : Int32) := ⟨_, rfl⟩
  have h := sx_letE hV6 h
  refine sv_putI (pc := 33) hG dX12_settings_33 f_12_448 lay_146 rfl hV6 ?_
  refine sx_aload_n (pc := 36) dX12_settings_36 sx_m0 ?_
  refine sx_iconst (pc := 37) (v := 0) dX12_settings_37 (by decide) ?_
  obtain ⟨V7, hV7⟩ : ∃ z : sv_V, z = sv_I V6 146 69 (0 : Int32) := ⟨_, rfl⟩
  have h := sx_letE hV7 h
  refine sv_putI (pc := 38) hG dX12_settings_38 f_12_451 lay_146 rfl hV7 ?_
  refine sx_aload_n (pc := 41) dX12_settings_41 sx_m0 ?_
  refine sx_iconst (pc := 42) (v := 0) dX12_settings_42 (by decide) ?_
  obtain ⟨V8, hV8⟩ : ∃ z : sv_V, z = sv_I V7 146 70 (0 : Int32) := ⟨_, rfl⟩
  have h := sx_letE hV8 h
  refine sv_putI (pc := 43) hG dX12_settings_43 f_12_454 lay_146 rfl hV8 ?_
  refine sx_aload_n (pc := 46) dX12_settings_46 sx_m0 ?_
  refine sx_iconst (pc := 47) (v := 0) dX12_settings_47 (by decide) ?_
  obtain ⟨V9, hV9⟩ : ∃ z : sv_V, z = sv_I V8 146 71 (0 : Int32) := ⟨_, rfl⟩
  have h := sx_letE hV9 h
  refine sv_putI (pc := 48) hG dX12_settings_48 f_12_457 lay_146 rfl hV9 ?_
  refine sx_aload_n (pc := 51) dX12_settings_51 sx_m0 ?_
  refine sx_iconst (pc := 52) (v := 1) dX12_settings_52 (by decide) ?_
  obtain ⟨V10, hV10⟩ : ∃ z : sv_V, z = sv_I V9 146 72 (1 : Int32) := ⟨_, rfl⟩
  have h := sx_letE hV10 h
  refine sv_putI (pc := 53) hG dX12_settings_53 f_12_460 lay_146 rfl hV10 ?_
  refine sx_aload_n (pc := 56) dX12_settings_56 sx_m0 ?_
  refine sx_iconst (pc := 57) (v := 1) dX12_settings_57 (by decide) ?_
  obtain ⟨V11, hV11⟩ : ∃ z : sv_V, z = sv_I V10 146 73 (1 : Int32) := ⟨_, rfl⟩
  have h := sx_letE hV11 h
  refine sv_putI (pc := 58) hG dX12_settings_58 f_12_463 lay_146 rfl hV11 ?_
  refine sx_aload_n (pc := 61) dX12_settings_61 sx_m0 ?_
  refine sx_iconst (pc := 62) (v := 1) dX12_settings_62 (by decide) ?_
  obtain ⟨V12, hV12⟩ : ∃ z : sv_V, z = sv_I V11 146 74 (1 : Int32) := ⟨_, rfl⟩
  have h := sx_letE hV12 h
  refine sv_putI (pc := 63) hG dX12_settings_63 f_12_466 lay_146 rfl hV12 ?_
  refine sx_aload_n (pc := 66) dX12_settings_66 sx_m0 ?_
  refine sx_iconst (pc := 67) (v := 1) dX12_settings_67 (by decide) ?_
  obtain ⟨V13, hV13⟩ : ∃ z : sv_V, z = sv_I V12 146 75 (1 : Int32) := ⟨_, rfl⟩
  have h := sx_letE hV13 h
  refine sv_putI (pc := 68) hG dX12_settings_68 f_12_469 lay_146 rfl hV13 ?_
  refine sx_aload_n (pc := 71) dX12_settings_71 sx_m0 ?_
  refine sx_bipush (pc := 72) (v := 24) dX12_settings_72 (by decide) ?_
  refine sx_bipush (pc := 74) (v := 64) dX12_settings_74 (by decide) ?_
  refine sx_iconst (pc := 76) (v := 0) dX12_settings_76 (by decide) ?_
  refine sx_bipush (pc := 77) (v := 32) dX12_settings_77 (by decide) ?_
  obtain ⟨V14, g15, h⟩ := sx_bnd h
  refine sv_cV (pc := 79) (y := qX12_setRounding) (o := none) (as := [.int (24 : Int32), .int (64 : Int32), .int (0 : Int32), .int (32 : Int32)]) (V1 := V14) hG dX12_settings_79 l_X12_472 y0X12_setRounding yvX12_setRounding rfl (Nat.le_of_ble_eq_true rfl) lay_146 kr_12 (by decide) (Nat.le_of_ble_eq_true rfl) rfl rfl rfl (t_X12_setRounding hG ⟨rfl, rfl⟩ g15) ?_
  exact sv_vret (pc := 82) dX12_settings_82 rfl h hP
theorem dX12_rounded_0 : decode cX12_rounded 0 = .ok (.aload_n 0, 1) := by decide +kernel
theorem dX12_rounded_1 : decode cX12_rounded 1 = .ok (.getfield 476, 3) := by decide +kernel
theorem dX12_rounded_4 : decode cX12_rounded 4 = .ok (.bipush 122, 2) := by decide +kernel
theorem dX12_rounded_6 : decode cX12_rounded 6 = .ok (.if_icmp .ne 5, 3) := by decide +kernel
theorem dX12_rounded_9 : decode cX12_rounded 9 = .ok (.lload_n 1, 1) := by decide +kernel
theorem dX12_rounded_10 : decode cX12_rounded 10 = .ok (.lreturn, 1) := by decide +kernel
theorem dX12_rounded_11 : decode cX12_rounded 11 = .ok (.lload_n 1, 1) := by decide +kernel
theorem dX12_rounded_12 : decode cX12_rounded 12 = .ok (.lconst 0, 1) := by decide +kernel
theorem dX12_rounded_13 : decode cX12_rounded 13 = .ok (.lcmp, 1) := by decide +kernel
theorem dX12_rounded_14 : decode cX12_rounded 14 = .ok (.ifCond .ge 8, 3) := by decide +kernel
theorem dX12_rounded_17 : decode cX12_rounded 17 = .ok (.lload_n 1, 1) := by decide +kernel
theorem dX12_rounded_18 : decode cX12_rounded 18 = .ok (.lneg, 1) := by decide +kernel
theorem dX12_rounded_19 : decode cX12_rounded 19 = .ok (.goto 4, 3) := by decide +kernel
theorem dX12_rounded_22 : decode cX12_rounded 22 = .ok (.lload_n 1, 1) := by decide +kernel
theorem dX12_rounded_23 : decode cX12_rounded 23 = .ok (.lstore_n 3, 1) := by decide +kernel
theorem dX12_rounded_24 : decode cX12_rounded 24 = .ok (.lload_n 3, 1) := by decide +kernel
theorem dX12_rounded_25 : decode cX12_rounded 25 = .ok (.aload_n 0, 1) := by decide +kernel
theorem dX12_rounded_26 : decode cX12_rounded 26 = .ok (.getfield 482, 3) := by decide +kernel
theorem dX12_rounded_29 : decode cX12_rounded 29 = .ok (.i2l, 1) := by decide +kernel
theorem dX12_rounded_30 : decode cX12_rounded 30 = .ok (.lsub, 1) := by decide +kernel
theorem dX12_rounded_31 : decode cX12_rounded 31 = .ok (.aload_n 0, 1) := by decide +kernel
theorem dX12_rounded_32 : decode cX12_rounded 32 = .ok (.getfield 485, 3) := by decide +kernel
theorem dX12_rounded_35 : decode cX12_rounded 35 = .ok (.i2l, 1) := by decide +kernel
theorem dX12_rounded_36 : decode cX12_rounded 36 = .ok (.ladd, 1) := by decide +kernel
theorem dX12_rounded_37 : decode cX12_rounded 37 = .ok (.aload_n 0, 1) := by decide +kernel
theorem dX12_rounded_38 : decode cX12_rounded 38 = .ok (.getfield 479, 3) := by decide +kernel
theorem dX12_rounded_41 : decode cX12_rounded 41 = .ok (.i2l, 1) := by decide +kernel
theorem dX12_rounded_42 : decode cX12_rounded 42 = .ok (.invokestatic 488, 3) := by decide +kernel
theorem dX12_rounded_45 : decode cX12_rounded 45 = .ok (.aload_n 0, 1) := by decide +kernel
theorem dX12_rounded_46 : decode cX12_rounded 46 = .ok (.getfield 479, 3) := by decide +kernel
theorem dX12_rounded_49 : decode cX12_rounded 49 = .ok (.i2l, 1) := by decide +kernel
theorem dX12_rounded_50 : decode cX12_rounded 50 = .ok (.lmul, 1) := by decide +kernel
theorem dX12_rounded_51 : decode cX12_rounded 51 = .ok (.aload_n 0, 1) := by decide +kernel
theorem dX12_rounded_52 : decode cX12_rounded 52 = .ok (.getfield 482, 3) := by decide +kernel
theorem dX12_rounded_55 : decode cX12_rounded 55 = .ok (.i2l, 1) := by decide +kernel
theorem dX12_rounded_56 : decode cX12_rounded 56 = .ok (.ladd, 1) := by decide +kernel
theorem dX12_rounded_57 : decode cX12_rounded 57 = .ok (.lstore 5, 2) := by decide +kernel
theorem dX12_rounded_59 : decode cX12_rounded 59 = .ok (.lload 5, 2) := by decide +kernel
theorem dX12_rounded_61 : decode cX12_rounded 61 = .ok (.lconst 0, 1) := by decide +kernel
theorem dX12_rounded_62 : decode cX12_rounded 62 = .ok (.lcmp, 1) := by decide +kernel
theorem dX12_rounded_63 : decode cX12_rounded 63 = .ok (.ifCond .ge 11, 3) := by decide +kernel
theorem dX12_rounded_66 : decode cX12_rounded 66 = .ok (.aload_n 0, 1) := by decide +kernel
theorem dX12_rounded_67 : decode cX12_rounded 67 = .ok (.getfield 482, 3) := by decide +kernel
theorem dX12_rounded_70 : decode cX12_rounded 70 = .ok (.i2l, 1) := by decide +kernel
theorem dX12_rounded_71 : decode cX12_rounded 71 = .ok (.goto 5, 3) := by decide +kernel
theorem dX12_rounded_74 : decode cX12_rounded 74 = .ok (.lload 5, 2) := by decide +kernel
theorem dX12_rounded_76 : decode cX12_rounded 76 = .ok (.lstore 5, 2) := by decide +kernel
theorem dX12_rounded_78 : decode cX12_rounded 78 = .ok (.lload_n 1, 1) := by decide +kernel
theorem dX12_rounded_79 : decode cX12_rounded 79 = .ok (.lconst 0, 1) := by decide +kernel
theorem dX12_rounded_80 : decode cX12_rounded 80 = .ok (.lcmp, 1) := by decide +kernel
theorem dX12_rounded_81 : decode cX12_rounded 81 = .ok (.ifCond .ge 9, 3) := by decide +kernel
theorem dX12_rounded_84 : decode cX12_rounded 84 = .ok (.lload 5, 2) := by decide +kernel
theorem dX12_rounded_86 : decode cX12_rounded 86 = .ok (.lneg, 1) := by decide +kernel
theorem dX12_rounded_87 : decode cX12_rounded 87 = .ok (.goto 5, 3) := by decide +kernel
theorem dX12_rounded_90 : decode cX12_rounded 90 = .ok (.lload 5, 2) := by decide +kernel
theorem dX12_rounded_92 : decode cX12_rounded 92 = .ok (.lreturn, 1) := by decide +kernel
def B_X12_rounded_76  (l1 : Int64) (s0 : Int64) (V : sv_V) : Option (Int64 × sv_V) := if 0 ≤ (lg_cmp l1 (0 : Int64)) then (some (s0, V)) else (some (-s0, V))
set_option maxRecDepth 20000 in
theorem tB_X12_rounded_76 {g : sx_G} (hG : sx_Go g) {P : Option Value → sv_V → Prop} {r : Int64} {Vr : sv_V} (hP : P (some (.long r)) Vr)   {l1 : Int64} {s0 : Int64} {V : sv_V} (h : B_X12_rounded_76  l1 s0 V = some (r, Vr)) : sv_N g qX12_rounded 1 76 [(1, .long l1)] [.long s0] V P := by
  unfold B_X12_rounded_76 at h
  refine sx_lstore (pc := 76) (lo' := [(5, .long s0), (1, .long l1)]) dX12_rounded_76 (by decide) rfl ?_
  refine sx_lload_n (pc := 78) dX12_rounded_78 sx_m1 ?_
  refine sx_lconst (pc := 79) (v := 0) dX12_rounded_79 rfl ?_
  refine sx_lcmp (pc := 80) dX12_rounded_80 ?_
  refine sx_if_ge (pc := 81) (tgt := 90) dX12_rounded_81 (by decide) (fun c1 => ?_) (fun c1 => ?_)
  · have h := sx_pos c1 h
    refine sx_lload (pc := 90) dX12_rounded_90 sx_m0 ?_
    exact sv_lret (pc := 92) dX12_rounded_92 rfl h hP
  · have h := sx_neg c1 h
    refine sx_lload (pc := 84) dX12_rounded_84 sx_m0 ?_
    refine sx_lneg (pc := 86) dX12_rounded_86 ?_
    refine sx_goto (pc := 87) (tgt := 92) dX12_rounded_87 (by decide) ?_
    exact sv_lret (pc := 92) dX12_rounded_92 rfl h hP
def B_X12_rounded_23  (l1 : Int64) (s0 : Int64) (V : sv_V) : Option (Int64 × sv_V) := (F_J9_floorDiv_f86c9 ((s0 - ((V.1 146 78).toInt64)) + ((V.1 146 79).toInt64)) ((V.1 146 77).toInt64) V).bind (fun (x4, V2) => sx_let ((x4 * ((V2.1 146 77).toInt64)) + ((V2.1 146 78).toInt64)) (fun x5 => if 0 ≤ (lg_cmp x5 (0 : Int64)) then (B_X12_rounded_76  l1 x5 V2) else (B_X12_rounded_76  l1 ((V2.1 146 78).toInt64) V2)))
set_option maxRecDepth 20000 in
theorem tB_X12_rounded_23 {g : sx_G} (hG : sx_Go g) {P : Option Value → sv_V → Prop} {r : Int64} {Vr : sv_V} (hP : P (some (.long r)) Vr)   {l1 : Int64} {s0 : Int64} {V : sv_V} (h : B_X12_rounded_23  l1 s0 V = some (r, Vr)) : sv_N g qX12_rounded 1 23 [(0, .ref 146), (1, .long l1)] [.long s0] V P := by
  unfold B_X12_rounded_23 at h
  refine sx_lstore_n (pc := 23) (lo' := [(3, .long s0), (0, .ref 146), (1, .long l1)]) dX12_rounded_23 (by decide) rfl ?_
  refine sx_lload_n (pc := 24) dX12_rounded_24 sx_m0 ?_
  refine sx_aload_n (pc := 25) dX12_rounded_25 sx_m1 ?_
  refine sv_getI (pc := 26) hG dX12_rounded_26 f_12_482 lay_146 rfl ?_
  refine sx_i2l (pc := 29) dX12_rounded_29 ?_
  refine sx_lsub (pc := 30) dX12_rounded_30 ?_
  refine sx_aload_n (pc := 31) dX12_rounded_31 sx_m1 ?_
  refine sv_getI (pc := 32) hG dX12_rounded_32 f_12_485 lay_146 rfl ?_
  refine sx_i2l (pc := 35) dX12_rounded_35 ?_
  refine sx_ladd (pc := 36) dX12_rounded_36 ?_
  refine sx_aload_n (pc := 37) dX12_rounded_37 sx_m1 ?_
  refine sv_getI (pc := 38) hG dX12_rounded_38 f_12_479 lay_146 rfl ?_
  refine sx_i2l (pc := 41) dX12_rounded_41 ?_
  obtain ⟨⟨x4, V2⟩, g3, h⟩ := sx_bnd h
  refine sv_cS (pc := 42) (y := qJ9_floorDiv_f86c9) (o := (some (.long x4))) (as := [.long ((s0 - ((V.1 146 78).toInt64)) + ((V.1 146 79).toInt64)), .long ((V.1 146 77).toInt64)]) (V1 := V2) dX12_rounded_42 l_X12_488 y0J9_floorDiv_f86c9 ysJ9_floorDiv_f86c9 rfl (Nat.le_of_ble_eq_true rfl) (by decide) (Nat.le_of_ble_eq_true rfl) rfl rfl rfl (t_J9_floorDiv_f86c9 hG ⟨rfl, rfl⟩ g3) ?_
  refine sx_aload_n (pc := 45) dX12_rounded_45 sx_m1 ?_
  refine sv_getI (pc := 46) hG dX12_rounded_46 f_12_479 lay_146 rfl ?_
  refine sx_i2l (pc := 49) dX12_rounded_49 ?_
  refine sx_lmul (pc := 50) dX12_rounded_50 ?_
  refine sx_aload_n (pc := 51) dX12_rounded_51 sx_m1 ?_
  refine sv_getI (pc := 52) hG dX12_rounded_52 f_12_482 lay_146 rfl ?_
  refine sx_i2l (pc := 55) dX12_rounded_55 ?_
  refine sx_ladd (pc := 56) dX12_rounded_56 ?_
  refine sv_tJ (fun x5 hx5 => ?_)
  have h := sx_letE hx5 h
  refine sx_lstore (pc := 57) (lo' := [(5, .long x5), (3, .long s0), (0, .ref 146), (1, .long l1)]) dX12_rounded_57 (by decide) rfl ?_
  refine sx_lload (pc := 59) dX12_rounded_59 sx_m0 ?_
  refine sx_lconst (pc := 61) (v := 0) dX12_rounded_61 rfl ?_
  refine sx_lcmp (pc := 62) dX12_rounded_62 ?_
  refine sx_if_ge (pc := 63) (tgt := 74) dX12_rounded_63 (by decide) (fun c6 => ?_) (fun c6 => ?_)
  · have h := sx_pos c6 h
    refine sx_lload (pc := 74) dX12_rounded_74 sx_m0 ?_
    refine sx_wk (sx_s1 sx_m3 sx_s0) ?_
    exact tB_X12_rounded_76 hG hP  h
  · have h := sx_neg c6 h
    refine sx_aload_n (pc := 66) dX12_rounded_66 sx_m2 ?_
    refine sv_getI (pc := 67) hG dX12_rounded_67 f_12_482 lay_146 rfl ?_
    refine sx_i2l (pc := 70) dX12_rounded_70 ?_
    refine sx_goto (pc := 71) (tgt := 76) dX12_rounded_71 (by decide) ?_
    refine sx_wk (sx_s1 sx_m3 sx_s0) ?_
    exact tB_X12_rounded_76 hG hP  h
def F_X12_rounded (l1 : Int64) (V : sv_V) : Option (Int64 × sv_V) := if (V.1 146 76) = (122 : Int32) then (some (l1, V)) else (if 0 ≤ (lg_cmp l1 (0 : Int64)) then (B_X12_rounded_23  l1 l1 V) else (B_X12_rounded_23  l1 (-l1) V))
set_option maxRecDepth 20000 in
theorem t_X12_rounded {g : sx_G} (hG : sx_Go g) {P : Option Value → sv_V → Prop} {r : Int64} {Vr : sv_V} (hP : P (some (.long r)) Vr) {l1 : Int64} {V : sv_V} (h : F_X12_rounded l1 V = some (r, Vr)) : sv_N g qX12_rounded 1 0 [(0, .ref 146), (1, .long l1)] [] V P := by
  unfold F_X12_rounded at h
  refine sx_aload_n (pc := 0) dX12_rounded_0 sx_m0 ?_
  refine sv_getI (pc := 1) hG dX12_rounded_1 f_12_476 lay_146 rfl ?_
  refine sx_bipush (pc := 4) (v := 122) dX12_rounded_4 (by decide) ?_
  refine sx_icmp_ne (pc := 6) (tgt := 11) dX12_rounded_6 (by decide) (fun c7 => ?_) (fun c7 => ?_)
  · have h := sx_neg c7 h
    refine sx_lload_n (pc := 11) dX12_rounded_11 sx_m1 ?_
    refine sx_lconst (pc := 12) (v := 0) dX12_rounded_12 rfl ?_
    refine sx_lcmp (pc := 13) dX12_rounded_13 ?_
    refine sx_if_ge (pc := 14) (tgt := 22) dX12_rounded_14 (by decide) (fun c8 => ?_) (fun c8 => ?_)
    · have h := sx_pos c8 h
      refine sx_lload_n (pc := 22) dX12_rounded_22 sx_m1 ?_
      refine sx_wk (sx_s1 sx_m0 (sx_s1 sx_m1 sx_s0)) ?_
      exact tB_X12_rounded_23 hG hP  h
    · have h := sx_neg c8 h
      refine sx_lload_n (pc := 17) dX12_rounded_17 sx_m1 ?_
      refine sx_lneg (pc := 18) dX12_rounded_18 ?_
      refine sx_goto (pc := 19) (tgt := 23) dX12_rounded_19 (by decide) ?_
      refine sx_wk (sx_s1 sx_m0 (sx_s1 sx_m1 sx_s0)) ?_
      exact tB_X12_rounded_23 hG hP  h
  · have h := sx_pos c7 h
    refine sx_lload_n (pc := 9) dX12_rounded_9 sx_m1 ?_
    exact sv_lret (pc := 10) dX12_rounded_10 rfl h hP
theorem dX12_direction_0 : decode cX12_direction 0 = .ok (.iload_n 1, 1) := by decide +kernel
theorem dX12_direction_1 : decode cX12_direction 1 = .ok (.istore_n 3, 1) := by decide +kernel
theorem dX12_direction_2 : decode cX12_direction 2 = .ok (.iload_n 2, 1) := by decide +kernel
theorem dX12_direction_3 : decode cX12_direction 3 = .ok (.istore 4, 2) := by decide +kernel
theorem dX12_direction_5 : decode cX12_direction 5 = .ok (.iload_n 3, 1) := by decide +kernel
theorem dX12_direction_6 : decode cX12_direction 6 = .ok (.ifCond .ne 21, 3) := by decide +kernel
theorem dX12_direction_9 : decode cX12_direction 9 = .ok (.iload 4, 2) := by decide +kernel
theorem dX12_direction_11 : decode cX12_direction 11 = .ok (.ifCond .ne 16, 3) := by decide +kernel
theorem dX12_direction_14 : decode cX12_direction 14 = .ok (.aload_n 0, 1) := by decide +kernel
theorem dX12_direction_15 : decode cX12_direction 15 = .ok (.sipush 16384, 3) := by decide +kernel
theorem dX12_direction_18 : decode cX12_direction 18 = .ok (.putfield 533, 3) := by decide +kernel
theorem dX12_direction_21 : decode cX12_direction 21 = .ok (.aload_n 0, 1) := by decide +kernel
theorem dX12_direction_22 : decode cX12_direction 22 = .ok (.iconst 0, 1) := by decide +kernel
theorem dX12_direction_23 : decode cX12_direction 23 = .ok (.putfield 536, 3) := by decide +kernel
theorem dX12_direction_26 : decode cX12_direction 26 = .ok (.return_, 1) := by decide +kernel
theorem dX12_direction_27 : decode cX12_direction 27 = .ok (.iload_n 3, 1) := by decide +kernel
theorem dX12_direction_28 : decode cX12_direction 28 = .ok (.i2l, 1) := by decide +kernel
theorem dX12_direction_29 : decode cX12_direction 29 = .ok (.invokestatic 198, 3) := by decide +kernel
theorem dX12_direction_32 : decode cX12_direction 32 = .ok (.ldc2_w 539, 3) := by decide +kernel
theorem dX12_direction_35 : decode cX12_direction 35 = .ok (.lcmp, 1) := by decide +kernel
theorem dX12_direction_36 : decode cX12_direction 36 = .ok (.ifCond .gt 16, 3) := by decide +kernel
theorem dX12_direction_39 : decode cX12_direction 39 = .ok (.iload 4, 2) := by decide +kernel
theorem dX12_direction_41 : decode cX12_direction 41 = .ok (.i2l, 1) := by decide +kernel
theorem dX12_direction_42 : decode cX12_direction 42 = .ok (.invokestatic 198, 3) := by decide +kernel
theorem dX12_direction_45 : decode cX12_direction 45 = .ok (.ldc2_w 539, 3) := by decide +kernel
theorem dX12_direction_48 : decode cX12_direction 48 = .ok (.lcmp, 1) := by decide +kernel
theorem dX12_direction_49 : decode cX12_direction 49 = .ok (.ifCond .le 16, 3) := by decide +kernel
theorem dX12_direction_52 : decode cX12_direction 52 = .ok (.iload_n 3, 1) := by decide +kernel
theorem dX12_direction_53 : decode cX12_direction 53 = .ok (.iconst 2, 1) := by decide +kernel
theorem dX12_direction_54 : decode cX12_direction 54 = .ok (.idiv, 1) := by decide +kernel
theorem dX12_direction_55 : decode cX12_direction 55 = .ok (.istore_n 3, 1) := by decide +kernel
theorem dX12_direction_56 : decode cX12_direction 56 = .ok (.iload 4, 2) := by decide +kernel
theorem dX12_direction_58 : decode cX12_direction 58 = .ok (.iconst 2, 1) := by decide +kernel
theorem dX12_direction_59 : decode cX12_direction 59 = .ok (.idiv, 1) := by decide +kernel
theorem dX12_direction_60 : decode cX12_direction 60 = .ok (.istore 4, 2) := by decide +kernel
theorem dX12_direction_62 : decode cX12_direction 62 = .ok (.goto (-35), 3) := by decide +kernel
theorem dX12_direction_65 : decode cX12_direction 65 = .ok (.iload_n 3, 1) := by decide +kernel
theorem dX12_direction_66 : decode cX12_direction 66 = .ok (.i2l, 1) := by decide +kernel
theorem dX12_direction_67 : decode cX12_direction 67 = .ok (.iload_n 3, 1) := by decide +kernel
theorem dX12_direction_68 : decode cX12_direction 68 = .ok (.i2l, 1) := by decide +kernel
theorem dX12_direction_69 : decode cX12_direction 69 = .ok (.lmul, 1) := by decide +kernel
theorem dX12_direction_70 : decode cX12_direction 70 = .ok (.iload 4, 2) := by decide +kernel
theorem dX12_direction_72 : decode cX12_direction 72 = .ok (.i2l, 1) := by decide +kernel
theorem dX12_direction_73 : decode cX12_direction 73 = .ok (.iload 4, 2) := by decide +kernel
theorem dX12_direction_75 : decode cX12_direction 75 = .ok (.i2l, 1) := by decide +kernel
theorem dX12_direction_76 : decode cX12_direction 76 = .ok (.lmul, 1) := by decide +kernel
theorem dX12_direction_77 : decode cX12_direction 77 = .ok (.ladd, 1) := by decide +kernel
theorem dX12_direction_78 : decode cX12_direction 78 = .ok (.lstore 5, 2) := by decide +kernel
theorem dX12_direction_80 : decode cX12_direction 80 = .ok (.aload_n 0, 1) := by decide +kernel
theorem dX12_direction_81 : decode cX12_direction 81 = .ok (.iload_n 3, 1) := by decide +kernel
theorem dX12_direction_82 : decode cX12_direction 82 = .ok (.lload 5, 2) := by decide +kernel
theorem dX12_direction_84 : decode cX12_direction 84 = .ok (.invokestatic 541, 3) := by decide +kernel
theorem dX12_direction_87 : decode cX12_direction 87 = .ok (.putfield 533, 3) := by decide +kernel
theorem dX12_direction_90 : decode cX12_direction 90 = .ok (.aload_n 0, 1) := by decide +kernel
theorem dX12_direction_91 : decode cX12_direction 91 = .ok (.iload 4, 2) := by decide +kernel
theorem dX12_direction_93 : decode cX12_direction 93 = .ok (.lload 5, 2) := by decide +kernel
theorem dX12_direction_95 : decode cX12_direction 95 = .ok (.invokestatic 541, 3) := by decide +kernel
theorem dX12_direction_98 : decode cX12_direction 98 = .ok (.putfield 536, 3) := by decide +kernel
theorem dX12_direction_101 : decode cX12_direction 101 = .ok (.return_, 1) := by decide +kernel
def B_X12_direction_52 (N : Nat) (k27 : Int32 → Int32 → sv_V → Option sv_V) (l3 : Int32) (l4 : Int32) (V : sv_V) : Option sv_V := sx_let (l3 / (2 : Int32)) (fun x1 => sx_let (l4 / (2 : Int32)) (fun x2 => k27 x1 x2 V))
set_option maxRecDepth 20000 in
theorem tB_X12_direction_52 {g : sx_G} (hG : sx_Go g) {P : Option Value → sv_V → Prop} {Vr : sv_V} (hP : P none Vr) {N : Nat} {k27 : Int32 → Int32 → sv_V → Option sv_V} (hk27 : ∀ (l3 : Int32) (l4 : Int32) (V : sv_V), k27 l3 l4 V = some Vr → sv_N g qX12_direction 2 27 [(0, .ref 146), (3, .int l3), (4, .int l4)] [] V P) {l3 : Int32} {l4 : Int32} {V : sv_V} (h : B_X12_direction_52 N k27 l3 l4 V = some Vr) : sv_N g qX12_direction 2 52 [(0, .ref 146), (3, .int l3), (4, .int l4)] [] V P := by
  unfold B_X12_direction_52 at h
  refine sx_iload_n (pc := 52) dX12_direction_52 sx_m1 ?_
  refine sx_iconst (pc := 53) (v := 2) dX12_direction_53 (by decide) ?_
  refine sx_idiv (pc := 54) dX12_direction_54 (by decide) ?_
  refine sv_tI (fun x1 hx1 => ?_)
  have h := sx_letE hx1 h
  refine sx_istore_n (pc := 55) (lo' := [(3, .int x1), (0, .ref 146), (4, .int l4)]) dX12_direction_55 (by decide) rfl ?_
  refine sx_iload (pc := 56) dX12_direction_56 sx_m2 ?_
  refine sx_iconst (pc := 58) (v := 2) dX12_direction_58 (by decide) ?_
  refine sx_idiv (pc := 59) dX12_direction_59 (by decide) ?_
  refine sv_tI (fun x2 hx2 => ?_)
  have h := sx_letE hx2 h
  refine sx_istore (pc := 60) (lo' := [(4, .int x2), (3, .int x1), (0, .ref 146)]) dX12_direction_60 (by decide) rfl ?_
  refine sx_goto (pc := 62) (tgt := 27) dX12_direction_62 (by decide) ?_
  refine sx_wk (sx_s1 sx_m2 (sx_s1 sx_m1 (sx_s1 sx_m0 sx_s0))) ?_
  exact hk27 _ _ _ h
def B_X12_direction_27 (N : Nat) (k27 : Int32 → Int32 → sv_V → Option sv_V) (l3 : Int32) (l4 : Int32) (V : sv_V) : Option sv_V := (F_X12_sizeOf l3.toInt64 V).bind (fun (x5, V3) => if 0 < (lg_cmp x5 (30000 : Int64)) then (B_X12_direction_52 N k27 l3 l4 V3) else ((F_X12_sizeOf l4.toInt64 V3).bind (fun (x9, V7) => if (lg_cmp x9 (30000 : Int64)) ≤ 0 then (sx_let ((l3.toInt64 * l3.toInt64) + (l4.toInt64 * l4.toInt64)) (fun x11 => (F_X12_part N l3 x11 V7).bind (fun (x14, V12) => sx_let (sv_I V12 146 105 x14) (fun V15 => (F_X12_part N l4 x11 V15).bind (fun (x18, V16) => sx_let (sv_I V16 146 106 x18) (fun V19 => some V19)))))) else (B_X12_direction_52 N k27 l3 l4 V7))))
set_option maxRecDepth 20000 in
theorem tB_X12_direction_27 {g : sx_G} (hG : sx_Go g) {P : Option Value → sv_V → Prop} {Vr : sv_V} (hP : P none Vr) {N : Nat} {k27 : Int32 → Int32 → sv_V → Option sv_V} (hk27 : ∀ (l3 : Int32) (l4 : Int32) (V : sv_V), k27 l3 l4 V = some Vr → sv_N g qX12_direction 2 27 [(0, .ref 146), (3, .int l3), (4, .int l4)] [] V P) {l3 : Int32} {l4 : Int32} {V : sv_V} (h : B_X12_direction_27 N k27 l3 l4 V = some Vr) : sv_N g qX12_direction 2 27 [(0, .ref 146), (3, .int l3), (4, .int l4)] [] V P := by
  unfold B_X12_direction_27 at h
  refine sx_iload_n (pc := 27) dX12_direction_27 sx_m1 ?_
  refine sx_i2l (pc := 28) dX12_direction_28 ?_
  obtain ⟨⟨x5, V3⟩, g4, h⟩ := sx_bnd h
  refine sv_cS (pc := 29) (y := qX12_sizeOf) (o := (some (.long x5))) (as := [.long l3.toInt64]) (V1 := V3) dX12_direction_29 l_X12_198 y0X12_sizeOf ysX12_sizeOf rfl (Nat.le_of_ble_eq_true rfl) (by decide) (Nat.le_of_ble_eq_true rfl) rfl rfl rfl (t_X12_sizeOf hG ⟨rfl, rfl⟩ g4) ?_
  refine sx_ldc2 (pc := 32) dX12_direction_32 k_X12_539 ?_
  refine sx_lcmp (pc := 35) dX12_direction_35 ?_
  refine sx_if_gt (pc := 36) (tgt := 52) dX12_direction_36 (by decide) (fun c6 => ?_) (fun c6 => ?_)
  · have h := sx_pos c6 h
    refine sx_wk (sx_s1 sx_m0 (sx_s1 sx_m1 (sx_s1 sx_m2 sx_s0))) ?_
    exact tB_X12_direction_52 hG hP hk27 h
  · have h := sx_neg c6 h
    refine sx_iload (pc := 39) dX12_direction_39 sx_m2 ?_
    refine sx_i2l (pc := 41) dX12_direction_41 ?_
    obtain ⟨⟨x9, V7⟩, g8, h⟩ := sx_bnd h
    refine sv_cS (pc := 42) (y := qX12_sizeOf) (o := (some (.long x9))) (as := [.long l4.toInt64]) (V1 := V7) dX12_direction_42 l_X12_198 y0X12_sizeOf ysX12_sizeOf rfl (Nat.le_of_ble_eq_true rfl) (by decide) (Nat.le_of_ble_eq_true rfl) rfl rfl rfl (t_X12_sizeOf hG ⟨rfl, rfl⟩ g8) ?_
    refine sx_ldc2 (pc := 45) dX12_direction_45 k_X12_539 ?_
    refine sx_lcmp (pc := 48) dX12_direction_48 ?_
    refine sx_if_le (pc := 49) (tgt := 65) dX12_direction_49 (by decide) (fun c10 => ?_) (fun c10 => ?_)
    · have h := sx_pos c10 h
      refine sx_iload_n (pc := 65) dX12_direction_65 sx_m1 ?_
      refine sx_i2l (pc := 66) dX12_direction_66 ?_
      refine sx_iload_n (pc := 67) dX12_direction_67 sx_m1 ?_
      refine sx_i2l (pc := 68) dX12_direction_68 ?_
      refine sx_lmul (pc := 69) dX12_direction_69 ?_
      refine sx_iload (pc := 70) dX12_direction_70 sx_m2 ?_
      refine sx_i2l (pc := 72) dX12_direction_72 ?_
      refine sx_iload (pc := 73) dX12_direction_73 sx_m2 ?_
      refine sx_i2l (pc := 75) dX12_direction_75 ?_
      refine sx_lmul (pc := 76) dX12_direction_76 ?_
      refine sx_ladd (pc := 77) dX12_direction_77 ?_
      refine sv_tJ (fun x11 hx11 => ?_)
      have h := sx_letE hx11 h
      refine sx_lstore (pc := 78) (lo' := [(5, .long x11), (0, .ref 146), (3, .int l3), (4, .int l4)]) dX12_direction_78 (by decide) rfl ?_
      refine sx_aload_n (pc := 80) dX12_direction_80 sx_m1 ?_
      refine sx_iload_n (pc := 81) dX12_direction_81 sx_m2 ?_
      refine sx_lload (pc := 82) dX12_direction_82 sx_m0 ?_
      obtain ⟨⟨x14, V12⟩, g13, h⟩ := sx_bnd h
      refine sv_cS (pc := 84) (y := qX12_part) (o := (some (.int x14))) (as := [.int l3, .long x11]) (V1 := V12) dX12_direction_84 l_X12_541 y0X12_part ysX12_part rfl (Nat.le_of_ble_eq_true rfl) (by decide) (Nat.le_of_ble_eq_true rfl) rfl rfl rfl (t_X12_part hG ⟨rfl, rfl⟩ g13) ?_
      obtain ⟨V15, hV15⟩ : ∃ z : sv_V, z = sv_I V12 146 105 x14 := ⟨_, rfl⟩
      have h := sx_letE hV15 h
      refine sv_putI (pc := 87) hG dX12_direction_87 f_12_533 lay_146 rfl hV15 ?_
      refine sx_aload_n (pc := 90) dX12_direction_90 sx_m1 ?_
      refine sx_iload (pc := 91) dX12_direction_91 sx_m3 ?_
      refine sx_lload (pc := 93) dX12_direction_93 sx_m0 ?_
      obtain ⟨⟨x18, V16⟩, g17, h⟩ := sx_bnd h
      refine sv_cS (pc := 95) (y := qX12_part) (o := (some (.int x18))) (as := [.int l4, .long x11]) (V1 := V16) dX12_direction_95 l_X12_541 y0X12_part ysX12_part rfl (Nat.le_of_ble_eq_true rfl) (by decide) (Nat.le_of_ble_eq_true rfl) rfl rfl rfl (t_X12_part hG ⟨rfl, rfl⟩ g17) ?_
      obtain ⟨V19, hV19⟩ : ∃ z : sv_V, z = sv_I V16 146 106 x18 := ⟨_, rfl⟩
      have h := sx_letE hV19 h
      refine sv_putI (pc := 98) hG dX12_direction_98 f_12_536 lay_146 rfl hV19 ?_
      exact sv_vret (pc := 101) dX12_direction_101 rfl h hP
    · have h := sx_neg c10 h
      refine sx_wk (sx_s1 sx_m0 (sx_s1 sx_m1 (sx_s1 sx_m2 sx_s0))) ?_
      exact tB_X12_direction_52 hG hP hk27 h
theorem tL_X12_direction_27 {g : sx_G} (hG : sx_Go g) {P : Option Value → sv_V → Prop} {Vr : sv_V} (hP : P none Vr) {N : Nat}   : ∀ (n : Nat) (l3 : Int32) (l4 : Int32) (V : sv_V), sx_lp3 (B_X12_direction_27 N ) n l3 l4 V = some Vr → sv_N g qX12_direction 2 27 [(0, .ref 146), (3, .int l3), (4, .int l4)] [] V P :=
  sx_lp3_ind (fun k0 ih _ _ V h => tB_X12_direction_27 hG hP ih h)
def F_X12_direction (N : Nat) (l1 : Int32) (l2 : Int32) (V : sv_V) : Option sv_V := if l1 = 0 then (if l2 = 0 then (sx_let (sv_I V 146 105 (16384 : Int32)) (fun V22 => sx_let (sv_I V22 146 106 (0 : Int32)) (fun V23 => some V23))) else (sx_lp3 (B_X12_direction_27 N ) N l1 l2 V)) else (sx_lp3 (B_X12_direction_27 N ) N l1 l2 V)
set_option maxRecDepth 20000 in
theorem t_X12_direction {g : sx_G} (hG : sx_Go g) {P : Option Value → sv_V → Prop} {Vr : sv_V} (hP : P none Vr) {N : Nat} {l1 : Int32} {l2 : Int32} {V : sv_V} (h : F_X12_direction N l1 l2 V = some Vr) : sv_N g qX12_direction 2 0 [(0, .ref 146), (1, .int l1), (2, .int l2)] [] V P := by
  unfold F_X12_direction at h
  refine sx_iload_n (pc := 0) dX12_direction_0 sx_m1 ?_
  refine sx_istore_n (pc := 1) (lo' := [(3, .int l1), (0, .ref 146), (1, .int l1), (2, .int l2)]) dX12_direction_1 (by decide) rfl ?_
  refine sx_iload_n (pc := 2) dX12_direction_2 sx_m3 ?_
  refine sx_istore (pc := 3) (lo' := [(4, .int l2), (3, .int l1), (0, .ref 146), (1, .int l1), (2, .int l2)]) dX12_direction_3 (by decide) rfl ?_
  refine sx_iload_n (pc := 5) dX12_direction_5 sx_m1 ?_
  refine sx_if_ne (pc := 6) (tgt := 27) dX12_direction_6 (by decide) (fun c20 => ?_) (fun c20 => ?_)
  · have h := sx_neg c20 h
    refine sx_wk (sx_s1 sx_m2 (sx_s1 sx_m1 (sx_s1 sx_m0 sx_s0))) ?_
    exact tL_X12_direction_27 hG hP  N _ _ _ h
  · have h := sx_pos c20 h
    refine sx_iload (pc := 9) dX12_direction_9 sx_m0 ?_
    refine sx_if_ne (pc := 11) (tgt := 27) dX12_direction_11 (by decide) (fun c21 => ?_) (fun c21 => ?_)
    · have h := sx_neg c21 h
      refine sx_wk (sx_s1 sx_m2 (sx_s1 sx_m1 (sx_s1 sx_m0 sx_s0))) ?_
      exact tL_X12_direction_27 hG hP  N _ _ _ h
    · have h := sx_pos c21 h
      refine sx_aload_n (pc := 14) dX12_direction_14 sx_m2 ?_
      refine sx_sipush (pc := 15) (v := 16384) dX12_direction_15 (by decide) ?_
      obtain ⟨V22, hV22⟩ : ∃ z : sv_V, z = sv_I V 146 105 (16384 : Int32) := ⟨_, rfl⟩
      have h := sx_letE hV22 h
      refine sv_putI (pc := 18) hG dX12_direction_18 f_12_533 lay_146 rfl hV22 ?_
      refine sx_aload_n (pc := 21) dX12_direction_21 sx_m2 ?_
      refine sx_iconst (pc := 22) (v := 0) dX12_direction_22 (by decide) ?_
      obtain ⟨V23, hV23⟩ : ∃ z : sv_V, z = sv_I V22 146 106 (0 : Int32) := ⟨_, rfl⟩
      have h := sx_letE hV23 h
      refine sv_putI (pc := 23) hG dX12_direction_23 f_12_536 lay_146 rfl hV23 ?_
      exact sv_vret (pc := 26) dX12_direction_26 rfl h hP
theorem dX12_follow_0 : decode cX12_follow 0 = .ok (.aload_n 0, 1) := by decide +kernel
theorem dX12_follow_1 : decode cX12_follow 1 = .ok (.iload 4, 2) := by decide +kernel
theorem dX12_follow_3 : decode cX12_follow 3 = .ok (.iaload, 1) := by decide +kernel
theorem dX12_follow_4 : decode cX12_follow 4 = .ok (.aload_n 0, 1) := by decide +kernel
theorem dX12_follow_5 : decode cX12_follow 5 = .ok (.iload_n 3, 1) := by decide +kernel
theorem dX12_follow_6 : decode cX12_follow 6 = .ok (.iaload, 1) := by decide +kernel
theorem dX12_follow_7 : decode cX12_follow 7 = .ok (.if_icmp .ge 8, 3) := by decide +kernel
theorem dX12_follow_10 : decode cX12_follow 10 = .ok (.iload 4, 2) := by decide +kernel
theorem dX12_follow_12 : decode cX12_follow 12 = .ok (.goto 4, 3) := by decide +kernel
theorem dX12_follow_15 : decode cX12_follow 15 = .ok (.iload_n 3, 1) := by decide +kernel
theorem dX12_follow_16 : decode cX12_follow 16 = .ok (.istore 5, 2) := by decide +kernel
theorem dX12_follow_18 : decode cX12_follow 18 = .ok (.iload 5, 2) := by decide +kernel
theorem dX12_follow_20 : decode cX12_follow 20 = .ok (.iload_n 3, 1) := by decide +kernel
theorem dX12_follow_21 : decode cX12_follow 21 = .ok (.if_icmp .ne 8, 3) := by decide +kernel
theorem dX12_follow_24 : decode cX12_follow 24 = .ok (.iload 4, 2) := by decide +kernel
theorem dX12_follow_26 : decode cX12_follow 26 = .ok (.goto 4, 3) := by decide +kernel
theorem dX12_follow_29 : decode cX12_follow 29 = .ok (.iload_n 3, 1) := by decide +kernel
theorem dX12_follow_30 : decode cX12_follow 30 = .ok (.istore 6, 2) := by decide +kernel
theorem dX12_follow_32 : decode cX12_follow 32 = .ok (.aload_n 0, 1) := by decide +kernel
theorem dX12_follow_33 : decode cX12_follow 33 = .ok (.iload_n 2, 1) := by decide +kernel
theorem dX12_follow_34 : decode cX12_follow 34 = .ok (.iaload, 1) := by decide +kernel
theorem dX12_follow_35 : decode cX12_follow 35 = .ok (.aload_n 0, 1) := by decide +kernel
theorem dX12_follow_36 : decode cX12_follow 36 = .ok (.iload 5, 2) := by decide +kernel
theorem dX12_follow_38 : decode cX12_follow 38 = .ok (.iaload, 1) := by decide +kernel
theorem dX12_follow_39 : decode cX12_follow 39 = .ok (.if_icmp .gt 22, 3) := by decide +kernel
theorem dX12_follow_42 : decode cX12_follow 42 = .ok (.aload_n 1, 1) := by decide +kernel
theorem dX12_follow_43 : decode cX12_follow 43 = .ok (.iload_n 2, 1) := by decide +kernel
theorem dX12_follow_44 : decode cX12_follow 44 = .ok (.aload_n 0, 1) := by decide +kernel
theorem dX12_follow_45 : decode cX12_follow 45 = .ok (.iload_n 2, 1) := by decide +kernel
theorem dX12_follow_46 : decode cX12_follow 46 = .ok (.iaload, 1) := by decide +kernel
theorem dX12_follow_47 : decode cX12_follow 47 = .ok (.aload_n 1, 1) := by decide +kernel
theorem dX12_follow_48 : decode cX12_follow 48 = .ok (.iload 5, 2) := by decide +kernel
theorem dX12_follow_50 : decode cX12_follow 50 = .ok (.iaload, 1) := by decide +kernel
theorem dX12_follow_51 : decode cX12_follow 51 = .ok (.aload_n 0, 1) := by decide +kernel
theorem dX12_follow_52 : decode cX12_follow 52 = .ok (.iload 5, 2) := by decide +kernel
theorem dX12_follow_54 : decode cX12_follow 54 = .ok (.iaload, 1) := by decide +kernel
theorem dX12_follow_55 : decode cX12_follow 55 = .ok (.isub, 1) := by decide +kernel
theorem dX12_follow_56 : decode cX12_follow 56 = .ok (.iadd, 1) := by decide +kernel
theorem dX12_follow_57 : decode cX12_follow 57 = .ok (.iastore, 1) := by decide +kernel
theorem dX12_follow_58 : decode cX12_follow 58 = .ok (.goto 75, 3) := by decide +kernel
theorem dX12_follow_61 : decode cX12_follow 61 = .ok (.aload_n 0, 1) := by decide +kernel
theorem dX12_follow_62 : decode cX12_follow 62 = .ok (.iload_n 2, 1) := by decide +kernel
theorem dX12_follow_63 : decode cX12_follow 63 = .ok (.iaload, 1) := by decide +kernel
theorem dX12_follow_64 : decode cX12_follow 64 = .ok (.aload_n 0, 1) := by decide +kernel
theorem dX12_follow_65 : decode cX12_follow 65 = .ok (.iload 6, 2) := by decide +kernel
theorem dX12_follow_67 : decode cX12_follow 67 = .ok (.iaload, 1) := by decide +kernel
theorem dX12_follow_68 : decode cX12_follow 68 = .ok (.if_icmp .lt 22, 3) := by decide +kernel
theorem dX12_follow_71 : decode cX12_follow 71 = .ok (.aload_n 1, 1) := by decide +kernel
theorem dX12_follow_72 : decode cX12_follow 72 = .ok (.iload_n 2, 1) := by decide +kernel
theorem dX12_follow_73 : decode cX12_follow 73 = .ok (.aload_n 0, 1) := by decide +kernel
theorem dX12_follow_74 : decode cX12_follow 74 = .ok (.iload_n 2, 1) := by decide +kernel
theorem dX12_follow_75 : decode cX12_follow 75 = .ok (.iaload, 1) := by decide +kernel
theorem dX12_follow_76 : decode cX12_follow 76 = .ok (.aload_n 1, 1) := by decide +kernel
theorem dX12_follow_77 : decode cX12_follow 77 = .ok (.iload 6, 2) := by decide +kernel
theorem dX12_follow_79 : decode cX12_follow 79 = .ok (.iaload, 1) := by decide +kernel
theorem dX12_follow_80 : decode cX12_follow 80 = .ok (.aload_n 0, 1) := by decide +kernel
theorem dX12_follow_81 : decode cX12_follow 81 = .ok (.iload 6, 2) := by decide +kernel
theorem dX12_follow_83 : decode cX12_follow 83 = .ok (.iaload, 1) := by decide +kernel
theorem dX12_follow_84 : decode cX12_follow 84 = .ok (.isub, 1) := by decide +kernel
theorem dX12_follow_85 : decode cX12_follow 85 = .ok (.iadd, 1) := by decide +kernel
theorem dX12_follow_86 : decode cX12_follow 86 = .ok (.iastore, 1) := by decide +kernel
theorem dX12_follow_87 : decode cX12_follow 87 = .ok (.goto 46, 3) := by decide +kernel
theorem dX12_follow_90 : decode cX12_follow 90 = .ok (.aload_n 1, 1) := by decide +kernel
theorem dX12_follow_91 : decode cX12_follow 91 = .ok (.iload_n 2, 1) := by decide +kernel
theorem dX12_follow_92 : decode cX12_follow 92 = .ok (.aload_n 1, 1) := by decide +kernel
theorem dX12_follow_93 : decode cX12_follow 93 = .ok (.iload 5, 2) := by decide +kernel
theorem dX12_follow_95 : decode cX12_follow 95 = .ok (.iaload, 1) := by decide +kernel
theorem dX12_follow_96 : decode cX12_follow 96 = .ok (.i2l, 1) := by decide +kernel
theorem dX12_follow_97 : decode cX12_follow 97 = .ok (.aload_n 0, 1) := by decide +kernel
theorem dX12_follow_98 : decode cX12_follow 98 = .ok (.iload_n 2, 1) := by decide +kernel
theorem dX12_follow_99 : decode cX12_follow 99 = .ok (.iaload, 1) := by decide +kernel
theorem dX12_follow_100 : decode cX12_follow 100 = .ok (.aload_n 0, 1) := by decide +kernel
theorem dX12_follow_101 : decode cX12_follow 101 = .ok (.iload 5, 2) := by decide +kernel
theorem dX12_follow_103 : decode cX12_follow 103 = .ok (.iaload, 1) := by decide +kernel
theorem dX12_follow_104 : decode cX12_follow 104 = .ok (.isub, 1) := by decide +kernel
theorem dX12_follow_105 : decode cX12_follow 105 = .ok (.i2l, 1) := by decide +kernel
theorem dX12_follow_106 : decode cX12_follow 106 = .ok (.aload_n 1, 1) := by decide +kernel
theorem dX12_follow_107 : decode cX12_follow 107 = .ok (.iload 6, 2) := by decide +kernel
theorem dX12_follow_109 : decode cX12_follow 109 = .ok (.iaload, 1) := by decide +kernel
theorem dX12_follow_110 : decode cX12_follow 110 = .ok (.aload_n 1, 1) := by decide +kernel
theorem dX12_follow_111 : decode cX12_follow 111 = .ok (.iload 5, 2) := by decide +kernel
theorem dX12_follow_113 : decode cX12_follow 113 = .ok (.iaload, 1) := by decide +kernel
theorem dX12_follow_114 : decode cX12_follow 114 = .ok (.isub, 1) := by decide +kernel
theorem dX12_follow_115 : decode cX12_follow 115 = .ok (.i2l, 1) := by decide +kernel
theorem dX12_follow_116 : decode cX12_follow 116 = .ok (.lmul, 1) := by decide +kernel
theorem dX12_follow_117 : decode cX12_follow 117 = .ok (.aload_n 0, 1) := by decide +kernel
theorem dX12_follow_118 : decode cX12_follow 118 = .ok (.iload 6, 2) := by decide +kernel
theorem dX12_follow_120 : decode cX12_follow 120 = .ok (.iaload, 1) := by decide +kernel
theorem dX12_follow_121 : decode cX12_follow 121 = .ok (.aload_n 0, 1) := by decide +kernel
theorem dX12_follow_122 : decode cX12_follow 122 = .ok (.iload 5, 2) := by decide +kernel
theorem dX12_follow_124 : decode cX12_follow 124 = .ok (.iaload, 1) := by decide +kernel
theorem dX12_follow_125 : decode cX12_follow 125 = .ok (.isub, 1) := by decide +kernel
theorem dX12_follow_126 : decode cX12_follow 126 = .ok (.i2l, 1) := by decide +kernel
theorem dX12_follow_127 : decode cX12_follow 127 = .ok (.invokestatic 194, 3) := by decide +kernel
theorem dX12_follow_130 : decode cX12_follow 130 = .ok (.ladd, 1) := by decide +kernel
theorem dX12_follow_131 : decode cX12_follow 131 = .ok (.l2i, 1) := by decide +kernel
theorem dX12_follow_132 : decode cX12_follow 132 = .ok (.iastore, 1) := by decide +kernel
theorem dX12_follow_133 : decode cX12_follow 133 = .ok (.return_, 1) := by decide +kernel
def B_X12_follow_30  (l0 : Nat) (l1 : Nat) (l2 : Int32) (l5 : Int32) (s0 : Int32) (V : sv_V) : Option sv_V := (sv_len 0 l0).bind (fun n1 => if sx_in l2 n1 = true then if sx_in l5 n1 = true then if (V.1 l0 l5.toNatClampNeg) < (V.1 l0 l2.toNatClampNeg) then (if sx_in l2 n1 = true then if sx_in s0 n1 = true then if (V.1 l0 l2.toNatClampNeg) < (V.1 l0 s0.toNatClampNeg) then ((sv_len 0 l1).bind (fun n9 => if sx_in l5 n9 = true then if sx_in l2 n1 = true then if sx_in l5 n1 = true then if sx_in s0 n9 = true then if sx_in l5 n9 = true then if sx_in s0 n1 = true then if sx_in l5 n1 = true then (F_X12_nearest ((((V.1 l0 l2.toNatClampNeg) - (V.1 l0 l5.toNatClampNeg)).toInt64) * (((V.1 l1 s0.toNatClampNeg) - (V.1 l1 l5.toNatClampNeg)).toInt64)) (((V.1 l0 s0.toNatClampNeg) - (V.1 l0 l5.toNatClampNeg)).toInt64) V).bind (fun (x20, V18) => if sx_in l2 n9 = true then sx_let (sv_I V18 l1 l2.toNatClampNeg ((((V.1 l1 l5.toNatClampNeg).toInt64) + x20).toInt32)) (fun V22 => some V22) else none) else none else none else none else none else none else none else none)) else (if sx_in l2 n1 = true then (sv_len 0 l1).bind (fun n24 => if sx_in s0 n24 = true then if sx_in s0 n1 = true then if sx_in l2 n24 = true then sx_let (sv_I V l1 l2.toNatClampNeg ((V.1 l0 l2.toNatClampNeg) + ((V.1 l1 s0.toNatClampNeg) - (V.1 l0 s0.toNatClampNeg)))) (fun V29 => some V29) else none else none else none) else none) else none else none) else (if sx_in l2 n1 = true then (sv_len 0 l1).bind (fun n31 => if sx_in l5 n31 = true then if sx_in l5 n1 = true then if sx_in l2 n31 = true then sx_let (sv_I V l1 l2.toNatClampNeg ((V.1 l0 l2.toNatClampNeg) + ((V.1 l1 l5.toNatClampNeg) - (V.1 l0 l5.toNatClampNeg)))) (fun V36 => some V36) else none else none else none) else none) else none else none)
set_option maxRecDepth 20000 in
theorem tB_X12_follow_30 {g : sx_G} (hG : sx_Go g) {P : Option Value → sv_V → Prop} {Vr : sv_V} (hP : P none Vr)   {l0 : Nat} {l1 : Nat} {l2 : Int32} {l5 : Int32} {s0 : Int32} {V : sv_V} (h : B_X12_follow_30  l0 l1 l2 l5 s0 V = some Vr) : sv_N g qX12_follow 2 30 [(0, .ref l0), (1, .ref l1), (2, .int l2), (5, .int l5)] [.int s0] V P := by
  unfold B_X12_follow_30 at h
  refine sx_istore (pc := 30) (lo' := [(6, .int s0), (0, .ref l0), (1, .ref l1), (2, .int l2), (5, .int l5)]) dX12_follow_30 (by decide) rfl ?_
  refine sx_aload_n (pc := 32) dX12_follow_32 sx_m1 ?_
  refine sx_iload_n (pc := 33) dX12_follow_33 sx_m3 ?_
  obtain ⟨n1, g2, h⟩ := sx_bnd h
  obtain ⟨g3, h⟩ := sx_grd h
  refine sv_iald (pc := 34) hG dX12_follow_34 (sv_len_e g2) g3 ?_
  refine sx_aload_n (pc := 35) dX12_follow_35 sx_m1 ?_
  refine sx_iload (pc := 36) dX12_follow_36 sx_m4 ?_
  obtain ⟨g4, h⟩ := sx_grd h
  refine sv_iald (pc := 38) hG dX12_follow_38 (sv_len_e g2) g4 ?_
  refine sx_icmp_gt (pc := 39) (tgt := 61) dX12_follow_39 (by decide) (fun c5 => ?_) (fun c5 => ?_)
  · have h := sx_pos c5 h
    refine sx_aload_n (pc := 61) dX12_follow_61 sx_m1 ?_
    refine sx_iload_n (pc := 62) dX12_follow_62 sx_m3 ?_
    obtain ⟨g6, h⟩ := sx_grd h
    refine sv_iald (pc := 63) hG dX12_follow_63 (sv_len_e g2) g6 ?_
    refine sx_aload_n (pc := 64) dX12_follow_64 sx_m1 ?_
    refine sx_iload (pc := 65) dX12_follow_65 sx_m0 ?_
    obtain ⟨g7, h⟩ := sx_grd h
    refine sv_iald (pc := 67) hG dX12_follow_67 (sv_len_e g2) g7 ?_
    refine sx_icmp_lt (pc := 68) (tgt := 90) dX12_follow_68 (by decide) (fun c8 => ?_) (fun c8 => ?_)
    · have h := sx_pos c8 h
      refine sx_aload_n (pc := 90) dX12_follow_90 sx_m2 ?_
      refine sx_iload_n (pc := 91) dX12_follow_91 sx_m3 ?_
      refine sx_aload_n (pc := 92) dX12_follow_92 sx_m2 ?_
      refine sx_iload (pc := 93) dX12_follow_93 sx_m4 ?_
      obtain ⟨n9, g10, h⟩ := sx_bnd h
      obtain ⟨g11, h⟩ := sx_grd h
      refine sv_iald (pc := 95) hG dX12_follow_95 (sv_len_e g10) g11 ?_
      refine sx_i2l (pc := 96) dX12_follow_96 ?_
      refine sx_aload_n (pc := 97) dX12_follow_97 sx_m1 ?_
      refine sx_iload_n (pc := 98) dX12_follow_98 sx_m3 ?_
      obtain ⟨g12, h⟩ := sx_grd h
      refine sv_iald (pc := 99) hG dX12_follow_99 (sv_len_e g2) g12 ?_
      refine sx_aload_n (pc := 100) dX12_follow_100 sx_m1 ?_
      refine sx_iload (pc := 101) dX12_follow_101 sx_m4 ?_
      obtain ⟨g13, h⟩ := sx_grd h
      refine sv_iald (pc := 103) hG dX12_follow_103 (sv_len_e g2) g13 ?_
      refine sx_isub (pc := 104) dX12_follow_104 ?_
      refine sx_i2l (pc := 105) dX12_follow_105 ?_
      refine sx_aload_n (pc := 106) dX12_follow_106 sx_m2 ?_
      refine sx_iload (pc := 107) dX12_follow_107 sx_m0 ?_
      obtain ⟨g14, h⟩ := sx_grd h
      refine sv_iald (pc := 109) hG dX12_follow_109 (sv_len_e g10) g14 ?_
      refine sx_aload_n (pc := 110) dX12_follow_110 sx_m2 ?_
      refine sx_iload (pc := 111) dX12_follow_111 sx_m4 ?_
      obtain ⟨g15, h⟩ := sx_grd h
      refine sv_iald (pc := 113) hG dX12_follow_113 (sv_len_e g10) g15 ?_
      refine sx_isub (pc := 114) dX12_follow_114 ?_
      refine sx_i2l (pc := 115) dX12_follow_115 ?_
      refine sx_lmul (pc := 116) dX12_follow_116 ?_
      refine sx_aload_n (pc := 117) dX12_follow_117 sx_m1 ?_
      refine sx_iload (pc := 118) dX12_follow_118 sx_m0 ?_
      obtain ⟨g16, h⟩ := sx_grd h
      refine sv_iald (pc := 120) hG dX12_follow_120 (sv_len_e g2) g16 ?_
      refine sx_aload_n (pc := 121) dX12_follow_121 sx_m1 ?_
      refine sx_iload (pc := 122) dX12_follow_122 sx_m4 ?_
      obtain ⟨g17, h⟩ := sx_grd h
      refine sv_iald (pc := 124) hG dX12_follow_124 (sv_len_e g2) g17 ?_
      refine sx_isub (pc := 125) dX12_follow_125 ?_
      refine sx_i2l (pc := 126) dX12_follow_126 ?_
      obtain ⟨⟨x20, V18⟩, g19, h⟩ := sx_bnd h
      refine sv_cS (pc := 127) (y := qX12_nearest) (o := (some (.long x20))) (as := [.long ((((V.1 l0 l2.toNatClampNeg) - (V.1 l0 l5.toNatClampNeg)).toInt64) * (((V.1 l1 s0.toNatClampNeg) - (V.1 l1 l5.toNatClampNeg)).toInt64)), .long (((V.1 l0 s0.toNatClampNeg) - (V.1 l0 l5.toNatClampNeg)).toInt64)]) (V1 := V18) dX12_follow_127 l_X12_194 y0X12_nearest ysX12_nearest rfl (Nat.le_of_ble_eq_true rfl) (by decide) (Nat.le_of_ble_eq_true rfl) rfl rfl rfl (t_X12_nearest hG ⟨rfl, rfl⟩ g19) ?_
      refine sx_ladd (pc := 130) dX12_follow_130 ?_
      refine sx_l2i (pc := 131) dX12_follow_131 ?_
      obtain ⟨g21, h⟩ := sx_grd h
      obtain ⟨V22, hV22⟩ : ∃ z : sv_V, z = sv_I V18 l1 l2.toNatClampNeg ((((V.1 l1 l5.toNatClampNeg).toInt64) + x20).toInt32) := ⟨_, rfl⟩
      have h := sx_letE hV22 h
      refine sv_iast (pc := 132) hG dX12_follow_132 (sv_len_e g10) g21 hV22 ?_
      exact sv_vret (pc := 133) dX12_follow_133 rfl h hP
    · have h := sx_neg c8 h
      refine sx_aload_n (pc := 71) dX12_follow_71 sx_m2 ?_
      refine sx_iload_n (pc := 72) dX12_follow_72 sx_m3 ?_
      refine sx_aload_n (pc := 73) dX12_follow_73 sx_m1 ?_
      refine sx_iload_n (pc := 74) dX12_follow_74 sx_m3 ?_
      obtain ⟨g23, h⟩ := sx_grd h
      refine sv_iald (pc := 75) hG dX12_follow_75 (sv_len_e g2) g23 ?_
      refine sx_aload_n (pc := 76) dX12_follow_76 sx_m2 ?_
      refine sx_iload (pc := 77) dX12_follow_77 sx_m0 ?_
      obtain ⟨n24, g25, h⟩ := sx_bnd h
      obtain ⟨g26, h⟩ := sx_grd h
      refine sv_iald (pc := 79) hG dX12_follow_79 (sv_len_e g25) g26 ?_
      refine sx_aload_n (pc := 80) dX12_follow_80 sx_m1 ?_
      refine sx_iload (pc := 81) dX12_follow_81 sx_m0 ?_
      obtain ⟨g27, h⟩ := sx_grd h
      refine sv_iald (pc := 83) hG dX12_follow_83 (sv_len_e g2) g27 ?_
      refine sx_isub (pc := 84) dX12_follow_84 ?_
      refine sx_iadd (pc := 85) dX12_follow_85 ?_
      obtain ⟨g28, h⟩ := sx_grd h
      obtain ⟨V29, hV29⟩ : ∃ z : sv_V, z = sv_I V l1 l2.toNatClampNeg ((V.1 l0 l2.toNatClampNeg) + ((V.1 l1 s0.toNatClampNeg) - (V.1 l0 s0.toNatClampNeg))) := ⟨_, rfl⟩
      have h := sx_letE hV29 h
      refine sv_iast (pc := 86) hG dX12_follow_86 (sv_len_e g25) g28 hV29 ?_
      refine sx_goto (pc := 87) (tgt := 133) dX12_follow_87 (by decide) ?_
      exact sv_vret (pc := 133) dX12_follow_133 rfl h hP
  · have h := sx_neg c5 h
    refine sx_aload_n (pc := 42) dX12_follow_42 sx_m2 ?_
    refine sx_iload_n (pc := 43) dX12_follow_43 sx_m3 ?_
    refine sx_aload_n (pc := 44) dX12_follow_44 sx_m1 ?_
    refine sx_iload_n (pc := 45) dX12_follow_45 sx_m3 ?_
    obtain ⟨g30, h⟩ := sx_grd h
    refine sv_iald (pc := 46) hG dX12_follow_46 (sv_len_e g2) g30 ?_
    refine sx_aload_n (pc := 47) dX12_follow_47 sx_m2 ?_
    refine sx_iload (pc := 48) dX12_follow_48 sx_m4 ?_
    obtain ⟨n31, g32, h⟩ := sx_bnd h
    obtain ⟨g33, h⟩ := sx_grd h
    refine sv_iald (pc := 50) hG dX12_follow_50 (sv_len_e g32) g33 ?_
    refine sx_aload_n (pc := 51) dX12_follow_51 sx_m1 ?_
    refine sx_iload (pc := 52) dX12_follow_52 sx_m4 ?_
    obtain ⟨g34, h⟩ := sx_grd h
    refine sv_iald (pc := 54) hG dX12_follow_54 (sv_len_e g2) g34 ?_
    refine sx_isub (pc := 55) dX12_follow_55 ?_
    refine sx_iadd (pc := 56) dX12_follow_56 ?_
    obtain ⟨g35, h⟩ := sx_grd h
    obtain ⟨V36, hV36⟩ : ∃ z : sv_V, z = sv_I V l1 l2.toNatClampNeg ((V.1 l0 l2.toNatClampNeg) + ((V.1 l1 l5.toNatClampNeg) - (V.1 l0 l5.toNatClampNeg))) := ⟨_, rfl⟩
    have h := sx_letE hV36 h
    refine sv_iast (pc := 57) hG dX12_follow_57 (sv_len_e g32) g35 hV36 ?_
    refine sx_goto (pc := 58) (tgt := 133) dX12_follow_58 (by decide) ?_
    exact sv_vret (pc := 133) dX12_follow_133 rfl h hP
def B_X12_follow_16  (l0 : Nat) (l1 : Nat) (l2 : Int32) (l3 : Int32) (l4 : Int32) (s0 : Int32) (V : sv_V) : Option sv_V := if s0 = l3 then (B_X12_follow_30  l0 l1 l2 s0 l4 V) else (B_X12_follow_30  l0 l1 l2 s0 l3 V)
set_option maxRecDepth 20000 in
theorem tB_X12_follow_16 {g : sx_G} (hG : sx_Go g) {P : Option Value → sv_V → Prop} {Vr : sv_V} (hP : P none Vr)   {l0 : Nat} {l1 : Nat} {l2 : Int32} {l3 : Int32} {l4 : Int32} {s0 : Int32} {V : sv_V} (h : B_X12_follow_16  l0 l1 l2 l3 l4 s0 V = some Vr) : sv_N g qX12_follow 2 16 [(0, .ref l0), (1, .ref l1), (2, .int l2), (3, .int l3), (4, .int l4)] [.int s0] V P := by
  unfold B_X12_follow_16 at h
  refine sx_istore (pc := 16) (lo' := [(5, .int s0), (0, .ref l0), (1, .ref l1), (2, .int l2), (3, .int l3), (4, .int l4)]) dX12_follow_16 (by decide) rfl ?_
  refine sx_iload (pc := 18) dX12_follow_18 sx_m0 ?_
  refine sx_iload_n (pc := 20) dX12_follow_20 sx_m4 ?_
  refine sx_icmp_ne (pc := 21) (tgt := 29) dX12_follow_21 (by decide) (fun c37 => ?_) (fun c37 => ?_)
  · have h := sx_neg c37 h
    refine sx_iload_n (pc := 29) dX12_follow_29 sx_m4 ?_
    refine sx_wk (sx_s1 sx_m1 (sx_s1 sx_m2 (sx_s1 sx_m3 (sx_s1 sx_m0 sx_s0)))) ?_
    exact tB_X12_follow_30 hG hP  h
  · have h := sx_pos c37 h
    refine sx_iload (pc := 24) dX12_follow_24 sx_m5 ?_
    refine sx_goto (pc := 26) (tgt := 30) dX12_follow_26 (by decide) ?_
    refine sx_wk (sx_s1 sx_m1 (sx_s1 sx_m2 (sx_s1 sx_m3 (sx_s1 sx_m0 sx_s0)))) ?_
    exact tB_X12_follow_30 hG hP  h
def F_X12_follow (l0 : Nat) (l1 : Nat) (l2 : Int32) (l3 : Int32) (l4 : Int32) (V : sv_V) : Option sv_V := (sv_len 0 l0).bind (fun n38 => if sx_in l4 n38 = true then if sx_in l3 n38 = true then if (V.1 l0 l3.toNatClampNeg) ≤ (V.1 l0 l4.toNatClampNeg) then (B_X12_follow_16  l0 l1 l2 l3 l4 l3 V) else (B_X12_follow_16  l0 l1 l2 l3 l4 l4 V) else none else none)
set_option maxRecDepth 20000 in
theorem t_X12_follow {g : sx_G} (hG : sx_Go g) {P : Option Value → sv_V → Prop} {Vr : sv_V} (hP : P none Vr) {l0 : Nat} {l1 : Nat} {l2 : Int32} {l3 : Int32} {l4 : Int32} {V : sv_V} (h : F_X12_follow l0 l1 l2 l3 l4 V = some Vr) : sv_N g qX12_follow 2 0 [(0, .ref l0), (1, .ref l1), (2, .int l2), (3, .int l3), (4, .int l4)] [] V P := by
  unfold F_X12_follow at h
  refine sx_aload_n (pc := 0) dX12_follow_0 sx_m0 ?_
  refine sx_iload (pc := 1) dX12_follow_1 sx_m4 ?_
  obtain ⟨n38, g39, h⟩ := sx_bnd h
  obtain ⟨g40, h⟩ := sx_grd h
  refine sv_iald (pc := 3) hG dX12_follow_3 (sv_len_e g39) g40 ?_
  refine sx_aload_n (pc := 4) dX12_follow_4 sx_m0 ?_
  refine sx_iload_n (pc := 5) dX12_follow_5 sx_m3 ?_
  obtain ⟨g41, h⟩ := sx_grd h
  refine sv_iald (pc := 6) hG dX12_follow_6 (sv_len_e g39) g41 ?_
  refine sx_icmp_ge (pc := 7) (tgt := 15) dX12_follow_7 (by decide) (fun c42 => ?_) (fun c42 => ?_)
  · have h := sx_pos c42 h
    refine sx_iload_n (pc := 15) dX12_follow_15 sx_m3 ?_
    refine sx_wk (sx_s1 sx_m0 (sx_s1 sx_m1 (sx_s1 sx_m2 (sx_s1 sx_m3 (sx_s1 sx_m4 sx_s0))))) ?_
    exact tB_X12_follow_16 hG hP  h
  · have h := sx_neg c42 h
    refine sx_iload (pc := 10) dX12_follow_10 sx_m4 ?_
    refine sx_goto (pc := 12) (tgt := 16) dX12_follow_12 (by decide) ?_
    refine sx_wk (sx_s1 sx_m0 (sx_s1 sx_m1 (sx_s1 sx_m2 (sx_s1 sx_m3 (sx_s1 sx_m4 sx_s0))))) ?_
    exact tB_X12_follow_16 hG hP  h
