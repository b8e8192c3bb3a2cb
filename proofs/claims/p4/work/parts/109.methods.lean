/-! methods: X12_glyphAt, X12_feed, X12_wipe, X12_font, X12_table, X12_glyphOf, X12_kern, X12_point, X12_told, X12_held, J9_floorDiv_f86c9, J9_abs_067f4, J9_max_7cf53, J9_max_f86c9, J9_min_7cf53, J9_min_f86c9, J7_fill_53178, J7_fill_031fb, X0_forgetAll, X1_renew, X2_advanceOf, X2_findInSegments, X3_readOutline, X3_partsHold, X3_readPart, X3_deepestPart, X4_shareBytes, X4_sumsHold -/
theorem dX12_glyphAt_0 : decode cX12_glyphAt 0 = .ok (.aload_n 0, 1) := by decide +kernel
theorem dX12_glyphAt_1 : decode cX12_glyphAt 1 = .ok (.iload_n 1, 1) := by decide +kernel
theorem dX12_glyphAt_2 : decode cX12_glyphAt 2 = .ok (.invokevirtual 899, 3) := by decide +kernel
theorem dX12_glyphAt_5 : decode cX12_glyphAt 5 = .ok (.lstore_n 2, 1) := by decide +kernel
theorem dX12_glyphAt_6 : decode cX12_glyphAt 6 = .ok (.lload_n 2, 1) := by decide +kernel
theorem dX12_glyphAt_7 : decode cX12_glyphAt 7 = .ok (.aload_n 0, 1) := by decide +kernel
theorem dX12_glyphAt_8 : decode cX12_glyphAt 8 = .ok (.getfield 260, 3) := by decide +kernel
theorem dX12_glyphAt_11 : decode cX12_glyphAt 11 = .ok (.i2l, 1) := by decide +kernel
theorem dX12_glyphAt_12 : decode cX12_glyphAt 12 = .ok (.lcmp, 1) := by decide +kernel
theorem dX12_glyphAt_13 : decode cX12_glyphAt 13 = .ok (.ifCond .ge 8, 3) := by decide +kernel
theorem dX12_glyphAt_16 : decode cX12_glyphAt 16 = .ok (.lload_n 2, 1) := by decide +kernel
theorem dX12_glyphAt_17 : decode cX12_glyphAt 17 = .ok (.l2i, 1) := by decide +kernel
theorem dX12_glyphAt_18 : decode cX12_glyphAt 18 = .ok (.goto 4, 3) := by decide +kernel
theorem dX12_glyphAt_21 : decode cX12_glyphAt 21 = .ok (.iconst 0, 1) := by decide +kernel
theorem dX12_glyphAt_22 : decode cX12_glyphAt 22 = .ok (.ireturn, 1) := by decide +kernel
def F_X12_glyphAt (N : Nat) (l1 : Int32) (V : sv_V) : Option (Int32 × sv_V) := (F_X12_mapped N l1 V).bind (fun (x3, V1) => if 0 ≤ (lg_cmp x3 ((V1.1 146 12).toInt64)) then (some ((0 : Int32), V1)) else (some (x3.toInt32, V1)))
set_option maxRecDepth 20000 in
theorem t_X12_glyphAt {g : sx_G} (hG : sx_Go g) {P : Option Value → sv_V → Prop} {r : Int32} {Vr : sv_V} (hP : P (some (.int r)) Vr) {N : Nat} {l1 : Int32} {V : sv_V} (h : F_X12_glyphAt N l1 V = some (r, Vr)) : sv_N g qX12_glyphAt 4 0 [(0, .ref 146), (1, .int l1)] [] V P := by
  unfold F_X12_glyphAt at h
  refine sx_aload_n (pc := 0) dX12_glyphAt_0 sx_m0 ?_
  refine sx_iload_n (pc := 1) dX12_glyphAt_1 sx_m1 ?_
  obtain ⟨⟨x3, V1⟩, g2, h⟩ := sx_bnd h
  refine sv_cV (pc := 2) (y := qX12_mapped) (o := (some (.long x3))) (as := [.int l1]) (V1 := V1) hG dX12_glyphAt_2 l_X12_899 y0X12_mapped yvX12_mapped rfl (Nat.le_of_ble_eq_true rfl) lay_146 kr_12 (by decide) (Nat.le_of_ble_eq_true rfl) rfl rfl rfl (t_X12_mapped hG ⟨rfl, rfl⟩ g2) ?_
  refine sx_lstore_n (pc := 5) (lo' := [(2, .long x3), (0, .ref 146), (1, .int l1)]) dX12_glyphAt_5 (by decide) rfl ?_
  refine sx_lload_n (pc := 6) dX12_glyphAt_6 sx_m0 ?_
  refine sx_aload_n (pc := 7) dX12_glyphAt_7 sx_m1 ?_
  refine sv_getI (pc := 8) hG dX12_glyphAt_8 f_12_260 lay_146 rfl ?_
  refine sx_i2l (pc := 11) dX12_glyphAt_11 ?_
  refine sx_lcmp (pc := 12) dX12_glyphAt_12 ?_
  refine sx_if_ge (pc := 13) (tgt := 21) dX12_glyphAt_13 (by decide) (fun c4 => ?_) (fun c4 => ?_)
  · have h := sx_pos c4 h
    refine sx_iconst (pc := 21) (v := 0) dX12_glyphAt_21 (by decide) ?_
    exact sv_iret (pc := 22) dX12_glyphAt_22 rfl h hP
  · have h := sx_neg c4 h
    refine sx_lload_n (pc := 16) dX12_glyphAt_16 sx_m0 ?_
    refine sx_l2i (pc := 17) dX12_glyphAt_17 ?_
    refine sx_goto (pc := 18) (tgt := 22) dX12_glyphAt_18 (by decide) ?_
    exact sv_iret (pc := 22) dX12_glyphAt_22 rfl h hP
theorem dX12_feed_0 : decode cX12_feed 0 = .ok (.iload_n 1, 1) := by decide +kernel
theorem dX12_feed_1 : decode cX12_feed 1 = .ok (.i2l, 1) := by decide +kernel
theorem dX12_feed_2 : decode cX12_feed 2 = .ok (.lconst 1, 1) := by decide +kernel
theorem dX12_feed_3 : decode cX12_feed 3 = .ok (.ldc2_w 380, 3) := by decide +kernel
theorem dX12_feed_6 : decode cX12_feed 6 = .ok (.invokestatic 263, 3) := by decide +kernel
theorem dX12_feed_9 : decode cX12_feed 9 = .ok (.ifCond .ne 6, 3) := by decide +kernel
theorem dX12_feed_12 : decode cX12_feed 12 = .ok (.bipush (-2), 2) := by decide +kernel
theorem dX12_feed_14 : decode cX12_feed 14 = .ok (.ireturn, 1) := by decide +kernel
theorem dX12_feed_15 : decode cX12_feed 15 = .ok (.aload_n 0, 1) := by decide +kernel
theorem dX12_feed_16 : decode cX12_feed 16 = .ok (.getfield 910, 3) := by decide +kernel
theorem dX12_feed_19 : decode cX12_feed 19 = .ok (.iload_n 1, 1) := by decide +kernel
theorem dX12_feed_20 : decode cX12_feed 20 = .ok (.iadd, 1) := by decide +kernel
theorem dX12_feed_21 : decode cX12_feed 21 = .ok (.sipush 12000, 3) := by decide +kernel
theorem dX12_feed_24 : decode cX12_feed 24 = .ok (.if_icmp .le 6, 3) := by decide +kernel
theorem dX12_feed_27 : decode cX12_feed 27 = .ok (.bipush (-4), 2) := by decide +kernel
theorem dX12_feed_29 : decode cX12_feed 29 = .ok (.ireturn, 1) := by decide +kernel
theorem dX12_feed_30 : decode cX12_feed 30 = .ok (.iload_n 1, 1) := by decide +kernel
theorem dX12_feed_31 : decode cX12_feed 31 = .ok (.iconst 1, 1) := by decide +kernel
theorem dX12_feed_32 : decode cX12_feed 32 = .ok (.isub, 1) := by decide +kernel
theorem dX12_feed_33 : decode cX12_feed 33 = .ok (.istore 4, 2) := by decide +kernel
theorem dX12_feed_35 : decode cX12_feed 35 = .ok (.iload 4, 2) := by decide +kernel
theorem dX12_feed_37 : decode cX12_feed 37 = .ok (.ifCond .lt 37, 3) := by decide +kernel
theorem dX12_feed_40 : decode cX12_feed 40 = .ok (.aload_n 0, 1) := by decide +kernel
theorem dX12_feed_41 : decode cX12_feed 41 = .ok (.getfield 7, 3) := by decide +kernel
theorem dX12_feed_44 : decode cX12_feed 44 = .ok (.aload_n 0, 1) := by decide +kernel
theorem dX12_feed_45 : decode cX12_feed 45 = .ok (.getfield 910, 3) := by decide +kernel
theorem dX12_feed_48 : decode cX12_feed 48 = .ok (.lload_n 2, 1) := by decide +kernel
theorem dX12_feed_49 : decode cX12_feed 49 = .ok (.bipush 8, 2) := by decide +kernel
theorem dX12_feed_51 : decode cX12_feed 51 = .ok (.iload 4, 2) := by decide +kernel
theorem dX12_feed_53 : decode cX12_feed 53 = .ok (.imul, 1) := by decide +kernel
theorem dX12_feed_54 : decode cX12_feed 54 = .ok (.lshr, 1) := by decide +kernel
theorem dX12_feed_55 : decode cX12_feed 55 = .ok (.l2i, 1) := by decide +kernel
theorem dX12_feed_56 : decode cX12_feed 56 = .ok (.i2b, 1) := by decide +kernel
theorem dX12_feed_57 : decode cX12_feed 57 = .ok (.bastore, 1) := by decide +kernel
theorem dX12_feed_58 : decode cX12_feed 58 = .ok (.aload_n 0, 1) := by decide +kernel
theorem dX12_feed_59 : decode cX12_feed 59 = .ok (.dup, 1) := by decide +kernel
theorem dX12_feed_60 : decode cX12_feed 60 = .ok (.getfield 910, 3) := by decide +kernel
theorem dX12_feed_63 : decode cX12_feed 63 = .ok (.iconst 1, 1) := by decide +kernel
theorem dX12_feed_64 : decode cX12_feed 64 = .ok (.iadd, 1) := by decide +kernel
theorem dX12_feed_65 : decode cX12_feed 65 = .ok (.putfield 910, 3) := by decide +kernel
theorem dX12_feed_68 : decode cX12_feed 68 = .ok (.iinc 4 (-1), 3) := by decide +kernel
theorem dX12_feed_71 : decode cX12_feed 71 = .ok (.goto (-36), 3) := by decide +kernel
theorem dX12_feed_74 : decode cX12_feed 74 = .ok (.aload_n 0, 1) := by decide +kernel
theorem dX12_feed_75 : decode cX12_feed 75 = .ok (.getfield 910, 3) := by decide +kernel
theorem dX12_feed_78 : decode cX12_feed 78 = .ok (.ireturn, 1) := by decide +kernel
def B_X12_feed_35 (N : Nat) (k35 : Int64 → Int32 → sv_V → Option (Int32 × sv_V)) (l2 : Int64) (l4 : Int32) (V : sv_V) : Option (Int32 × sv_V) := if l4 < 0 then (some (V.1 146 1, V)) else (if sx_in (V.1 146 1) 12000 = true then sx_let (sv_I V 147 (V.1 146 1).toNatClampNeg (((l2 >>> (((8 : Int32) * l4).toInt64 &&& 63)).toInt32).toInt8.toInt32).toInt8.toInt32) (fun V3 => sx_let (sv_I V3 146 1 ((V3.1 146 1) + (1 : Int32))) (fun V4 => sx_let (l4 + (-1)) (fun x5 => k35 l2 x5 V4))) else none)
set_option maxRecDepth 20000 in
theorem tB_X12_feed_35 {g : sx_G} (hG : sx_Go g) {P : Option Value → sv_V → Prop} {r : Int32} {Vr : sv_V} (hP : P (some (.int r)) Vr) {N : Nat} {k35 : Int64 → Int32 → sv_V → Option (Int32 × sv_V)} (hk35 : ∀ (l2 : Int64) (l4 : Int32) (V : sv_V), k35 l2 l4 V = some (r, Vr) → sv_N g qX12_feed 1 35 [(0, .ref 146), (2, .long l2), (4, .int l4)] [] V P) {l2 : Int64} {l4 : Int32} {V : sv_V} (h : B_X12_feed_35 N k35 l2 l4 V = some (r, Vr)) : sv_N g qX12_feed 1 35 [(0, .ref 146), (2, .long l2), (4, .int l4)] [] V P := by
  unfold B_X12_feed_35 at h
  refine sx_iload (pc := 35) dX12_feed_35 sx_m2 ?_
  refine sx_if_lt (pc := 37) (tgt := 74) dX12_feed_37 (by decide) (fun c1 => ?_) (fun c1 => ?_)
  · have h := sx_pos c1 h
    refine sx_aload_n (pc := 74) dX12_feed_74 sx_m0 ?_
    refine sv_getI (pc := 75) hG dX12_feed_75 f_12_910 lay_146 rfl ?_
    exact sv_iret (pc := 78) dX12_feed_78 rfl h hP
  · have h := sx_neg c1 h
    refine sx_aload_n (pc := 40) dX12_feed_40 sx_m0 ?_
    refine sv_getA (pc := 41) hG dX12_feed_41 f_12_7 lay_146 rfl cr_146_0 ?_
    refine sx_aload_n (pc := 44) dX12_feed_44 sx_m0 ?_
    refine sv_getI (pc := 45) hG dX12_feed_45 f_12_910 lay_146 rfl ?_
    refine sx_lload_n (pc := 48) dX12_feed_48 sx_m1 ?_
    refine sx_bipush (pc := 49) (v := 8) dX12_feed_49 (by decide) ?_
    refine sx_iload (pc := 51) dX12_feed_51 sx_m2 ?_
    refine sx_imul (pc := 53) dX12_feed_53 ?_
    refine sx_lshr (pc := 54) dX12_feed_54 ?_
    refine sx_l2i (pc := 55) dX12_feed_55 ?_
    refine sx_i2b (pc := 56) dX12_feed_56 ?_
    obtain ⟨g2, h⟩ := sx_grd h
    obtain ⟨V3, hV3⟩ : ∃ z : sv_V, z = sv_I V 147 (V.1 146 1).toNatClampNeg (((l2 >>> (((8 : Int32) * l4).toInt64 &&& 63)).toInt32).toInt8.toInt32).toInt8.toInt32 := ⟨_, rfl⟩
    have h := sx_letE hV3 h
    refine sv_bast (pc := 57) hG dX12_feed_57 lay_147 g2 hV3 ?_
    refine sx_aload_n (pc := 58) dX12_feed_58 sx_m0 ?_
    refine sx_dup (pc := 59) dX12_feed_59 rfl ?_
    refine sv_getI (pc := 60) hG dX12_feed_60 f_12_910 lay_146 rfl ?_
    refine sx_iconst (pc := 63) (v := 1) dX12_feed_63 (by decide) ?_
    refine sx_iadd (pc := 64) dX12_feed_64 ?_
    obtain ⟨V4, hV4⟩ : ∃ z : sv_V, z = sv_I V3 146 1 ((V3.1 146 1) + (1 : Int32)) := ⟨_, rfl⟩
    have h := sx_letE hV4 h
    refine sv_putI (pc := 65) hG dX12_feed_65 f_12_910 lay_146 rfl hV4 ?_
    obtain ⟨x5, hx5⟩ : ∃ z : Int32, z = l4 + (-1) := ⟨_, rfl⟩
    have h := sx_letE hx5 h
    refine sx_iinc (pc := 68) (v := x5) (lo' := [(4, .int x5), (0, .ref 146), (2, .long l2)]) dX12_feed_68 sx_m2 (by rw [hx5]; rfl) (by decide) rfl ?_
    refine sx_goto (pc := 71) (tgt := 35) dX12_feed_71 (by decide) ?_
    refine sx_wk (sx_s1 sx_m1 (sx_s1 sx_m2 (sx_s1 sx_m0 sx_s0))) ?_
    exact hk35 _ _ _ h
theorem tL_X12_feed_35 {g : sx_G} (hG : sx_Go g) {P : Option Value → sv_V → Prop} {r : Int32} {Vr : sv_V} (hP : P (some (.int r)) Vr) {N : Nat}   : ∀ (n : Nat) (l2 : Int64) (l4 : Int32) (V : sv_V), sx_lp3 (B_X12_feed_35 N ) n l2 l4 V = some (r, Vr) → sv_N g qX12_feed 1 35 [(0, .ref 146), (2, .long l2), (4, .int l4)] [] V P :=
  sx_lp3_ind (fun k0 ih _ _ V h => tB_X12_feed_35 hG hP ih h)
def F_X12_feed (N : Nat) (l1 : Int32) (l2 : Int64) (V : sv_V) : Option (Int32 × sv_V) := (F_X12_in l1.toInt64 (1 : Int64) (8 : Int64) V).bind (fun (x8, V6) => if x8 = 0 then (some ((-2 : Int32), V6)) else (if ((V6.1 146 1) + l1) ≤ (12000 : Int32) then (sx_let (l1 - (1 : Int32)) (fun x11 => sx_lp3 (B_X12_feed_35 N ) N l2 x11 V6)) else (some ((-4 : Int32), V6))))
set_option maxRecDepth 20000 in
theorem t_X12_feed {g : sx_G} (hG : sx_Go g) {P : Option Value → sv_V → Prop} {r : Int32} {Vr : sv_V} (hP : P (some (.int r)) Vr) {N : Nat} {l1 : Int32} {l2 : Int64} {V : sv_V} (h : F_X12_feed N l1 l2 V = some (r, Vr)) : sv_N g qX12_feed 1 0 [(0, .ref 146), (1, .int l1), (2, .long l2)] [] V P := by
  unfold F_X12_feed at h
  refine sx_iload_n (pc := 0) dX12_feed_0 sx_m1 ?_
  refine sx_i2l (pc := 1) dX12_feed_1 ?_
  refine sx_lconst (pc := 2) (v := 1) dX12_feed_2 rfl ?_
  refine sx_ldc2 (pc := 3) dX12_feed_3 k_X12_380 ?_
  obtain ⟨⟨x8, V6⟩, g7, h⟩ := sx_bnd h
  refine sv_cS (pc := 6) (y := qX12_in) (o := (some (.int x8))) (as := [.long l1.toInt64, .long (1 : Int64), .long (8 : Int64)]) (V1 := V6) dX12_feed_6 l_X12_263 y0X12_in ysX12_in rfl (Nat.le_of_ble_eq_true rfl) (by decide) (Nat.le_of_ble_eq_true rfl) rfl rfl rfl (t_X12_in hG ⟨rfl, rfl⟩ g7) ?_
  refine sx_if_ne (pc := 9) (tgt := 15) dX12_feed_9 (by decide) (fun c9 => ?_) (fun c9 => ?_)
  · have h := sx_neg c9 h
    refine sx_aload_n (pc := 15) dX12_feed_15 sx_m0 ?_
    refine sv_getI (pc := 16) hG dX12_feed_16 f_12_910 lay_146 rfl ?_
    refine sx_iload_n (pc := 19) dX12_feed_19 sx_m1 ?_
    refine sx_iadd (pc := 20) dX12_feed_20 ?_
    refine sx_sipush (pc := 21) (v := 12000) dX12_feed_21 (by decide) ?_
    refine sx_icmp_le (pc := 24) (tgt := 30) dX12_feed_24 (by decide) (fun c10 => ?_) (fun c10 => ?_)
    · have h := sx_pos c10 h
      refine sx_iload_n (pc := 30) dX12_feed_30 sx_m1 ?_
      refine sx_iconst (pc := 31) (v := 1) dX12_feed_31 (by decide) ?_
      refine sx_isub (pc := 32) dX12_feed_32 ?_
      refine sv_tI (fun x11 hx11 => ?_)
      have h := sx_letE hx11 h
      refine sx_istore (pc := 33) (lo' := [(4, .int x11), (0, .ref 146), (1, .int l1), (2, .long l2)]) dX12_feed_33 (by decide) rfl ?_
      refine sx_wk (sx_s1 sx_m1 (sx_s1 sx_m3 (sx_s1 sx_m0 sx_s0))) ?_
      exact tL_X12_feed_35 hG hP  N _ _ _ h
    · have h := sx_neg c10 h
      refine sx_bipush (pc := 27) (v := (-4)) dX12_feed_27 (by decide) ?_
      exact sv_iret (pc := 29) dX12_feed_29 rfl h hP
  · have h := sx_pos c9 h
    refine sx_bipush (pc := 12) (v := (-2)) dX12_feed_12 (by decide) ?_
    exact sv_iret (pc := 14) dX12_feed_14 rfl h hP
theorem dX12_wipe_0 : decode cX12_wipe 0 = .ok (.aload_n 0, 1) := by decide +kernel
theorem dX12_wipe_1 : decode cX12_wipe 1 = .ok (.getfield 910, 3) := by decide +kernel
theorem dX12_wipe_4 : decode cX12_wipe 4 = .ok (.istore_n 1, 1) := by decide +kernel
theorem dX12_wipe_5 : decode cX12_wipe 5 = .ok (.aload_n 0, 1) := by decide +kernel
theorem dX12_wipe_6 : decode cX12_wipe 6 = .ok (.iconst 0, 1) := by decide +kernel
theorem dX12_wipe_7 : decode cX12_wipe 7 = .ok (.putfield 910, 3) := by decide +kernel
theorem dX12_wipe_10 : decode cX12_wipe 10 = .ok (.iload_n 1, 1) := by decide +kernel
theorem dX12_wipe_11 : decode cX12_wipe 11 = .ok (.ireturn, 1) := by decide +kernel
def F_X12_wipe  (V : sv_V) : Option (Int32 × sv_V) := sx_let (V.1 146 1) (fun x1 => sx_let (sv_I V 146 1 (0 : Int32)) (fun V2 => some (x1, V2)))
set_option maxRecDepth 20000 in
theorem t_X12_wipe {g : sx_G} (hG : sx_Go g) {P : Option Value → sv_V → Prop} {r : Int32} {Vr : sv_V} (hP : P (some (.int r)) Vr)  {V : sv_V} (h : F_X12_wipe  V = some (r, Vr)) : sv_N g qX12_wipe 0 0 [(0, .ref 146)] [] V P := by
  unfold F_X12_wipe at h
  refine sx_aload_n (pc := 0) dX12_wipe_0 sx_m0 ?_
  refine sv_getI (pc := 1) hG dX12_wipe_1 f_12_910 lay_146 rfl ?_
  refine sv_tI (fun x1 hx1 => ?_)
  have h := sx_letE hx1 h
  refine sx_istore_n (pc := 4) (lo' := [(1, .int x1), (0, .ref 146)]) dX12_wipe_4 (by decide) rfl ?_
  refine sx_aload_n (pc := 5) dX12_wipe_5 sx_m1 ?_
  refine sx_iconst (pc := 6) (v := 0) dX12_wipe_6 (by decide) ?_
  obtain ⟨V2, hV2⟩ : ∃ z : sv_V, z = sv_I V 146 1 (0 : Int32) := ⟨_, rfl⟩
  have h := sx_letE hV2 h
  refine sv_putI (pc := 7) hG dX12_wipe_7 f_12_910 lay_146 rfl hV2 ?_
  refine sx_iload_n (pc := 10) dX12_wipe_10 sx_m0 ?_
  exact sv_iret (pc := 11) dX12_wipe_11 rfl h hP
theorem dX12_font_0 : decode cX12_font 0 = .ok (.aload_n 0, 1) := by decide +kernel
theorem dX12_font_1 : decode cX12_font 1 = .ok (.getfield 759, 3) := by decide +kernel
theorem dX12_font_4 : decode cX12_font 4 = .ok (.ifCond .ne 6, 3) := by decide +kernel
theorem dX12_font_7 : decode cX12_font 7 = .ok (.bipush (-3), 2) := by decide +kernel
theorem dX12_font_9 : decode cX12_font 9 = .ok (.ireturn, 1) := by decide +kernel
theorem dX12_font_10 : decode cX12_font 10 = .ok (.iload_n 1, 1) := by decide +kernel
theorem dX12_font_11 : decode cX12_font 11 = .ok (.tableswitch 103 0 9 #[53, 58, 63, 68, 73, 78, 83, 88, 93, 98], 53) := by decide +kernel
theorem dX12_font_64 : decode cX12_font 64 = .ok (.aload_n 0, 1) := by decide +kernel
theorem dX12_font_65 : decode cX12_font 65 = .ok (.getfield 302, 3) := by decide +kernel
theorem dX12_font_68 : decode cX12_font 68 = .ok (.ireturn, 1) := by decide +kernel
theorem dX12_font_69 : decode cX12_font 69 = .ok (.aload_n 0, 1) := by decide +kernel
theorem dX12_font_70 : decode cX12_font 70 = .ok (.getfield 260, 3) := by decide +kernel
theorem dX12_font_73 : decode cX12_font 73 = .ok (.ireturn, 1) := by decide +kernel
theorem dX12_font_74 : decode cX12_font 74 = .ok (.aload_n 0, 1) := by decide +kernel
theorem dX12_font_75 : decode cX12_font 75 = .ok (.getfield 254, 3) := by decide +kernel
theorem dX12_font_78 : decode cX12_font 78 = .ok (.ireturn, 1) := by decide +kernel
theorem dX12_font_79 : decode cX12_font 79 = .ok (.aload_n 0, 1) := by decide +kernel
theorem dX12_font_80 : decode cX12_font 80 = .ok (.getfield 271, 3) := by decide +kernel
theorem dX12_font_83 : decode cX12_font 83 = .ok (.ireturn, 1) := by decide +kernel
theorem dX12_font_84 : decode cX12_font 84 = .ok (.aload_n 0, 1) := by decide +kernel
theorem dX12_font_85 : decode cX12_font 85 = .ok (.getfield 216, 3) := by decide +kernel
theorem dX12_font_88 : decode cX12_font 88 = .ok (.ireturn, 1) := by decide +kernel
theorem dX12_font_89 : decode cX12_font 89 = .ok (.aload_n 0, 1) := by decide +kernel
theorem dX12_font_90 : decode cX12_font 90 = .ok (.getfield 387, 3) := by decide +kernel
theorem dX12_font_93 : decode cX12_font 93 = .ok (.ireturn, 1) := by decide +kernel
theorem dX12_font_94 : decode cX12_font 94 = .ok (.aload_n 0, 1) := by decide +kernel
theorem dX12_font_95 : decode cX12_font 95 = .ok (.getfield 405, 3) := by decide +kernel
theorem dX12_font_98 : decode cX12_font 98 = .ok (.ireturn, 1) := by decide +kernel
theorem dX12_font_99 : decode cX12_font 99 = .ok (.aload_n 0, 1) := by decide +kernel
theorem dX12_font_100 : decode cX12_font 100 = .ok (.getfield 294, 3) := by decide +kernel
theorem dX12_font_103 : decode cX12_font 103 = .ok (.ireturn, 1) := by decide +kernel
theorem dX12_font_104 : decode cX12_font 104 = .ok (.aload_n 0, 1) := by decide +kernel
theorem dX12_font_105 : decode cX12_font 105 = .ok (.getfield 399, 3) := by decide +kernel
theorem dX12_font_108 : decode cX12_font 108 = .ok (.ireturn, 1) := by decide +kernel
theorem dX12_font_109 : decode cX12_font 109 = .ok (.aload_n 0, 1) := by decide +kernel
theorem dX12_font_110 : decode cX12_font 110 = .ok (.getfield 206, 3) := by decide +kernel
theorem dX12_font_113 : decode cX12_font 113 = .ok (.ireturn, 1) := by decide +kernel
theorem dX12_font_114 : decode cX12_font 114 = .ok (.bipush (-2), 2) := by decide +kernel
theorem dX12_font_116 : decode cX12_font 116 = .ok (.ireturn, 1) := by decide +kernel
def F_X12_font (l1 : Int32) (V : sv_V) : Option (Int32 × sv_V) := if (V.1 146 4) = 0 then (some ((-3 : Int32), V)) else (if l1 = 0 then (some (V.1 146 10, V)) else (if l1 = 1 then (some (V.1 146 12, V)) else (if l1 = 2 then (some (V.1 146 20, V)) else (if l1 = 3 then (some (V.1 146 11, V)) else (if l1 = 4 then (some (V.1 146 5, V)) else (if l1 = 5 then (some (V.1 146 22, V)) else (if l1 = 6 then (some (V.1 146 24, V)) else (if l1 = 7 then (some (V.1 146 25, V)) else (if l1 = 8 then (some (V.1 146 23, V)) else (if l1 = 9 then (some (V.1 146 3, V)) else (some ((-2 : Int32), V))))))))))))
set_option maxRecDepth 20000 in
theorem t_X12_font {g : sx_G} (hG : sx_Go g) {P : Option Value → sv_V → Prop} {r : Int32} {Vr : sv_V} (hP : P (some (.int r)) Vr) {l1 : Int32} {V : sv_V} (h : F_X12_font l1 V = some (r, Vr)) : sv_N g qX12_font 0 0 [(0, .ref 146), (1, .int l1)] [] V P := by
  unfold F_X12_font at h
  refine sx_aload_n (pc := 0) dX12_font_0 sx_m0 ?_
  refine sv_getZ (pc := 1) hG dX12_font_1 f_12_759 lay_146 rfl ?_
  refine sx_if_ne (pc := 4) (tgt := 10) dX12_font_4 (by decide) (fun c1 => ?_) (fun c1 => ?_)
  · have h := sx_neg c1 h
    refine sx_iload_n (pc := 10) dX12_font_10 sx_m1 ?_
    by_cases c2 : l1 = 0
    · have h := sx_pos c2 h
      refine sx_tabI (pc := 11) (off := 53) (tgt := 64) dX12_font_11 (by rw [c2]; decide) (by rw [c2]; decide) (by rw [c2]; rfl) (by decide) ?_
      refine sx_aload_n (pc := 64) dX12_font_64 sx_m0 ?_
      refine sv_getI (pc := 65) hG dX12_font_65 f_12_302 lay_146 rfl ?_
      exact sv_iret (pc := 68) dX12_font_68 rfl h hP
    have h := sx_neg c2 h
    by_cases c3 : l1 = 1
    · have h := sx_pos c3 h
      refine sx_tabI (pc := 11) (off := 58) (tgt := 69) dX12_font_11 (by rw [c3]; decide) (by rw [c3]; decide) (by rw [c3]; rfl) (by decide) ?_
      refine sx_aload_n (pc := 69) dX12_font_69 sx_m0 ?_
      refine sv_getI (pc := 70) hG dX12_font_70 f_12_260 lay_146 rfl ?_
      exact sv_iret (pc := 73) dX12_font_73 rfl h hP
    have h := sx_neg c3 h
    by_cases c4 : l1 = 2
    · have h := sx_pos c4 h
      refine sx_tabI (pc := 11) (off := 63) (tgt := 74) dX12_font_11 (by rw [c4]; decide) (by rw [c4]; decide) (by rw [c4]; rfl) (by decide) ?_
      refine sx_aload_n (pc := 74) dX12_font_74 sx_m0 ?_
      refine sv_getI (pc := 75) hG dX12_font_75 f_12_254 lay_146 rfl ?_
      exact sv_iret (pc := 78) dX12_font_78 rfl h hP
    have h := sx_neg c4 h
    by_cases c5 : l1 = 3
    · have h := sx_pos c5 h
      refine sx_tabI (pc := 11) (off := 68) (tgt := 79) dX12_font_11 (by rw [c5]; decide) (by rw [c5]; decide) (by rw [c5]; rfl) (by decide) ?_
      refine sx_aload_n (pc := 79) dX12_font_79 sx_m0 ?_
      refine sv_getI (pc := 80) hG dX12_font_80 f_12_271 lay_146 rfl ?_
      exact sv_iret (pc := 83) dX12_font_83 rfl h hP
    have h := sx_neg c5 h
    by_cases c6 : l1 = 4
    · have h := sx_pos c6 h
      refine sx_tabI (pc := 11) (off := 73) (tgt := 84) dX12_font_11 (by rw [c6]; decide) (by rw [c6]; decide) (by rw [c6]; rfl) (by decide) ?_
      refine sx_aload_n (pc := 84) dX12_font_84 sx_m0 ?_
      refine sv_getI (pc := 85) hG dX12_font_85 f_12_216 lay_146 rfl ?_
      exact sv_iret (pc := 88) dX12_font_88 rfl h hP
    have h := sx_neg c6 h
    by_cases c7 : l1 = 5
    · have h := sx_pos c7 h
      refine sx_tabI (pc := 11) (off := 78) (tgt := 89) dX12_font_11 (by rw [c7]; decide) (by rw [c7]; decide) (by rw [c7]; rfl) (by decide) ?_
      refine sx_aload_n (pc := 89) dX12_font_89 sx_m0 ?_
      refine sv_getI (pc := 90) hG dX12_font_90 f_12_387 lay_146 rfl ?_
      exact sv_iret (pc := 93) dX12_font_93 rfl h hP
    have h := sx_neg c7 h
    by_cases c8 : l1 = 6
    · have h := sx_pos c8 h
      refine sx_tabI (pc := 11) (off := 83) (tgt := 94) dX12_font_11 (by rw [c8]; decide) (by rw [c8]; decide) (by rw [c8]; rfl) (by decide) ?_
      refine sx_aload_n (pc := 94) dX12_font_94 sx_m0 ?_
      refine sv_getI (pc := 95) hG dX12_font_95 f_12_405 lay_146 rfl ?_
      exact sv_iret (pc := 98) dX12_font_98 rfl h hP
    have h := sx_neg c8 h
    by_cases c9 : l1 = 7
    · have h := sx_pos c9 h
      refine sx_tabI (pc := 11) (off := 88) (tgt := 99) dX12_font_11 (by rw [c9]; decide) (by rw [c9]; decide) (by rw [c9]; rfl) (by decide) ?_
      refine sx_aload_n (pc := 99) dX12_font_99 sx_m0 ?_
      refine sv_getI (pc := 100) hG dX12_font_100 f_12_294 lay_146 rfl ?_
      exact sv_iret (pc := 103) dX12_font_103 rfl h hP
    have h := sx_neg c9 h
    by_cases c10 : l1 = 8
    · have h := sx_pos c10 h
      refine sx_tabI (pc := 11) (off := 93) (tgt := 104) dX12_font_11 (by rw [c10]; decide) (by rw [c10]; decide) (by rw [c10]; rfl) (by decide) ?_
      refine sx_aload_n (pc := 104) dX12_font_104 sx_m0 ?_
      refine sv_getI (pc := 105) hG dX12_font_105 f_12_399 lay_146 rfl ?_
      exact sv_iret (pc := 108) dX12_font_108 rfl h hP
    have h := sx_neg c10 h
    by_cases c11 : l1 = 9
    · have h := sx_pos c11 h
      refine sx_tabI (pc := 11) (off := 98) (tgt := 109) dX12_font_11 (by rw [c11]; decide) (by rw [c11]; decide) (by rw [c11]; rfl) (by decide) ?_
      refine sx_aload_n (pc := 109) dX12_font_109 sx_m0 ?_
      refine sv_getI (pc := 110) hG dX12_font_110 f_12_206 lay_146 rfl ?_
      exact sv_iret (pc := 113) dX12_font_113 rfl h hP
    have h := sx_neg c11 h
    refine sx_tabO (pc := 11) (tgt := 114) dX12_font_11 (by have ec2 := lv_neT (a := 0) c2 rfl; have ec3 := lv_neT (a := 1) c3 rfl; have ec4 := lv_neT (a := 2) c4 rfl; have ec5 := lv_neT (a := 3) c5 rfl; have ec6 := lv_neT (a := 4) c6 rfl; have ec7 := lv_neT (a := 5) c7 rfl; have ec8 := lv_neT (a := 6) c8 rfl; have ec9 := lv_neT (a := 7) c9 rfl; have ec10 := lv_neT (a := 8) c10 rfl; have ec11 := lv_neT (a := 9) c11 rfl; omega) (by decide) ?_
    refine sx_bipush (pc := 114) (v := (-2)) dX12_font_114 (by decide) ?_
    exact sv_iret (pc := 116) dX12_font_116 rfl h hP
  · have h := sx_pos c1 h
    refine sx_bipush (pc := 7) (v := (-3)) dX12_font_7 (by decide) ?_
    exact sv_iret (pc := 9) dX12_font_9 rfl h hP
theorem dX12_table_0 : decode cX12_table 0 = .ok (.aload_n 0, 1) := by decide +kernel
theorem dX12_table_1 : decode cX12_table 1 = .ok (.getfield 759, 3) := by decide +kernel
theorem dX12_table_4 : decode cX12_table 4 = .ok (.ifCond .ne 7, 3) := by decide +kernel
theorem dX12_table_7 : decode cX12_table 7 = .ok (.ldc2_w 916, 3) := by decide +kernel
theorem dX12_table_10 : decode cX12_table 10 = .ok (.lreturn, 1) := by decide +kernel
theorem dX12_table_11 : decode cX12_table 11 = .ok (.iload_n 1, 1) := by decide +kernel
theorem dX12_table_12 : decode cX12_table 12 = .ok (.i2l, 1) := by decide +kernel
theorem dX12_table_13 : decode cX12_table 13 = .ok (.lconst 0, 1) := by decide +kernel
theorem dX12_table_14 : decode cX12_table 14 = .ok (.aload_n 0, 1) := by decide +kernel
theorem dX12_table_15 : decode cX12_table 15 = .ok (.getfield 216, 3) := by decide +kernel
theorem dX12_table_18 : decode cX12_table 18 = .ok (.iconst 1, 1) := by decide +kernel
theorem dX12_table_19 : decode cX12_table 19 = .ok (.isub, 1) := by decide +kernel
theorem dX12_table_20 : decode cX12_table 20 = .ok (.i2l, 1) := by decide +kernel
theorem dX12_table_21 : decode cX12_table 21 = .ok (.invokestatic 263, 3) := by decide +kernel
theorem dX12_table_24 : decode cX12_table 24 = .ok (.ifCond .ne 7, 3) := by decide +kernel
theorem dX12_table_27 : decode cX12_table 27 = .ok (.ldc2_w 918, 3) := by decide +kernel
theorem dX12_table_30 : decode cX12_table 30 = .ok (.lreturn, 1) := by decide +kernel
theorem dX12_table_31 : decode cX12_table 31 = .ok (.iload_n 2, 1) := by decide +kernel
theorem dX12_table_32 : decode cX12_table 32 = .ok (.ifCond .ne 17, 3) := by decide +kernel
theorem dX12_table_35 : decode cX12_table 35 = .ok (.aload_n 0, 1) := by decide +kernel
theorem dX12_table_36 : decode cX12_table 36 = .ok (.getfield 16, 3) := by decide +kernel
theorem dX12_table_39 : decode cX12_table 39 = .ok (.iload_n 1, 1) := by decide +kernel
theorem dX12_table_40 : decode cX12_table 40 = .ok (.iaload, 1) := by decide +kernel
theorem dX12_table_41 : decode cX12_table 41 = .ok (.i2l, 1) := by decide +kernel
theorem dX12_table_42 : decode cX12_table 42 = .ok (.ldc2_w 226, 3) := by decide +kernel
theorem dX12_table_45 : decode cX12_table 45 = .ok (.land, 1) := by decide +kernel
theorem dX12_table_46 : decode cX12_table 46 = .ok (.goto 48, 3) := by decide +kernel
theorem dX12_table_49 : decode cX12_table 49 = .ok (.iload_n 2, 1) := by decide +kernel
theorem dX12_table_50 : decode cX12_table 50 = .ok (.iconst 1, 1) := by decide +kernel
theorem dX12_table_51 : decode cX12_table 51 = .ok (.if_icmp .ne 12, 3) := by decide +kernel
theorem dX12_table_54 : decode cX12_table 54 = .ok (.aload_n 0, 1) := by decide +kernel
theorem dX12_table_55 : decode cX12_table 55 = .ok (.getfield 20, 3) := by decide +kernel
theorem dX12_table_58 : decode cX12_table 58 = .ok (.iload_n 1, 1) := by decide +kernel
theorem dX12_table_59 : decode cX12_table 59 = .ok (.laload, 1) := by decide +kernel
theorem dX12_table_60 : decode cX12_table 60 = .ok (.goto 34, 3) := by decide +kernel
theorem dX12_table_63 : decode cX12_table 63 = .ok (.iload_n 2, 1) := by decide +kernel
theorem dX12_table_64 : decode cX12_table 64 = .ok (.iconst 2, 1) := by decide +kernel
theorem dX12_table_65 : decode cX12_table 65 = .ok (.if_icmp .ne 12, 3) := by decide +kernel
theorem dX12_table_68 : decode cX12_table 68 = .ok (.aload_n 0, 1) := by decide +kernel
theorem dX12_table_69 : decode cX12_table 69 = .ok (.getfield 24, 3) := by decide +kernel
theorem dX12_table_72 : decode cX12_table 72 = .ok (.iload_n 1, 1) := by decide +kernel
theorem dX12_table_73 : decode cX12_table 73 = .ok (.laload, 1) := by decide +kernel
theorem dX12_table_74 : decode cX12_table 74 = .ok (.goto 20, 3) := by decide +kernel
theorem dX12_table_77 : decode cX12_table 77 = .ok (.iload_n 2, 1) := by decide +kernel
theorem dX12_table_78 : decode cX12_table 78 = .ok (.iconst 3, 1) := by decide +kernel
theorem dX12_table_79 : decode cX12_table 79 = .ok (.if_icmp .ne 12, 3) := by decide +kernel
theorem dX12_table_82 : decode cX12_table 82 = .ok (.aload_n 0, 1) := by decide +kernel
theorem dX12_table_83 : decode cX12_table 83 = .ok (.getfield 27, 3) := by decide +kernel
theorem dX12_table_86 : decode cX12_table 86 = .ok (.iload_n 1, 1) := by decide +kernel
theorem dX12_table_87 : decode cX12_table 87 = .ok (.laload, 1) := by decide +kernel
theorem dX12_table_88 : decode cX12_table 88 = .ok (.goto 6, 3) := by decide +kernel
theorem dX12_table_91 : decode cX12_table 91 = .ok (.ldc2_w 920, 3) := by decide +kernel
theorem dX12_table_94 : decode cX12_table 94 = .ok (.lreturn, 1) := by decide +kernel
def F_X12_table (l1 : Int32) (l2 : Int32) (V : sv_V) : Option (Int64 × sv_V) := if (V.1 146 4) = 0 then (some ((-3 : Int64), V)) else ((F_X12_in l1.toInt64 (0 : Int64) (((V.1 146 5) - (1 : Int32)).toInt64) V).bind (fun (x4, V2) => if x4 = 0 then (some ((-1 : Int64), V2)) else (if l2 = 0 then (if sx_in l1 16 = true then some (((V2.1 149 l1.toNatClampNeg).toInt64) &&& (4294967295 : Int64), V2) else none) else (if l2 = (1 : Int32) then (if sx_in l1 16 = true then some (V2.2.1 150 l1.toNatClampNeg, V2) else none) else (if l2 = (2 : Int32) then (if sx_in l1 16 = true then some (V2.2.1 151 l1.toNatClampNeg, V2) else none) else (if l2 = (3 : Int32) then (if sx_in l1 16 = true then some (V2.2.1 152 l1.toNatClampNeg, V2) else none) else (some ((-2 : Int64), V2))))))))
set_option maxRecDepth 20000 in
theorem t_X12_table {g : sx_G} (hG : sx_Go g) {P : Option Value → sv_V → Prop} {r : Int64} {Vr : sv_V} (hP : P (some (.long r)) Vr) {l1 : Int32} {l2 : Int32} {V : sv_V} (h : F_X12_table l1 l2 V = some (r, Vr)) : sv_N g qX12_table 1 0 [(0, .ref 146), (1, .int l1), (2, .int l2)] [] V P := by
  unfold F_X12_table at h
  refine sx_aload_n (pc := 0) dX12_table_0 sx_m0 ?_
  refine sv_getZ (pc := 1) hG dX12_table_1 f_12_759 lay_146 rfl ?_
  refine sx_if_ne (pc := 4) (tgt := 11) dX12_table_4 (by decide) (fun c1 => ?_) (fun c1 => ?_)
  · have h := sx_neg c1 h
    refine sx_iload_n (pc := 11) dX12_table_11 sx_m1 ?_
    refine sx_i2l (pc := 12) dX12_table_12 ?_
    refine sx_lconst (pc := 13) (v := 0) dX12_table_13 rfl ?_
    refine sx_aload_n (pc := 14) dX12_table_14 sx_m0 ?_
    refine sv_getI (pc := 15) hG dX12_table_15 f_12_216 lay_146 rfl ?_
    refine sx_iconst (pc := 18) (v := 1) dX12_table_18 (by decide) ?_
    refine sx_isub (pc := 19) dX12_table_19 ?_
    refine sx_i2l (pc := 20) dX12_table_20 ?_
    obtain ⟨⟨x4, V2⟩, g3, h⟩ := sx_bnd h
    refine sv_cS (pc := 21) (y := qX12_in) (o := (some (.int x4))) (as := [.long l1.toInt64, .long (0 : Int64), .long (((V.1 146 5) - (1 : Int32)).toInt64)]) (V1 := V2) dX12_table_21 l_X12_263 y0X12_in ysX12_in rfl (Nat.le_of_ble_eq_true rfl) (by decide) (Nat.le_of_ble_eq_true rfl) rfl rfl rfl (t_X12_in hG ⟨rfl, rfl⟩ g3) ?_
    refine sx_if_ne (pc := 24) (tgt := 31) dX12_table_24 (by decide) (fun c5 => ?_) (fun c5 => ?_)
    · have h := sx_neg c5 h
      refine sx_iload_n (pc := 31) dX12_table_31 sx_m2 ?_
      refine sx_if_ne (pc := 32) (tgt := 49) dX12_table_32 (by decide) (fun c6 => ?_) (fun c6 => ?_)
      · have h := sx_neg c6 h
        refine sx_iload_n (pc := 49) dX12_table_49 sx_m2 ?_
        refine sx_iconst (pc := 50) (v := 1) dX12_table_50 (by decide) ?_
        refine sx_icmp_ne (pc := 51) (tgt := 63) dX12_table_51 (by decide) (fun c7 => ?_) (fun c7 => ?_)
        · have h := sx_neg c7 h
          refine sx_iload_n (pc := 63) dX12_table_63 sx_m2 ?_
          refine sx_iconst (pc := 64) (v := 2) dX12_table_64 (by decide) ?_
          refine sx_icmp_ne (pc := 65) (tgt := 77) dX12_table_65 (by decide) (fun c8 => ?_) (fun c8 => ?_)
          · have h := sx_neg c8 h
            refine sx_iload_n (pc := 77) dX12_table_77 sx_m2 ?_
            refine sx_iconst (pc := 78) (v := 3) dX12_table_78 (by decide) ?_
            refine sx_icmp_ne (pc := 79) (tgt := 91) dX12_table_79 (by decide) (fun c9 => ?_) (fun c9 => ?_)
            · have h := sx_neg c9 h
              refine sx_ldc2 (pc := 91) dX12_table_91 k_X12_920 ?_
              exact sv_lret (pc := 94) dX12_table_94 rfl h hP
            · have h := sx_pos c9 h
              refine sx_aload_n (pc := 82) dX12_table_82 sx_m0 ?_
              refine sv_getA (pc := 83) hG dX12_table_83 f_12_27 lay_146 rfl cr_146_9 ?_
              refine sx_iload_n (pc := 86) dX12_table_86 sx_m1 ?_
              obtain ⟨g10, h⟩ := sx_grd h
              refine sv_lald (pc := 87) hG dX12_table_87 lay_152 g10 ?_
              refine sx_goto (pc := 88) (tgt := 94) dX12_table_88 (by decide) ?_
              exact sv_lret (pc := 94) dX12_table_94 rfl h hP
          · have h := sx_pos c8 h
            refine sx_aload_n (pc := 68) dX12_table_68 sx_m0 ?_
            refine sv_getA (pc := 69) hG dX12_table_69 f_12_24 lay_146 rfl cr_146_8 ?_
            refine sx_iload_n (pc := 72) dX12_table_72 sx_m1 ?_
            obtain ⟨g11, h⟩ := sx_grd h
            refine sv_lald (pc := 73) hG dX12_table_73 lay_151 g11 ?_
            refine sx_goto (pc := 74) (tgt := 94) dX12_table_74 (by decide) ?_
            exact sv_lret (pc := 94) dX12_table_94 rfl h hP
        · have h := sx_pos c7 h
          refine sx_aload_n (pc := 54) dX12_table_54 sx_m0 ?_
          refine sv_getA (pc := 55) hG dX12_table_55 f_12_20 lay_146 rfl cr_146_7 ?_
          refine sx_iload_n (pc := 58) dX12_table_58 sx_m1 ?_
          obtain ⟨g12, h⟩ := sx_grd h
          refine sv_lald (pc := 59) hG dX12_table_59 lay_150 g12 ?_
          refine sx_goto (pc := 60) (tgt := 94) dX12_table_60 (by decide) ?_
          exact sv_lret (pc := 94) dX12_table_94 rfl h hP
      · have h := sx_pos c6 h
        refine sx_aload_n (pc := 35) dX12_table_35 sx_m0 ?_
        refine sv_getA (pc := 36) hG dX12_table_36 f_12_16 lay_146 rfl cr_146_6 ?_
        refine sx_iload_n (pc := 39) dX12_table_39 sx_m1 ?_
        obtain ⟨g13, h⟩ := sx_grd h
        refine sv_iald (pc := 40) hG dX12_table_40 lay_149 g13 ?_
        refine sx_i2l (pc := 41) dX12_table_41 ?_
        refine sx_ldc2 (pc := 42) dX12_table_42 k_X12_226 ?_
        refine sx_land (pc := 45) dX12_table_45 ?_
        refine sx_goto (pc := 46) (tgt := 94) dX12_table_46 (by decide) ?_
        exact sv_lret (pc := 94) dX12_table_94 rfl h hP
    · have h := sx_pos c5 h
      refine sx_ldc2 (pc := 27) dX12_table_27 k_X12_918 ?_
      exact sv_lret (pc := 30) dX12_table_30 rfl h hP
  · have h := sx_pos c1 h
    refine sx_ldc2 (pc := 7) dX12_table_7 k_X12_916 ?_
    exact sv_lret (pc := 10) dX12_table_10 rfl h hP
theorem dX12_glyphOf_0 : decode cX12_glyphOf 0 = .ok (.aload_n 0, 1) := by decide +kernel
theorem dX12_glyphOf_1 : decode cX12_glyphOf 1 = .ok (.getfield 759, 3) := by decide +kernel
theorem dX12_glyphOf_4 : decode cX12_glyphOf 4 = .ok (.ifCond .ne 6, 3) := by decide +kernel
theorem dX12_glyphOf_7 : decode cX12_glyphOf 7 = .ok (.bipush (-3), 2) := by decide +kernel
theorem dX12_glyphOf_9 : decode cX12_glyphOf 9 = .ok (.ireturn, 1) := by decide +kernel
theorem dX12_glyphOf_10 : decode cX12_glyphOf 10 = .ok (.iload_n 1, 1) := by decide +kernel
theorem dX12_glyphOf_11 : decode cX12_glyphOf 11 = .ok (.i2l, 1) := by decide +kernel
theorem dX12_glyphOf_12 : decode cX12_glyphOf 12 = .ok (.lconst 0, 1) := by decide +kernel
theorem dX12_glyphOf_13 : decode cX12_glyphOf 13 = .ok (.ldc2_w 894, 3) := by decide +kernel
theorem dX12_glyphOf_16 : decode cX12_glyphOf 16 = .ok (.invokestatic 263, 3) := by decide +kernel
theorem dX12_glyphOf_19 : decode cX12_glyphOf 19 = .ok (.ifCond .eq 11, 3) := by decide +kernel
theorem dX12_glyphOf_22 : decode cX12_glyphOf 22 = .ok (.aload_n 0, 1) := by decide +kernel
theorem dX12_glyphOf_23 : decode cX12_glyphOf 23 = .ok (.iload_n 1, 1) := by decide +kernel
theorem dX12_glyphOf_24 : decode cX12_glyphOf 24 = .ok (.invokevirtual 902, 3) := by decide +kernel
theorem dX12_glyphOf_27 : decode cX12_glyphOf 27 = .ok (.goto 5, 3) := by decide +kernel
theorem dX12_glyphOf_30 : decode cX12_glyphOf 30 = .ok (.bipush (-2), 2) := by decide +kernel
theorem dX12_glyphOf_32 : decode cX12_glyphOf 32 = .ok (.ireturn, 1) := by decide +kernel
def F_X12_glyphOf (N : Nat) (l1 : Int32) (V : sv_V) : Option (Int32 × sv_V) := if (V.1 146 4) = 0 then (some ((-3 : Int32), V)) else ((F_X12_in l1.toInt64 (0 : Int64) (1114111 : Int64) V).bind (fun (x4, V2) => if x4 = 0 then (some ((-2 : Int32), V2)) else ((F_X12_glyphAt N l1 V2).bind (fun (x8, V6) => some (x8, V6)))))
set_option maxRecDepth 20000 in
theorem t_X12_glyphOf {g : sx_G} (hG : sx_Go g) {P : Option Value → sv_V → Prop} {r : Int32} {Vr : sv_V} (hP : P (some (.int r)) Vr) {N : Nat} {l1 : Int32} {V : sv_V} (h : F_X12_glyphOf N l1 V = some (r, Vr)) : sv_N g qX12_glyphOf 5 0 [(0, .ref 146), (1, .int l1)] [] V P := by
  unfold F_X12_glyphOf at h
  refine sx_aload_n (pc := 0) dX12_glyphOf_0 sx_m0 ?_
  refine sv_getZ (pc := 1) hG dX12_glyphOf_1 f_12_759 lay_146 rfl ?_
  refine sx_if_ne (pc := 4) (tgt := 10) dX12_glyphOf_4 (by decide) (fun c1 => ?_) (fun c1 => ?_)
  · have h := sx_neg c1 h
    refine sx_iload_n (pc := 10) dX12_glyphOf_10 sx_m1 ?_
    refine sx_i2l (pc := 11) dX12_glyphOf_11 ?_
    refine sx_lconst (pc := 12) (v := 0) dX12_glyphOf_12 rfl ?_
    refine sx_ldc2 (pc := 13) dX12_glyphOf_13 k_X12_894 ?_
    obtain ⟨⟨x4, V2⟩, g3, h⟩ := sx_bnd h
    refine sv_cS (pc := 16) (y := qX12_in) (o := (some (.int x4))) (as := [.long l1.toInt64, .long (0 : Int64), .long (1114111 : Int64)]) (V1 := V2) dX12_glyphOf_16 l_X12_263 y0X12_in ysX12_in rfl (Nat.le_of_ble_eq_true rfl) (by decide) (Nat.le_of_ble_eq_true rfl) rfl rfl rfl (t_X12_in hG ⟨rfl, rfl⟩ g3) ?_
    refine sx_if_eq (pc := 19) (tgt := 30) dX12_glyphOf_19 (by decide) (fun c5 => ?_) (fun c5 => ?_)
    · have h := sx_pos c5 h
      refine sx_bipush (pc := 30) (v := (-2)) dX12_glyphOf_30 (by decide) ?_
      exact sv_iret (pc := 32) dX12_glyphOf_32 rfl h hP
    · have h := sx_neg c5 h
      refine sx_aload_n (pc := 22) dX12_glyphOf_22 sx_m0 ?_
      refine sx_iload_n (pc := 23) dX12_glyphOf_23 sx_m1 ?_
      obtain ⟨⟨x8, V6⟩, g7, h⟩ := sx_bnd h
      refine sv_cV (pc := 24) (y := qX12_glyphAt) (o := (some (.int x8))) (as := [.int l1]) (V1 := V6) hG dX12_glyphOf_24 l_X12_902 y0X12_glyphAt yvX12_glyphAt rfl (Nat.le_of_ble_eq_true rfl) lay_146 kr_12 (by decide) (Nat.le_of_ble_eq_true rfl) rfl rfl rfl (t_X12_glyphAt hG ⟨rfl, rfl⟩ g7) ?_
      refine sx_goto (pc := 27) (tgt := 32) dX12_glyphOf_27 (by decide) ?_
      exact sv_iret (pc := 32) dX12_glyphOf_32 rfl h hP
  · have h := sx_pos c1 h
    refine sx_bipush (pc := 7) (v := (-3)) dX12_glyphOf_7 (by decide) ?_
    exact sv_iret (pc := 9) dX12_glyphOf_9 rfl h hP
theorem dX12_kern_0 : decode cX12_kern 0 = .ok (.aload_n 0, 1) := by decide +kernel
theorem dX12_kern_1 : decode cX12_kern 1 = .ok (.getfield 759, 3) := by decide +kernel
theorem dX12_kern_4 : decode cX12_kern 4 = .ok (.ifCond .ne 6, 3) := by decide +kernel
theorem dX12_kern_7 : decode cX12_kern 7 = .ok (.bipush (-3), 2) := by decide +kernel
theorem dX12_kern_9 : decode cX12_kern 9 = .ok (.ireturn, 1) := by decide +kernel
theorem dX12_kern_10 : decode cX12_kern 10 = .ok (.iload_n 1, 1) := by decide +kernel
theorem dX12_kern_11 : decode cX12_kern 11 = .ok (.i2l, 1) := by decide +kernel
theorem dX12_kern_12 : decode cX12_kern 12 = .ok (.lconst 0, 1) := by decide +kernel
theorem dX12_kern_13 : decode cX12_kern 13 = .ok (.aload_n 0, 1) := by decide +kernel
theorem dX12_kern_14 : decode cX12_kern 14 = .ok (.getfield 260, 3) := by decide +kernel
theorem dX12_kern_17 : decode cX12_kern 17 = .ok (.iconst 1, 1) := by decide +kernel
theorem dX12_kern_18 : decode cX12_kern 18 = .ok (.isub, 1) := by decide +kernel
theorem dX12_kern_19 : decode cX12_kern 19 = .ok (.i2l, 1) := by decide +kernel
theorem dX12_kern_20 : decode cX12_kern 20 = .ok (.invokestatic 263, 3) := by decide +kernel
theorem dX12_kern_23 : decode cX12_kern 23 = .ok (.ifCond .eq 28, 3) := by decide +kernel
theorem dX12_kern_26 : decode cX12_kern 26 = .ok (.iload_n 2, 1) := by decide +kernel
theorem dX12_kern_27 : decode cX12_kern 27 = .ok (.i2l, 1) := by decide +kernel
theorem dX12_kern_28 : decode cX12_kern 28 = .ok (.lconst 0, 1) := by decide +kernel
theorem dX12_kern_29 : decode cX12_kern 29 = .ok (.aload_n 0, 1) := by decide +kernel
theorem dX12_kern_30 : decode cX12_kern 30 = .ok (.getfield 260, 3) := by decide +kernel
theorem dX12_kern_33 : decode cX12_kern 33 = .ok (.iconst 1, 1) := by decide +kernel
theorem dX12_kern_34 : decode cX12_kern 34 = .ok (.isub, 1) := by decide +kernel
theorem dX12_kern_35 : decode cX12_kern 35 = .ok (.i2l, 1) := by decide +kernel
theorem dX12_kern_36 : decode cX12_kern 36 = .ok (.invokestatic 263, 3) := by decide +kernel
theorem dX12_kern_39 : decode cX12_kern 39 = .ok (.ifCond .eq 12, 3) := by decide +kernel
theorem dX12_kern_42 : decode cX12_kern 42 = .ok (.aload_n 0, 1) := by decide +kernel
theorem dX12_kern_43 : decode cX12_kern 43 = .ok (.iload_n 1, 1) := by decide +kernel
theorem dX12_kern_44 : decode cX12_kern 44 = .ok (.iload_n 2, 1) := by decide +kernel
theorem dX12_kern_45 : decode cX12_kern 45 = .ok (.invokevirtual 905, 3) := by decide +kernel
theorem dX12_kern_48 : decode cX12_kern 48 = .ok (.goto 4, 3) := by decide +kernel
theorem dX12_kern_51 : decode cX12_kern 51 = .ok (.iconst (-1), 1) := by decide +kernel
theorem dX12_kern_52 : decode cX12_kern 52 = .ok (.ireturn, 1) := by decide +kernel
def F_X12_kern (N : Nat) (l1 : Int32) (l2 : Int32) (V : sv_V) : Option (Int32 × sv_V) := if (V.1 146 4) = 0 then (some ((-3 : Int32), V)) else ((F_X12_in l1.toInt64 (0 : Int64) (((V.1 146 12) - (1 : Int32)).toInt64) V).bind (fun (x4, V2) => if x4 = 0 then (some ((-1 : Int32), V2)) else ((F_X12_in l2.toInt64 (0 : Int64) (((V2.1 146 12) - (1 : Int32)).toInt64) V2).bind (fun (x8, V6) => if x8 = 0 then (some ((-1 : Int32), V6)) else ((F_X12_kernOf N l1 l2 V6).bind (fun (x12, V10) => some (x12, V10)))))))
set_option maxRecDepth 20000 in
theorem t_X12_kern {g : sx_G} (hG : sx_Go g) {P : Option Value → sv_V → Prop} {r : Int32} {Vr : sv_V} (hP : P (some (.int r)) Vr) {N : Nat} {l1 : Int32} {l2 : Int32} {V : sv_V} (h : F_X12_kern N l1 l2 V = some (r, Vr)) : sv_N g qX12_kern 4 0 [(0, .ref 146), (1, .int l1), (2, .int l2)] [] V P := by
  unfold F_X12_kern at h
  refine sx_aload_n (pc := 0) dX12_kern_0 sx_m0 ?_
  refine sv_getZ (pc := 1) hG dX12_kern_1 f_12_759 lay_146 rfl ?_
  refine sx_if_ne (pc := 4) (tgt := 10) dX12_kern_4 (by decide) (fun c1 => ?_) (fun c1 => ?_)
  · have h := sx_neg c1 h
    refine sx_iload_n (pc := 10) dX12_kern_10 sx_m1 ?_
    refine sx_i2l (pc := 11) dX12_kern_11 ?_
    refine sx_lconst (pc := 12) (v := 0) dX12_kern_12 rfl ?_
    refine sx_aload_n (pc := 13) dX12_kern_13 sx_m0 ?_
    refine sv_getI (pc := 14) hG dX12_kern_14 f_12_260 lay_146 rfl ?_
    refine sx_iconst (pc := 17) (v := 1) dX12_kern_17 (by decide) ?_
    refine sx_isub (pc := 18) dX12_kern_18 ?_
    refine sx_i2l (pc := 19) dX12_kern_19 ?_
    obtain ⟨⟨x4, V2⟩, g3, h⟩ := sx_bnd h
    refine sv_cS (pc := 20) (y := qX12_in) (o := (some (.int x4))) (as := [.long l1.toInt64, .long (0 : Int64), .long (((V.1 146 12) - (1 : Int32)).toInt64)]) (V1 := V2) dX12_kern_20 l_X12_263 y0X12_in ysX12_in rfl (Nat.le_of_ble_eq_true rfl) (by decide) (Nat.le_of_ble_eq_true rfl) rfl rfl rfl (t_X12_in hG ⟨rfl, rfl⟩ g3) ?_
    refine sx_if_eq (pc := 23) (tgt := 51) dX12_kern_23 (by decide) (fun c5 => ?_) (fun c5 => ?_)
    · have h := sx_pos c5 h
      refine sx_iconst (pc := 51) (v := (-1)) dX12_kern_51 (by decide) ?_
      exact sv_iret (pc := 52) dX12_kern_52 rfl h hP
    · have h := sx_neg c5 h
      refine sx_iload_n (pc := 26) dX12_kern_26 sx_m2 ?_
      refine sx_i2l (pc := 27) dX12_kern_27 ?_
      refine sx_lconst (pc := 28) (v := 0) dX12_kern_28 rfl ?_
      refine sx_aload_n (pc := 29) dX12_kern_29 sx_m0 ?_
      refine sv_getI (pc := 30) hG dX12_kern_30 f_12_260 lay_146 rfl ?_
      refine sx_iconst (pc := 33) (v := 1) dX12_kern_33 (by decide) ?_
      refine sx_isub (pc := 34) dX12_kern_34 ?_
      refine sx_i2l (pc := 35) dX12_kern_35 ?_
      obtain ⟨⟨x8, V6⟩, g7, h⟩ := sx_bnd h
      refine sv_cS (pc := 36) (y := qX12_in) (o := (some (.int x8))) (as := [.long l2.toInt64, .long (0 : Int64), .long (((V2.1 146 12) - (1 : Int32)).toInt64)]) (V1 := V6) dX12_kern_36 l_X12_263 y0X12_in ysX12_in rfl (Nat.le_of_ble_eq_true rfl) (by decide) (Nat.le_of_ble_eq_true rfl) rfl rfl rfl (t_X12_in hG ⟨rfl, rfl⟩ g7) ?_
      refine sx_if_eq (pc := 39) (tgt := 51) dX12_kern_39 (by decide) (fun c9 => ?_) (fun c9 => ?_)
      · have h := sx_pos c9 h
        refine sx_iconst (pc := 51) (v := (-1)) dX12_kern_51 (by decide) ?_
        exact sv_iret (pc := 52) dX12_kern_52 rfl h hP
      · have h := sx_neg c9 h
        refine sx_aload_n (pc := 42) dX12_kern_42 sx_m0 ?_
        refine sx_iload_n (pc := 43) dX12_kern_43 sx_m1 ?_
        refine sx_iload_n (pc := 44) dX12_kern_44 sx_m2 ?_
        obtain ⟨⟨x12, V10⟩, g11, h⟩ := sx_bnd h
        refine sv_cV (pc := 45) (y := qX12_kernOf) (o := (some (.int x12))) (as := [.int l1, .int l2]) (V1 := V10) hG dX12_kern_45 l_X12_905 y0X12_kernOf yvX12_kernOf rfl (Nat.le_of_ble_eq_true rfl) lay_146 kr_12 (by decide) (Nat.le_of_ble_eq_true rfl) rfl rfl rfl (t_X12_kernOf hG ⟨rfl, rfl⟩ g11) ?_
        refine sx_goto (pc := 48) (tgt := 52) dX12_kern_48 (by decide) ?_
        exact sv_iret (pc := 52) dX12_kern_52 rfl h hP
  · have h := sx_pos c1 h
    refine sx_bipush (pc := 7) (v := (-3)) dX12_kern_7 (by decide) ?_
    exact sv_iret (pc := 9) dX12_kern_9 rfl h hP
theorem dX12_point_0 : decode cX12_point 0 = .ok (.aload_n 0, 1) := by decide +kernel
theorem dX12_point_1 : decode cX12_point 1 = .ok (.getfield 764, 3) := by decide +kernel
theorem dX12_point_4 : decode cX12_point 4 = .ok (.ifCond .eq 19, 3) := by decide +kernel
theorem dX12_point_7 : decode cX12_point 7 = .ok (.iload_n 1, 1) := by decide +kernel
theorem dX12_point_8 : decode cX12_point 8 = .ok (.i2l, 1) := by decide +kernel
theorem dX12_point_9 : decode cX12_point 9 = .ok (.lconst 0, 1) := by decide +kernel
theorem dX12_point_10 : decode cX12_point 10 = .ok (.aload_n 0, 1) := by decide +kernel
theorem dX12_point_11 : decode cX12_point 11 = .ok (.getfield 823, 3) := by decide +kernel
theorem dX12_point_14 : decode cX12_point 14 = .ok (.iconst 1, 1) := by decide +kernel
theorem dX12_point_15 : decode cX12_point 15 = .ok (.isub, 1) := by decide +kernel
theorem dX12_point_16 : decode cX12_point 16 = .ok (.i2l, 1) := by decide +kernel
theorem dX12_point_17 : decode cX12_point 17 = .ok (.invokestatic 263, 3) := by decide +kernel
theorem dX12_point_20 : decode cX12_point 20 = .ok (.ifCond .ne 5, 3) := by decide +kernel
theorem dX12_point_23 : decode cX12_point 23 = .ok (.iconst 0, 1) := by decide +kernel
theorem dX12_point_24 : decode cX12_point 24 = .ok (.ireturn, 1) := by decide +kernel
theorem dX12_point_25 : decode cX12_point 25 = .ok (.iconst 0, 1) := by decide +kernel
theorem dX12_point_26 : decode cX12_point 26 = .ok (.istore_n 3, 1) := by decide +kernel
theorem dX12_point_27 : decode cX12_point 27 = .ok (.aload_n 0, 1) := by decide +kernel
theorem dX12_point_28 : decode cX12_point 28 = .ok (.getfield 176, 3) := by decide +kernel
theorem dX12_point_31 : decode cX12_point 31 = .ok (.iload_n 3, 1) := by decide +kernel
theorem dX12_point_32 : decode cX12_point 32 = .ok (.iaload, 1) := by decide +kernel
theorem dX12_point_33 : decode cX12_point 33 = .ok (.iload_n 1, 1) := by decide +kernel
theorem dX12_point_34 : decode cX12_point 34 = .ok (.if_icmp .ge 9, 3) := by decide +kernel
theorem dX12_point_37 : decode cX12_point 37 = .ok (.iinc 3 1, 3) := by decide +kernel
theorem dX12_point_40 : decode cX12_point 40 = .ok (.goto (-13), 3) := by decide +kernel
theorem dX12_point_43 : decode cX12_point 43 = .ok (.iload_n 2, 1) := by decide +kernel
theorem dX12_point_44 : decode cX12_point 44 = .ok (.ifCond .ne 12, 3) := by decide +kernel
theorem dX12_point_47 : decode cX12_point 47 = .ok (.aload_n 0, 1) := by decide +kernel
theorem dX12_point_48 : decode cX12_point 48 = .ok (.getfield 167, 3) := by decide +kernel
theorem dX12_point_51 : decode cX12_point 51 = .ok (.iload_n 1, 1) := by decide +kernel
theorem dX12_point_52 : decode cX12_point 52 = .ok (.iaload, 1) := by decide +kernel
theorem dX12_point_53 : decode cX12_point 53 = .ok (.goto 49, 3) := by decide +kernel
theorem dX12_point_56 : decode cX12_point 56 = .ok (.iload_n 2, 1) := by decide +kernel
theorem dX12_point_57 : decode cX12_point 57 = .ok (.iconst 1, 1) := by decide +kernel
theorem dX12_point_58 : decode cX12_point 58 = .ok (.if_icmp .ne 12, 3) := by decide +kernel
theorem dX12_point_61 : decode cX12_point 61 = .ok (.aload_n 0, 1) := by decide +kernel
theorem dX12_point_62 : decode cX12_point 62 = .ok (.getfield 170, 3) := by decide +kernel
theorem dX12_point_65 : decode cX12_point 65 = .ok (.iload_n 1, 1) := by decide +kernel
theorem dX12_point_66 : decode cX12_point 66 = .ok (.iaload, 1) := by decide +kernel
theorem dX12_point_67 : decode cX12_point 67 = .ok (.goto 35, 3) := by decide +kernel
theorem dX12_point_70 : decode cX12_point 70 = .ok (.iload_n 2, 1) := by decide +kernel
theorem dX12_point_71 : decode cX12_point 71 = .ok (.iconst 2, 1) := by decide +kernel
theorem dX12_point_72 : decode cX12_point 72 = .ok (.if_icmp .ne 20, 3) := by decide +kernel
theorem dX12_point_75 : decode cX12_point 75 = .ok (.aload_n 0, 1) := by decide +kernel
theorem dX12_point_76 : decode cX12_point 76 = .ok (.getfield 173, 3) := by decide +kernel
theorem dX12_point_79 : decode cX12_point 79 = .ok (.iload_n 1, 1) := by decide +kernel
theorem dX12_point_80 : decode cX12_point 80 = .ok (.baload, 1) := by decide +kernel
theorem dX12_point_81 : decode cX12_point 81 = .ok (.ifCond .eq 7, 3) := by decide +kernel
theorem dX12_point_84 : decode cX12_point 84 = .ok (.iconst 1, 1) := by decide +kernel
theorem dX12_point_85 : decode cX12_point 85 = .ok (.goto 17, 3) := by decide +kernel
theorem dX12_point_88 : decode cX12_point 88 = .ok (.iconst 0, 1) := by decide +kernel
theorem dX12_point_89 : decode cX12_point 89 = .ok (.goto 13, 3) := by decide +kernel
theorem dX12_point_92 : decode cX12_point 92 = .ok (.iload_n 2, 1) := by decide +kernel
theorem dX12_point_93 : decode cX12_point 93 = .ok (.iconst 3, 1) := by decide +kernel
theorem dX12_point_94 : decode cX12_point 94 = .ok (.if_icmp .ne 7, 3) := by decide +kernel
theorem dX12_point_97 : decode cX12_point 97 = .ok (.iload_n 3, 1) := by decide +kernel
theorem dX12_point_98 : decode cX12_point 98 = .ok (.goto 4, 3) := by decide +kernel
theorem dX12_point_101 : decode cX12_point 101 = .ok (.iconst 0, 1) := by decide +kernel
theorem dX12_point_102 : decode cX12_point 102 = .ok (.ireturn, 1) := by decide +kernel
def B_X12_point_27 (N : Nat) (k27 : Int32 → Int32 → Int32 → sv_V → Option (Int32 × sv_V)) (l1 : Int32) (l2 : Int32) (l3 : Int32) (V : sv_V) : Option (Int32 × sv_V) := if sx_in l3 20 = true then if l1 ≤ (V.1 200 l3.toNatClampNeg) then (if l2 = 0 then (if sx_in l1 100 = true then some (V.1 197 l1.toNatClampNeg, V) else none) else (if l2 = (1 : Int32) then (if sx_in l1 100 = true then some (V.1 198 l1.toNatClampNeg, V) else none) else (if l2 = (2 : Int32) then (if sx_in l1 100 = true then if (V.1 199 l1.toNatClampNeg) = 0 then (some ((0 : Int32), V)) else (some ((1 : Int32), V)) else none) else (if l2 = (3 : Int32) then (some (l3, V)) else (some ((0 : Int32), V)))))) else (sx_let (l3 + 1) (fun x11 => k27 l1 l2 x11 V)) else none
set_option maxRecDepth 20000 in
theorem tB_X12_point_27 {g : sx_G} (hG : sx_Go g) {P : Option Value → sv_V → Prop} {r : Int32} {Vr : sv_V} (hP : P (some (.int r)) Vr) {N : Nat} {k27 : Int32 → Int32 → Int32 → sv_V → Option (Int32 × sv_V)} (hk27 : ∀ (l1 : Int32) (l2 : Int32) (l3 : Int32) (V : sv_V), k27 l1 l2 l3 V = some (r, Vr) → sv_N g qX12_point 1 27 [(0, .ref 146), (1, .int l1), (2, .int l2), (3, .int l3)] [] V P) {l1 : Int32} {l2 : Int32} {l3 : Int32} {V : sv_V} (h : B_X12_point_27 N k27 l1 l2 l3 V = some (r, Vr)) : sv_N g qX12_point 1 27 [(0, .ref 146), (1, .int l1), (2, .int l2), (3, .int l3)] [] V P := by
  unfold B_X12_point_27 at h
  refine sx_aload_n (pc := 27) dX12_point_27 sx_m0 ?_
  refine sv_getA (pc := 28) hG dX12_point_28 f_12_176 lay_146 rfl cr_146_133 ?_
  refine sx_iload_n (pc := 31) dX12_point_31 sx_m3 ?_
  obtain ⟨g1, h⟩ := sx_grd h
  refine sv_iald (pc := 32) hG dX12_point_32 lay_200 g1 ?_
  refine sx_iload_n (pc := 33) dX12_point_33 sx_m1 ?_
  refine sx_icmp_ge (pc := 34) (tgt := 43) dX12_point_34 (by decide) (fun c2 => ?_) (fun c2 => ?_)
  · have h := sx_pos c2 h
    refine sx_iload_n (pc := 43) dX12_point_43 sx_m2 ?_
    refine sx_if_ne (pc := 44) (tgt := 56) dX12_point_44 (by decide) (fun c3 => ?_) (fun c3 => ?_)
    · have h := sx_neg c3 h
      refine sx_iload_n (pc := 56) dX12_point_56 sx_m2 ?_
      refine sx_iconst (pc := 57) (v := 1) dX12_point_57 (by decide) ?_
      refine sx_icmp_ne (pc := 58) (tgt := 70) dX12_point_58 (by decide) (fun c4 => ?_) (fun c4 => ?_)
      · have h := sx_neg c4 h
        refine sx_iload_n (pc := 70) dX12_point_70 sx_m2 ?_
        refine sx_iconst (pc := 71) (v := 2) dX12_point_71 (by decide) ?_
        refine sx_icmp_ne (pc := 72) (tgt := 92) dX12_point_72 (by decide) (fun c5 => ?_) (fun c5 => ?_)
        · have h := sx_neg c5 h
          refine sx_iload_n (pc := 92) dX12_point_92 sx_m2 ?_
          refine sx_iconst (pc := 93) (v := 3) dX12_point_93 (by decide) ?_
          refine sx_icmp_ne (pc := 94) (tgt := 101) dX12_point_94 (by decide) (fun c6 => ?_) (fun c6 => ?_)
          · have h := sx_neg c6 h
            refine sx_iconst (pc := 101) (v := 0) dX12_point_101 (by decide) ?_
            exact sv_iret (pc := 102) dX12_point_102 rfl h hP
          · have h := sx_pos c6 h
            refine sx_iload_n (pc := 97) dX12_point_97 sx_m3 ?_
            refine sx_goto (pc := 98) (tgt := 102) dX12_point_98 (by decide) ?_
            exact sv_iret (pc := 102) dX12_point_102 rfl h hP
        · have h := sx_pos c5 h
          refine sx_aload_n (pc := 75) dX12_point_75 sx_m0 ?_
          refine sv_getA (pc := 76) hG dX12_point_76 f_12_173 lay_146 rfl cr_146_132 ?_
          refine sx_iload_n (pc := 79) dX12_point_79 sx_m1 ?_
          obtain ⟨g7, h⟩ := sx_grd h
          refine sv_zald (pc := 80) hG dX12_point_80 lay_199 g7 ?_
          refine sx_if_eq (pc := 81) (tgt := 88) dX12_point_81 (by decide) (fun c8 => ?_) (fun c8 => ?_)
          · have h := sx_pos c8 h
            refine sx_iconst (pc := 88) (v := 0) dX12_point_88 (by decide) ?_
            refine sx_goto (pc := 89) (tgt := 102) dX12_point_89 (by decide) ?_
            exact sv_iret (pc := 102) dX12_point_102 rfl h hP
          · have h := sx_neg c8 h
            refine sx_iconst (pc := 84) (v := 1) dX12_point_84 (by decide) ?_
            refine sx_goto (pc := 85) (tgt := 102) dX12_point_85 (by decide) ?_
            exact sv_iret (pc := 102) dX12_point_102 rfl h hP
      · have h := sx_pos c4 h
        refine sx_aload_n (pc := 61) dX12_point_61 sx_m0 ?_
        refine sv_getA (pc := 62) hG dX12_point_62 f_12_170 lay_146 rfl cr_146_131 ?_
        refine sx_iload_n (pc := 65) dX12_point_65 sx_m1 ?_
        obtain ⟨g9, h⟩ := sx_grd h
        refine sv_iald (pc := 66) hG dX12_point_66 lay_198 g9 ?_
        refine sx_goto (pc := 67) (tgt := 102) dX12_point_67 (by decide) ?_
        exact sv_iret (pc := 102) dX12_point_102 rfl h hP
    · have h := sx_pos c3 h
      refine sx_aload_n (pc := 47) dX12_point_47 sx_m0 ?_
      refine sv_getA (pc := 48) hG dX12_point_48 f_12_167 lay_146 rfl cr_146_130 ?_
      refine sx_iload_n (pc := 51) dX12_point_51 sx_m1 ?_
      obtain ⟨g10, h⟩ := sx_grd h
      refine sv_iald (pc := 52) hG dX12_point_52 lay_197 g10 ?_
      refine sx_goto (pc := 53) (tgt := 102) dX12_point_53 (by decide) ?_
      exact sv_iret (pc := 102) dX12_point_102 rfl h hP
  · have h := sx_neg c2 h
    obtain ⟨x11, hx11⟩ : ∃ z : Int32, z = l3 + 1 := ⟨_, rfl⟩
    have h := sx_letE hx11 h
    refine sx_iinc (pc := 37) (v := x11) (lo' := [(3, .int x11), (0, .ref 146), (1, .int l1), (2, .int l2)]) dX12_point_37 sx_m3 (by rw [hx11]; rfl) (by decide) rfl ?_
    refine sx_goto (pc := 40) (tgt := 27) dX12_point_40 (by decide) ?_
    refine sx_wk (sx_s1 sx_m1 (sx_s1 sx_m2 (sx_s1 sx_m3 (sx_s1 sx_m0 sx_s0)))) ?_
    exact hk27 _ _ _ _ h
theorem tL_X12_point_27 {g : sx_G} (hG : sx_Go g) {P : Option Value → sv_V → Prop} {r : Int32} {Vr : sv_V} (hP : P (some (.int r)) Vr) {N : Nat}   : ∀ (n : Nat) (l1 : Int32) (l2 : Int32) (l3 : Int32) (V : sv_V), sx_lp4 (B_X12_point_27 N ) n l1 l2 l3 V = some (r, Vr) → sv_N g qX12_point 1 27 [(0, .ref 146), (1, .int l1), (2, .int l2), (3, .int l3)] [] V P :=
  sx_lp4_ind (fun k0 ih _ _ _ V h => tB_X12_point_27 hG hP ih h)
def F_X12_point (N : Nat) (l1 : Int32) (l2 : Int32) (V : sv_V) : Option (Int32 × sv_V) := if (V.1 146 108) = 0 then (some ((0 : Int32), V)) else ((F_X12_in l1.toInt64 (0 : Int64) (((V.1 146 128) - (1 : Int32)).toInt64) V).bind (fun (x15, V13) => if x15 = 0 then (some ((0 : Int32), V13)) else (sx_lp4 (B_X12_point_27 N ) N l1 l2 (0 : Int32) V13)))
set_option maxRecDepth 20000 in
theorem t_X12_point {g : sx_G} (hG : sx_Go g) {P : Option Value → sv_V → Prop} {r : Int32} {Vr : sv_V} (hP : P (some (.int r)) Vr) {N : Nat} {l1 : Int32} {l2 : Int32} {V : sv_V} (h : F_X12_point N l1 l2 V = some (r, Vr)) : sv_N g qX12_point 1 0 [(0, .ref 146), (1, .int l1), (2, .int l2)] [] V P := by
  unfold F_X12_point at h
  refine sx_aload_n (pc := 0) dX12_point_0 sx_m0 ?_
  refine sv_getZ (pc := 1) hG dX12_point_1 f_12_764 lay_146 rfl ?_
  refine sx_if_eq (pc := 4) (tgt := 23) dX12_point_4 (by decide) (fun c12 => ?_) (fun c12 => ?_)
  · have h := sx_pos c12 h
    refine sx_iconst (pc := 23) (v := 0) dX12_point_23 (by decide) ?_
    exact sv_iret (pc := 24) dX12_point_24 rfl h hP
  · have h := sx_neg c12 h
    refine sx_iload_n (pc := 7) dX12_point_7 sx_m1 ?_
    refine sx_i2l (pc := 8) dX12_point_8 ?_
    refine sx_lconst (pc := 9) (v := 0) dX12_point_9 rfl ?_
    refine sx_aload_n (pc := 10) dX12_point_10 sx_m0 ?_
    refine sv_getI (pc := 11) hG dX12_point_11 f_12_823 lay_146 rfl ?_
    refine sx_iconst (pc := 14) (v := 1) dX12_point_14 (by decide) ?_
    refine sx_isub (pc := 15) dX12_point_15 ?_
    refine sx_i2l (pc := 16) dX12_point_16 ?_
    obtain ⟨⟨x15, V13⟩, g14, h⟩ := sx_bnd h
    refine sv_cS (pc := 17) (y := qX12_in) (o := (some (.int x15))) (as := [.long l1.toInt64, .long (0 : Int64), .long (((V.1 146 128) - (1 : Int32)).toInt64)]) (V1 := V13) dX12_point_17 l_X12_263 y0X12_in ysX12_in rfl (Nat.le_of_ble_eq_true rfl) (by decide) (Nat.le_of_ble_eq_true rfl) rfl rfl rfl (t_X12_in hG ⟨rfl, rfl⟩ g14) ?_
    refine sx_if_ne (pc := 20) (tgt := 25) dX12_point_20 (by decide) (fun c16 => ?_) (fun c16 => ?_)
    · have h := sx_neg c16 h
      refine sx_iconst (pc := 25) (v := 0) dX12_point_25 (by decide) ?_
      refine sx_istore_n (pc := 26) (lo' := [(3, .int (0 : Int32)), (0, .ref 146), (1, .int l1), (2, .int l2)]) dX12_point_26 (by decide) rfl ?_
      refine sx_wk (sx_s1 sx_m1 (sx_s1 sx_m2 (sx_s1 sx_m3 (sx_s1 sx_m0 sx_s0)))) ?_
      exact tL_X12_point_27 hG hP  N _ _ _ _ h
    · have h := sx_pos c16 h
      refine sx_iconst (pc := 23) (v := 0) dX12_point_23 (by decide) ?_
      exact sv_iret (pc := 24) dX12_point_24 rfl h hP
theorem dX12_told_0 : decode cX12_told 0 = .ok (.iload_n 1, 1) := by decide +kernel
theorem dX12_told_1 : decode cX12_told 1 = .ok (.tableswitch 183 0 9 #[55, 60, 65, 70, 75, 91, 107, 112, 145, 178], 55) := by decide +kernel
theorem dX12_told_56 : decode cX12_told 56 = .ok (.aload_n 0, 1) := by decide +kernel
theorem dX12_told_57 : decode cX12_told 57 = .ok (.getfield 756, 3) := by decide +kernel
theorem dX12_told_60 : decode cX12_told 60 = .ok (.ireturn, 1) := by decide +kernel
theorem dX12_told_61 : decode cX12_told 61 = .ok (.aload_n 0, 1) := by decide +kernel
theorem dX12_told_62 : decode cX12_told 62 = .ok (.getfield 750, 3) := by decide +kernel
theorem dX12_told_65 : decode cX12_told 65 = .ok (.ireturn, 1) := by decide +kernel
theorem dX12_told_66 : decode cX12_told 66 = .ok (.aload_n 0, 1) := by decide +kernel
theorem dX12_told_67 : decode cX12_told 67 = .ok (.getfield 753, 3) := by decide +kernel
theorem dX12_told_70 : decode cX12_told 70 = .ok (.ireturn, 1) := by decide +kernel
theorem dX12_told_71 : decode cX12_told 71 = .ok (.aload_n 0, 1) := by decide +kernel
theorem dX12_told_72 : decode cX12_told 72 = .ok (.getfield 127, 3) := by decide +kernel
theorem dX12_told_75 : decode cX12_told 75 = .ok (.ireturn, 1) := by decide +kernel
theorem dX12_told_76 : decode cX12_told 76 = .ok (.aload_n 0, 1) := by decide +kernel
theorem dX12_told_77 : decode cX12_told 77 = .ok (.getfield 764, 3) := by decide +kernel
theorem dX12_told_80 : decode cX12_told 80 = .ok (.ifCond .eq 10, 3) := by decide +kernel
theorem dX12_told_83 : decode cX12_told 83 = .ok (.aload_n 0, 1) := by decide +kernel
theorem dX12_told_84 : decode cX12_told 84 = .ok (.getfield 829, 3) := by decide +kernel
theorem dX12_told_87 : decode cX12_told 87 = .ok (.goto 4, 3) := by decide +kernel
theorem dX12_told_90 : decode cX12_told 90 = .ok (.iconst 0, 1) := by decide +kernel
theorem dX12_told_91 : decode cX12_told 91 = .ok (.ireturn, 1) := by decide +kernel
theorem dX12_told_92 : decode cX12_told 92 = .ok (.aload_n 0, 1) := by decide +kernel
theorem dX12_told_93 : decode cX12_told 93 = .ok (.getfield 764, 3) := by decide +kernel
theorem dX12_told_96 : decode cX12_told 96 = .ok (.ifCond .eq 10, 3) := by decide +kernel
theorem dX12_told_99 : decode cX12_told 99 = .ok (.aload_n 0, 1) := by decide +kernel
theorem dX12_told_100 : decode cX12_told 100 = .ok (.getfield 826, 3) := by decide +kernel
theorem dX12_told_103 : decode cX12_told 103 = .ok (.goto 4, 3) := by decide +kernel
theorem dX12_told_106 : decode cX12_told 106 = .ok (.iconst 0, 1) := by decide +kernel
theorem dX12_told_107 : decode cX12_told 107 = .ok (.ireturn, 1) := by decide +kernel
theorem dX12_told_108 : decode cX12_told 108 = .ok (.aload_n 0, 1) := by decide +kernel
theorem dX12_told_109 : decode cX12_told 109 = .ok (.getfield 621, 3) := by decide +kernel
theorem dX12_told_112 : decode cX12_told 112 = .ok (.ireturn, 1) := by decide +kernel
theorem dX12_told_113 : decode cX12_told 113 = .ok (.aload_n 0, 1) := by decide +kernel
theorem dX12_told_114 : decode cX12_told 114 = .ok (.getfield 767, 3) := by decide +kernel
theorem dX12_told_117 : decode cX12_told 117 = .ok (.ifCond .ne 7, 3) := by decide +kernel
theorem dX12_told_120 : decode cX12_told 120 = .ok (.iconst 0, 1) := by decide +kernel
theorem dX12_told_121 : decode cX12_told 121 = .ok (.goto 24, 3) := by decide +kernel
theorem dX12_told_124 : decode cX12_told 124 = .ok (.aload_n 0, 1) := by decide +kernel
theorem dX12_told_125 : decode cX12_told 125 = .ok (.getfield 764, 3) := by decide +kernel
theorem dX12_told_128 : decode cX12_told 128 = .ok (.ifCond .eq 10, 3) := by decide +kernel
theorem dX12_told_131 : decode cX12_told 131 = .ok (.aload_n 0, 1) := by decide +kernel
theorem dX12_told_132 : decode cX12_told 132 = .ok (.getfield 798, 3) := by decide +kernel
theorem dX12_told_135 : decode cX12_told 135 = .ok (.goto 10, 3) := by decide +kernel
theorem dX12_told_138 : decode cX12_told 138 = .ok (.aload_n 0, 1) := by decide +kernel
theorem dX12_told_139 : decode cX12_told 139 = .ok (.getfield 140, 3) := by decide +kernel
theorem dX12_told_142 : decode cX12_told 142 = .ok (.bipush 7, 2) := by decide +kernel
theorem dX12_told_144 : decode cX12_told 144 = .ok (.iaload, 1) := by decide +kernel
theorem dX12_told_145 : decode cX12_told 145 = .ok (.ireturn, 1) := by decide +kernel
theorem dX12_told_146 : decode cX12_told 146 = .ok (.aload_n 0, 1) := by decide +kernel
theorem dX12_told_147 : decode cX12_told 147 = .ok (.getfield 767, 3) := by decide +kernel
theorem dX12_told_150 : decode cX12_told 150 = .ok (.ifCond .ne 7, 3) := by decide +kernel
theorem dX12_told_153 : decode cX12_told 153 = .ok (.iconst 0, 1) := by decide +kernel
theorem dX12_told_154 : decode cX12_told 154 = .ok (.goto 24, 3) := by decide +kernel
theorem dX12_told_157 : decode cX12_told 157 = .ok (.aload_n 0, 1) := by decide +kernel
theorem dX12_told_158 : decode cX12_told 158 = .ok (.getfield 764, 3) := by decide +kernel
theorem dX12_told_161 : decode cX12_told 161 = .ok (.ifCond .eq 10, 3) := by decide +kernel
theorem dX12_told_164 : decode cX12_told 164 = .ok (.aload_n 0, 1) := by decide +kernel
theorem dX12_told_165 : decode cX12_told 165 = .ok (.getfield 801, 3) := by decide +kernel
theorem dX12_told_168 : decode cX12_told 168 = .ok (.goto 10, 3) := by decide +kernel
theorem dX12_told_171 : decode cX12_told 171 = .ok (.aload_n 0, 1) := by decide +kernel
theorem dX12_told_172 : decode cX12_told 172 = .ok (.getfield 140, 3) := by decide +kernel
theorem dX12_told_175 : decode cX12_told 175 = .ok (.bipush 8, 2) := by decide +kernel
theorem dX12_told_177 : decode cX12_told 177 = .ok (.iaload, 1) := by decide +kernel
theorem dX12_told_178 : decode cX12_told 178 = .ok (.ireturn, 1) := by decide +kernel
theorem dX12_told_179 : decode cX12_told 179 = .ok (.aload_n 0, 1) := by decide +kernel
theorem dX12_told_180 : decode cX12_told 180 = .ok (.getfield 424, 3) := by decide +kernel
theorem dX12_told_183 : decode cX12_told 183 = .ok (.ireturn, 1) := by decide +kernel
theorem dX12_told_184 : decode cX12_told 184 = .ok (.iconst 0, 1) := by decide +kernel
theorem dX12_told_185 : decode cX12_told 185 = .ok (.ireturn, 1) := by decide +kernel
def F_X12_told (l1 : Int32) (V : sv_V) : Option (Int32 × sv_V) := if l1 = 0 then (some (V.1 146 109, V)) else (if l1 = 1 then (some (V.1 146 110, V)) else (if l1 = 2 then (some (V.1 146 111, V)) else (if l1 = 3 then (some (V.1 146 112, V)) else (if l1 = 4 then (if (V.1 146 108) = 0 then (some ((0 : Int32), V)) else (some (V.1 146 134, V))) else (if l1 = 5 then (if (V.1 146 108) = 0 then (some ((0 : Int32), V)) else (some (V.1 146 129, V))) else (if l1 = 6 then (some (V.1 146 62, V)) else (if l1 = 7 then (if (V.1 146 107) = 0 then (some ((0 : Int32), V)) else (if (V.1 146 108) = 0 then (some (V.1 188 (7 : Int32).toNatClampNeg, V)) else (some (V.1 146 126, V)))) else (if l1 = 8 then (if (V.1 146 107) = 0 then (some ((0 : Int32), V)) else (if (V.1 146 108) = 0 then (some (V.1 188 (8 : Int32).toNatClampNeg, V)) else (some (V.1 146 127, V)))) else (if l1 = 9 then (some (V.1 146 57, V)) else (some ((0 : Int32), V)))))))))))
set_option maxRecDepth 20000 in
theorem t_X12_told {g : sx_G} (hG : sx_Go g) {P : Option Value → sv_V → Prop} {r : Int32} {Vr : sv_V} (hP : P (some (.int r)) Vr) {l1 : Int32} {V : sv_V} (h : F_X12_told l1 V = some (r, Vr)) : sv_N g qX12_told 0 0 [(0, .ref 146), (1, .int l1)] [] V P := by
  unfold F_X12_told at h
  refine sx_iload_n (pc := 0) dX12_told_0 sx_m1 ?_
  by_cases c1 : l1 = 0
  · have h := sx_pos c1 h
    refine sx_tabI (pc := 1) (off := 55) (tgt := 56) dX12_told_1 (by rw [c1]; decide) (by rw [c1]; decide) (by rw [c1]; rfl) (by decide) ?_
    refine sx_aload_n (pc := 56) dX12_told_56 sx_m0 ?_
    refine sv_getI (pc := 57) hG dX12_told_57 f_12_756 lay_146 rfl ?_
    exact sv_iret (pc := 60) dX12_told_60 rfl h hP
  have h := sx_neg c1 h
  by_cases c2 : l1 = 1
  · have h := sx_pos c2 h
    refine sx_tabI (pc := 1) (off := 60) (tgt := 61) dX12_told_1 (by rw [c2]; decide) (by rw [c2]; decide) (by rw [c2]; rfl) (by decide) ?_
    refine sx_aload_n (pc := 61) dX12_told_61 sx_m0 ?_
    refine sv_getI (pc := 62) hG dX12_told_62 f_12_750 lay_146 rfl ?_
    exact sv_iret (pc := 65) dX12_told_65 rfl h hP
  have h := sx_neg c2 h
  by_cases c3 : l1 = 2
  · have h := sx_pos c3 h
    refine sx_tabI (pc := 1) (off := 65) (tgt := 66) dX12_told_1 (by rw [c3]; decide) (by rw [c3]; decide) (by rw [c3]; rfl) (by decide) ?_
    refine sx_aload_n (pc := 66) dX12_told_66 sx_m0 ?_
    refine sv_getI (pc := 67) hG dX12_told_67 f_12_753 lay_146 rfl ?_
    exact sv_iret (pc := 70) dX12_told_70 rfl h hP
  have h := sx_neg c3 h
  by_cases c4 : l1 = 3
  · have h := sx_pos c4 h
    refine sx_tabI (pc := 1) (off := 70) (tgt := 71) dX12_told_1 (by rw [c4]; decide) (by rw [c4]; decide) (by rw [c4]; rfl) (by decide) ?_
    refine sx_aload_n (pc := 71) dX12_told_71 sx_m0 ?_
    refine sv_getI (pc := 72) hG dX12_told_72 f_12_127 lay_146 rfl ?_
    exact sv_iret (pc := 75) dX12_told_75 rfl h hP
  have h := sx_neg c4 h
  by_cases c5 : l1 = 4
  · have h := sx_pos c5 h
    refine sx_tabI (pc := 1) (off := 75) (tgt := 76) dX12_told_1 (by rw [c5]; decide) (by rw [c5]; decide) (by rw [c5]; rfl) (by decide) ?_
    refine sx_aload_n (pc := 76) dX12_told_76 sx_m0 ?_
    refine sv_getZ (pc := 77) hG dX12_told_77 f_12_764 lay_146 rfl ?_
    refine sx_if_eq (pc := 80) (tgt := 90) dX12_told_80 (by decide) (fun c6 => ?_) (fun c6 => ?_)
    · have h := sx_pos c6 h
      refine sx_iconst (pc := 90) (v := 0) dX12_told_90 (by decide) ?_
      exact sv_iret (pc := 91) dX12_told_91 rfl h hP
    · have h := sx_neg c6 h
      refine sx_aload_n (pc := 83) dX12_told_83 sx_m0 ?_
      refine sv_getI (pc := 84) hG dX12_told_84 f_12_829 lay_146 rfl ?_
      refine sx_goto (pc := 87) (tgt := 91) dX12_told_87 (by decide) ?_
      exact sv_iret (pc := 91) dX12_told_91 rfl h hP
  have h := sx_neg c5 h
  by_cases c7 : l1 = 5
  · have h := sx_pos c7 h
    refine sx_tabI (pc := 1) (off := 91) (tgt := 92) dX12_told_1 (by rw [c7]; decide) (by rw [c7]; decide) (by rw [c7]; rfl) (by decide) ?_
    refine sx_aload_n (pc := 92) dX12_told_92 sx_m0 ?_
    refine sv_getZ (pc := 93) hG dX12_told_93 f_12_764 lay_146 rfl ?_
    refine sx_if_eq (pc := 96) (tgt := 106) dX12_told_96 (by decide) (fun c8 => ?_) (fun c8 => ?_)
    · have h := sx_pos c8 h
      refine sx_iconst (pc := 106) (v := 0) dX12_told_106 (by decide) ?_
      exact sv_iret (pc := 107) dX12_told_107 rfl h hP
    · have h := sx_neg c8 h
      refine sx_aload_n (pc := 99) dX12_told_99 sx_m0 ?_
      refine sv_getI (pc := 100) hG dX12_told_100 f_12_826 lay_146 rfl ?_
      refine sx_goto (pc := 103) (tgt := 107) dX12_told_103 (by decide) ?_
      exact sv_iret (pc := 107) dX12_told_107 rfl h hP
  have h := sx_neg c7 h
  by_cases c9 : l1 = 6
  · have h := sx_pos c9 h
    refine sx_tabI (pc := 1) (off := 107) (tgt := 108) dX12_told_1 (by rw [c9]; decide) (by rw [c9]; decide) (by rw [c9]; rfl) (by decide) ?_
    refine sx_aload_n (pc := 108) dX12_told_108 sx_m0 ?_
    refine sv_getI (pc := 109) hG dX12_told_109 f_12_621 lay_146 rfl ?_
    exact sv_iret (pc := 112) dX12_told_112 rfl h hP
  have h := sx_neg c9 h
  by_cases c10 : l1 = 7
  · have h := sx_pos c10 h
    refine sx_tabI (pc := 1) (off := 112) (tgt := 113) dX12_told_1 (by rw [c10]; decide) (by rw [c10]; decide) (by rw [c10]; rfl) (by decide) ?_
    refine sx_aload_n (pc := 113) dX12_told_113 sx_m0 ?_
    refine sv_getZ (pc := 114) hG dX12_told_114 f_12_767 lay_146 rfl ?_
    refine sx_if_ne (pc := 117) (tgt := 124) dX12_told_117 (by decide) (fun c11 => ?_) (fun c11 => ?_)
    · have h := sx_neg c11 h
      refine sx_aload_n (pc := 124) dX12_told_124 sx_m0 ?_
      refine sv_getZ (pc := 125) hG dX12_told_125 f_12_764 lay_146 rfl ?_
      refine sx_if_eq (pc := 128) (tgt := 138) dX12_told_128 (by decide) (fun c12 => ?_) (fun c12 => ?_)
      · have h := sx_pos c12 h
        refine sx_aload_n (pc := 138) dX12_told_138 sx_m0 ?_
        refine sv_getA (pc := 139) hG dX12_told_139 f_12_140 lay_146 rfl cr_146_116 ?_
        refine sx_bipush (pc := 142) (v := 7) dX12_told_142 (by decide) ?_
        refine sv_iald (pc := 144) hG dX12_told_144 lay_188 (by decide) ?_
        exact sv_iret (pc := 145) dX12_told_145 rfl h hP
      · have h := sx_neg c12 h
        refine sx_aload_n (pc := 131) dX12_told_131 sx_m0 ?_
        refine sv_getI (pc := 132) hG dX12_told_132 f_12_798 lay_146 rfl ?_
        refine sx_goto (pc := 135) (tgt := 145) dX12_told_135 (by decide) ?_
        exact sv_iret (pc := 145) dX12_told_145 rfl h hP
    · have h := sx_pos c11 h
      refine sx_iconst (pc := 120) (v := 0) dX12_told_120 (by decide) ?_
      refine sx_goto (pc := 121) (tgt := 145) dX12_told_121 (by decide) ?_
      exact sv_iret (pc := 145) dX12_told_145 rfl h hP
  have h := sx_neg c10 h
  by_cases c13 : l1 = 8
  · have h := sx_pos c13 h
    refine sx_tabI (pc := 1) (off := 145) (tgt := 146) dX12_told_1 (by rw [c13]; decide) (by rw [c13]; decide) (by rw [c13]; rfl) (by decide) ?_
    refine sx_aload_n (pc := 146) dX12_told_146 sx_m0 ?_
    refine sv_getZ (pc := 147) hG dX12_told_147 f_12_767 lay_146 rfl ?_
    refine sx_if_ne (pc := 150) (tgt := 157) dX12_told_150 (by decide) (fun c14 => ?_) (fun c14 => ?_)
    · have h := sx_neg c14 h
      refine sx_aload_n (pc := 157) dX12_told_157 sx_m0 ?_
      refine sv_getZ (pc := 158) hG dX12_told_158 f_12_764 lay_146 rfl ?_
      refine sx_if_eq (pc := 161) (tgt := 171) dX12_told_161 (by decide) (fun c15 => ?_) (fun c15 => ?_)
      · have h := sx_pos c15 h
        refine sx_aload_n (pc := 171) dX12_told_171 sx_m0 ?_
        refine sv_getA (pc := 172) hG dX12_told_172 f_12_140 lay_146 rfl cr_146_116 ?_
        refine sx_bipush (pc := 175) (v := 8) dX12_told_175 (by decide) ?_
        refine sv_iald (pc := 177) hG dX12_told_177 lay_188 (by decide) ?_
        exact sv_iret (pc := 178) dX12_told_178 rfl h hP
      · have h := sx_neg c15 h
        refine sx_aload_n (pc := 164) dX12_told_164 sx_m0 ?_
        refine sv_getI (pc := 165) hG dX12_told_165 f_12_801 lay_146 rfl ?_
        refine sx_goto (pc := 168) (tgt := 178) dX12_told_168 (by decide) ?_
        exact sv_iret (pc := 178) dX12_told_178 rfl h hP
    · have h := sx_pos c14 h
      refine sx_iconst (pc := 153) (v := 0) dX12_told_153 (by decide) ?_
      refine sx_goto (pc := 154) (tgt := 178) dX12_told_154 (by decide) ?_
      exact sv_iret (pc := 178) dX12_told_178 rfl h hP
  have h := sx_neg c13 h
  by_cases c16 : l1 = 9
  · have h := sx_pos c16 h
    refine sx_tabI (pc := 1) (off := 178) (tgt := 179) dX12_told_1 (by rw [c16]; decide) (by rw [c16]; decide) (by rw [c16]; rfl) (by decide) ?_
    refine sx_aload_n (pc := 179) dX12_told_179 sx_m0 ?_
    refine sv_getI (pc := 180) hG dX12_told_180 f_12_424 lay_146 rfl ?_
    exact sv_iret (pc := 183) dX12_told_183 rfl h hP
  have h := sx_neg c16 h
  refine sx_tabO (pc := 1) (tgt := 184) dX12_told_1 (by have ec1 := lv_neT (a := 0) c1 rfl; have ec2 := lv_neT (a := 1) c2 rfl; have ec3 := lv_neT (a := 2) c3 rfl; have ec4 := lv_neT (a := 3) c4 rfl; have ec5 := lv_neT (a := 4) c5 rfl; have ec7 := lv_neT (a := 5) c7 rfl; have ec9 := lv_neT (a := 6) c9 rfl; have ec10 := lv_neT (a := 7) c10 rfl; have ec13 := lv_neT (a := 8) c13 rfl; have ec16 := lv_neT (a := 9) c16 rfl; omega) (by decide) ?_
  refine sx_iconst (pc := 184) (v := 0) dX12_told_184 (by decide) ?_
  exact sv_iret (pc := 185) dX12_told_185 rfl h hP
theorem dX12_held_0 : decode cX12_held 0 = .ok (.aload_n 0, 1) := by decide +kernel
theorem dX12_held_1 : decode cX12_held 1 = .ok (.getfield 767, 3) := by decide +kernel
theorem dX12_held_4 : decode cX12_held 4 = .ok (.ifCond .ne 5, 3) := by decide +kernel
theorem dX12_held_7 : decode cX12_held 7 = .ok (.iconst 0, 1) := by decide +kernel
theorem dX12_held_8 : decode cX12_held 8 = .ok (.ireturn, 1) := by decide +kernel
theorem dX12_held_9 : decode cX12_held 9 = .ok (.iload_n 1, 1) := by decide +kernel
theorem dX12_held_10 : decode cX12_held 10 = .ok (.ifCond .ne 30, 3) := by decide +kernel
theorem dX12_held_13 : decode cX12_held 13 = .ok (.iload_n 2, 1) := by decide +kernel
theorem dX12_held_14 : decode cX12_held 14 = .ok (.i2l, 1) := by decide +kernel
theorem dX12_held_15 : decode cX12_held 15 = .ok (.lconst 0, 1) := by decide +kernel
theorem dX12_held_16 : decode cX12_held 16 = .ok (.aload_n 0, 1) := by decide +kernel
theorem dX12_held_17 : decode cX12_held 17 = .ok (.getfield 294, 3) := by decide +kernel
theorem dX12_held_20 : decode cX12_held 20 = .ok (.iconst 1, 1) := by decide +kernel
theorem dX12_held_21 : decode cX12_held 21 = .ok (.isub, 1) := by decide +kernel
theorem dX12_held_22 : decode cX12_held 22 = .ok (.i2l, 1) := by decide +kernel
theorem dX12_held_23 : decode cX12_held 23 = .ok (.invokestatic 263, 3) := by decide +kernel
theorem dX12_held_26 : decode cX12_held 26 = .ok (.ifCond .eq 12, 3) := by decide +kernel
theorem dX12_held_29 : decode cX12_held 29 = .ok (.aload_n 0, 1) := by decide +kernel
theorem dX12_held_30 : decode cX12_held 30 = .ok (.getfield 131, 3) := by decide +kernel
theorem dX12_held_33 : decode cX12_held 33 = .ok (.iload_n 2, 1) := by decide +kernel
theorem dX12_held_34 : decode cX12_held 34 = .ok (.iaload, 1) := by decide +kernel
theorem dX12_held_35 : decode cX12_held 35 = .ok (.goto 4, 3) := by decide +kernel
theorem dX12_held_38 : decode cX12_held 38 = .ok (.iconst 0, 1) := by decide +kernel
theorem dX12_held_39 : decode cX12_held 39 = .ok (.ireturn, 1) := by decide +kernel
theorem dX12_held_40 : decode cX12_held 40 = .ok (.iload_n 1, 1) := by decide +kernel
theorem dX12_held_41 : decode cX12_held 41 = .ok (.iconst 1, 1) := by decide +kernel
theorem dX12_held_42 : decode cX12_held 42 = .ok (.if_icmp .ne 30, 3) := by decide +kernel
theorem dX12_held_45 : decode cX12_held 45 = .ok (.iload_n 2, 1) := by decide +kernel
theorem dX12_held_46 : decode cX12_held 46 = .ok (.i2l, 1) := by decide +kernel
theorem dX12_held_47 : decode cX12_held 47 = .ok (.lconst 0, 1) := by decide +kernel
theorem dX12_held_48 : decode cX12_held 48 = .ok (.aload_n 0, 1) := by decide +kernel
theorem dX12_held_49 : decode cX12_held 49 = .ok (.getfield 319, 3) := by decide +kernel
theorem dX12_held_52 : decode cX12_held 52 = .ok (.iconst 1, 1) := by decide +kernel
theorem dX12_held_53 : decode cX12_held 53 = .ok (.isub, 1) := by decide +kernel
theorem dX12_held_54 : decode cX12_held 54 = .ok (.i2l, 1) := by decide +kernel
theorem dX12_held_55 : decode cX12_held 55 = .ok (.invokestatic 263, 3) := by decide +kernel
theorem dX12_held_58 : decode cX12_held 58 = .ok (.ifCond .eq 12, 3) := by decide +kernel
theorem dX12_held_61 : decode cX12_held 61 = .ok (.aload_n 0, 1) := by decide +kernel
theorem dX12_held_62 : decode cX12_held 62 = .ok (.getfield 134, 3) := by decide +kernel
theorem dX12_held_65 : decode cX12_held 65 = .ok (.iload_n 2, 1) := by decide +kernel
theorem dX12_held_66 : decode cX12_held 66 = .ok (.iaload, 1) := by decide +kernel
theorem dX12_held_67 : decode cX12_held 67 = .ok (.goto 4, 3) := by decide +kernel
theorem dX12_held_70 : decode cX12_held 70 = .ok (.iconst 0, 1) := by decide +kernel
theorem dX12_held_71 : decode cX12_held 71 = .ok (.ireturn, 1) := by decide +kernel
theorem dX12_held_72 : decode cX12_held 72 = .ok (.iload_n 1, 1) := by decide +kernel
theorem dX12_held_73 : decode cX12_held 73 = .ok (.i2l, 1) := by decide +kernel
theorem dX12_held_74 : decode cX12_held 74 = .ok (.ldc2_w 336, 3) := by decide +kernel
theorem dX12_held_77 : decode cX12_held 77 = .ok (.ldc2_w 922, 3) := by decide +kernel
theorem dX12_held_80 : decode cX12_held 80 = .ok (.invokestatic 263, 3) := by decide +kernel
theorem dX12_held_83 : decode cX12_held 83 = .ok (.ifCond .eq 34, 3) := by decide +kernel
theorem dX12_held_86 : decode cX12_held 86 = .ok (.iload_n 2, 1) := by decide +kernel
theorem dX12_held_87 : decode cX12_held 87 = .ok (.i2l, 1) := by decide +kernel
theorem dX12_held_88 : decode cX12_held 88 = .ok (.lconst 0, 1) := by decide +kernel
theorem dX12_held_89 : decode cX12_held 89 = .ok (.aload_n 0, 1) := by decide +kernel
theorem dX12_held_90 : decode cX12_held 90 = .ok (.getfield 316, 3) := by decide +kernel
theorem dX12_held_93 : decode cX12_held 93 = .ok (.iconst 1, 1) := by decide +kernel
theorem dX12_held_94 : decode cX12_held 94 = .ok (.isub, 1) := by decide +kernel
theorem dX12_held_95 : decode cX12_held 95 = .ok (.i2l, 1) := by decide +kernel
theorem dX12_held_96 : decode cX12_held 96 = .ok (.invokestatic 263, 3) := by decide +kernel
theorem dX12_held_99 : decode cX12_held 99 = .ok (.ifCond .eq 18, 3) := by decide +kernel
theorem dX12_held_102 : decode cX12_held 102 = .ok (.aload_n 0, 1) := by decide +kernel
theorem dX12_held_103 : decode cX12_held 103 = .ok (.getfield 137, 3) := by decide +kernel
theorem dX12_held_106 : decode cX12_held 106 = .ok (.iconst 4, 1) := by decide +kernel
theorem dX12_held_107 : decode cX12_held 107 = .ok (.iload_n 2, 1) := by decide +kernel
theorem dX12_held_108 : decode cX12_held 108 = .ok (.imul, 1) := by decide +kernel
theorem dX12_held_109 : decode cX12_held 109 = .ok (.iload_n 1, 1) := by decide +kernel
theorem dX12_held_110 : decode cX12_held 110 = .ok (.iadd, 1) := by decide +kernel
theorem dX12_held_111 : decode cX12_held 111 = .ok (.iconst 2, 1) := by decide +kernel
theorem dX12_held_112 : decode cX12_held 112 = .ok (.isub, 1) := by decide +kernel
theorem dX12_held_113 : decode cX12_held 113 = .ok (.iaload, 1) := by decide +kernel
theorem dX12_held_114 : decode cX12_held 114 = .ok (.goto 4, 3) := by decide +kernel
theorem dX12_held_117 : decode cX12_held 117 = .ok (.iconst 0, 1) := by decide +kernel
theorem dX12_held_118 : decode cX12_held 118 = .ok (.ireturn, 1) := by decide +kernel
def F_X12_held (l1 : Int32) (l2 : Int32) (V : sv_V) : Option (Int32 × sv_V) := if (V.1 146 107) = 0 then (some ((0 : Int32), V)) else (if l1 = 0 then ((F_X12_in l2.toInt64 (0 : Int64) (((V.1 146 25) - (1 : Int32)).toInt64) V).bind (fun (x20, V18) => if x20 = 0 then (some ((0 : Int32), V18)) else (if sx_in l2 256 = true then some (V18.1 185 l2.toNatClampNeg, V18) else none))) else (if l1 = (1 : Int32) then ((F_X12_in l2.toInt64 (0 : Int64) (((V.1 146 15) - (1 : Int32)).toInt64) V).bind (fun (x15, V13) => if x15 = 0 then (some ((0 : Int32), V13)) else (if sx_in l2 64 = true then some (V13.1 186 l2.toNatClampNeg, V13) else none))) else ((F_X12_in l1.toInt64 (2 : Int64) (5 : Int64) V).bind (fun (x6, V4) => if x6 = 0 then (some ((0 : Int32), V4)) else ((F_X12_in l2.toInt64 (0 : Int64) (((V4.1 146 14) - (1 : Int32)).toInt64) V4).bind (fun (x10, V8) => if x10 = 0 then (some ((0 : Int32), V8)) else (if sx_in ((((4 : Int32) * l2) + l1) - (2 : Int32)) 256 = true then some (V8.1 187 ((((4 : Int32) * l2) + l1) - (2 : Int32)).toNatClampNeg, V8) else none)))))))
set_option maxRecDepth 20000 in
theorem t_X12_held {g : sx_G} (hG : sx_Go g) {P : Option Value → sv_V → Prop} {r : Int32} {Vr : sv_V} (hP : P (some (.int r)) Vr) {l1 : Int32} {l2 : Int32} {V : sv_V} (h : F_X12_held l1 l2 V = some (r, Vr)) : sv_N g qX12_held 1 0 [(0, .ref 146), (1, .int l1), (2, .int l2)] [] V P := by
  unfold F_X12_held at h
  refine sx_aload_n (pc := 0) dX12_held_0 sx_m0 ?_
  refine sv_getZ (pc := 1) hG dX12_held_1 f_12_767 lay_146 rfl ?_
  refine sx_if_ne (pc := 4) (tgt := 9) dX12_held_4 (by decide) (fun c1 => ?_) (fun c1 => ?_)
  · have h := sx_neg c1 h
    refine sx_iload_n (pc := 9) dX12_held_9 sx_m1 ?_
    refine sx_if_ne (pc := 10) (tgt := 40) dX12_held_10 (by decide) (fun c2 => ?_) (fun c2 => ?_)
    · have h := sx_neg c2 h
      refine sx_iload_n (pc := 40) dX12_held_40 sx_m1 ?_
      refine sx_iconst (pc := 41) (v := 1) dX12_held_41 (by decide) ?_
      refine sx_icmp_ne (pc := 42) (tgt := 72) dX12_held_42 (by decide) (fun c3 => ?_) (fun c3 => ?_)
      · have h := sx_neg c3 h
        refine sx_iload_n (pc := 72) dX12_held_72 sx_m1 ?_
        refine sx_i2l (pc := 73) dX12_held_73 ?_
        refine sx_ldc2 (pc := 74) dX12_held_74 k_X12_336 ?_
        refine sx_ldc2 (pc := 77) dX12_held_77 k_X12_922 ?_
        obtain ⟨⟨x6, V4⟩, g5, h⟩ := sx_bnd h
        refine sv_cS (pc := 80) (y := qX12_in) (o := (some (.int x6))) (as := [.long l1.toInt64, .long (2 : Int64), .long (5 : Int64)]) (V1 := V4) dX12_held_80 l_X12_263 y0X12_in ysX12_in rfl (Nat.le_of_ble_eq_true rfl) (by decide) (Nat.le_of_ble_eq_true rfl) rfl rfl rfl (t_X12_in hG ⟨rfl, rfl⟩ g5) ?_
        refine sx_if_eq (pc := 83) (tgt := 117) dX12_held_83 (by decide) (fun c7 => ?_) (fun c7 => ?_)
        · have h := sx_pos c7 h
          refine sx_iconst (pc := 117) (v := 0) dX12_held_117 (by decide) ?_
          exact sv_iret (pc := 118) dX12_held_118 rfl h hP
        · have h := sx_neg c7 h
          refine sx_iload_n (pc := 86) dX12_held_86 sx_m2 ?_
          refine sx_i2l (pc := 87) dX12_held_87 ?_
          refine sx_lconst (pc := 88) (v := 0) dX12_held_88 rfl ?_
          refine sx_aload_n (pc := 89) dX12_held_89 sx_m0 ?_
          refine sv_getI (pc := 90) hG dX12_held_90 f_12_316 lay_146 rfl ?_
          refine sx_iconst (pc := 93) (v := 1) dX12_held_93 (by decide) ?_
          refine sx_isub (pc := 94) dX12_held_94 ?_
          refine sx_i2l (pc := 95) dX12_held_95 ?_
          obtain ⟨⟨x10, V8⟩, g9, h⟩ := sx_bnd h
          refine sv_cS (pc := 96) (y := qX12_in) (o := (some (.int x10))) (as := [.long l2.toInt64, .long (0 : Int64), .long (((V4.1 146 14) - (1 : Int32)).toInt64)]) (V1 := V8) dX12_held_96 l_X12_263 y0X12_in ysX12_in rfl (Nat.le_of_ble_eq_true rfl) (by decide) (Nat.le_of_ble_eq_true rfl) rfl rfl rfl (t_X12_in hG ⟨rfl, rfl⟩ g9) ?_
          refine sx_if_eq (pc := 99) (tgt := 117) dX12_held_99 (by decide) (fun c11 => ?_) (fun c11 => ?_)
          · have h := sx_pos c11 h
            refine sx_iconst (pc := 117) (v := 0) dX12_held_117 (by decide) ?_
            exact sv_iret (pc := 118) dX12_held_118 rfl h hP
          · have h := sx_neg c11 h
            refine sx_aload_n (pc := 102) dX12_held_102 sx_m0 ?_
            refine sv_getA (pc := 103) hG dX12_held_103 f_12_137 lay_146 rfl cr_146_115 ?_
            refine sx_iconst (pc := 106) (v := 4) dX12_held_106 (by decide) ?_
            refine sx_iload_n (pc := 107) dX12_held_107 sx_m2 ?_
            refine sx_imul (pc := 108) dX12_held_108 ?_
            refine sx_iload_n (pc := 109) dX12_held_109 sx_m1 ?_
            refine sx_iadd (pc := 110) dX12_held_110 ?_
            refine sx_iconst (pc := 111) (v := 2) dX12_held_111 (by decide) ?_
            refine sx_isub (pc := 112) dX12_held_112 ?_
            obtain ⟨g12, h⟩ := sx_grd h
            refine sv_iald (pc := 113) hG dX12_held_113 lay_187 g12 ?_
            refine sx_goto (pc := 114) (tgt := 118) dX12_held_114 (by decide) ?_
            exact sv_iret (pc := 118) dX12_held_118 rfl h hP
      · have h := sx_pos c3 h
        refine sx_iload_n (pc := 45) dX12_held_45 sx_m2 ?_
        refine sx_i2l (pc := 46) dX12_held_46 ?_
        refine sx_lconst (pc := 47) (v := 0) dX12_held_47 rfl ?_
        refine sx_aload_n (pc := 48) dX12_held_48 sx_m0 ?_
        refine sv_getI (pc := 49) hG dX12_held_49 f_12_319 lay_146 rfl ?_
        refine sx_iconst (pc := 52) (v := 1) dX12_held_52 (by decide) ?_
        refine sx_isub (pc := 53) dX12_held_53 ?_
        refine sx_i2l (pc := 54) dX12_held_54 ?_
        obtain ⟨⟨x15, V13⟩, g14, h⟩ := sx_bnd h
        refine sv_cS (pc := 55) (y := qX12_in) (o := (some (.int x15))) (as := [.long l2.toInt64, .long (0 : Int64), .long (((V.1 146 15) - (1 : Int32)).toInt64)]) (V1 := V13) dX12_held_55 l_X12_263 y0X12_in ysX12_in rfl (Nat.le_of_ble_eq_true rfl) (by decide) (Nat.le_of_ble_eq_true rfl) rfl rfl rfl (t_X12_in hG ⟨rfl, rfl⟩ g14) ?_
        refine sx_if_eq (pc := 58) (tgt := 70) dX12_held_58 (by decide) (fun c16 => ?_) (fun c16 => ?_)
        · have h := sx_pos c16 h
          refine sx_iconst (pc := 70) (v := 0) dX12_held_70 (by decide) ?_
          exact sv_iret (pc := 71) dX12_held_71 rfl h hP
        · have h := sx_neg c16 h
          refine sx_aload_n (pc := 61) dX12_held_61 sx_m0 ?_
          refine sv_getA (pc := 62) hG dX12_held_62 f_12_134 lay_146 rfl cr_146_114 ?_
          refine sx_iload_n (pc := 65) dX12_held_65 sx_m2 ?_
          obtain ⟨g17, h⟩ := sx_grd h
          refine sv_iald (pc := 66) hG dX12_held_66 lay_186 g17 ?_
          refine sx_goto (pc := 67) (tgt := 71) dX12_held_67 (by decide) ?_
          exact sv_iret (pc := 71) dX12_held_71 rfl h hP
    · have h := sx_pos c2 h
      refine sx_iload_n (pc := 13) dX12_held_13 sx_m2 ?_
      refine sx_i2l (pc := 14) dX12_held_14 ?_
      refine sx_lconst (pc := 15) (v := 0) dX12_held_15 rfl ?_
      refine sx_aload_n (pc := 16) dX12_held_16 sx_m0 ?_
      refine sv_getI (pc := 17) hG dX12_held_17 f_12_294 lay_146 rfl ?_
      refine sx_iconst (pc := 20) (v := 1) dX12_held_20 (by decide) ?_
      refine sx_isub (pc := 21) dX12_held_21 ?_
      refine sx_i2l (pc := 22) dX12_held_22 ?_
      obtain ⟨⟨x20, V18⟩, g19, h⟩ := sx_bnd h
      refine sv_cS (pc := 23) (y := qX12_in) (o := (some (.int x20))) (as := [.long l2.toInt64, .long (0 : Int64), .long (((V.1 146 25) - (1 : Int32)).toInt64)]) (V1 := V18) dX12_held_23 l_X12_263 y0X12_in ysX12_in rfl (Nat.le_of_ble_eq_true rfl) (by decide) (Nat.le_of_ble_eq_true rfl) rfl rfl rfl (t_X12_in hG ⟨rfl, rfl⟩ g19) ?_
      refine sx_if_eq (pc := 26) (tgt := 38) dX12_held_26 (by decide) (fun c21 => ?_) (fun c21 => ?_)
      · have h := sx_pos c21 h
        refine sx_iconst (pc := 38) (v := 0) dX12_held_38 (by decide) ?_
        exact sv_iret (pc := 39) dX12_held_39 rfl h hP
      · have h := sx_neg c21 h
        refine sx_aload_n (pc := 29) dX12_held_29 sx_m0 ?_
        refine sv_getA (pc := 30) hG dX12_held_30 f_12_131 lay_146 rfl cr_146_113 ?_
        refine sx_iload_n (pc := 33) dX12_held_33 sx_m2 ?_
        obtain ⟨g22, h⟩ := sx_grd h
        refine sv_iald (pc := 34) hG dX12_held_34 lay_185 g22 ?_
        refine sx_goto (pc := 35) (tgt := 39) dX12_held_35 (by decide) ?_
        exact sv_iret (pc := 39) dX12_held_39 rfl h hP
  · have h := sx_pos c1 h
    refine sx_iconst (pc := 7) (v := 0) dX12_held_7 (by decide) ?_
    exact sv_iret (pc := 8) dX12_held_8 rfl h hP
theorem dJ9_floorDiv_f86c9_0 : decode cJ9_floorDiv_f86c9 0 = .ok (.lload_n 0, 1) := by decide +kernel
theorem dJ9_floorDiv_f86c9_1 : decode cJ9_floorDiv_f86c9 1 = .ok (.lload_n 2, 1) := by decide +kernel
theorem dJ9_floorDiv_f86c9_2 : decode cJ9_floorDiv_f86c9 2 = .ok (.ldiv, 1) := by decide +kernel
theorem dJ9_floorDiv_f86c9_3 : decode cJ9_floorDiv_f86c9 3 = .ok (.lstore 4, 2) := by decide +kernel
theorem dJ9_floorDiv_f86c9_5 : decode cJ9_floorDiv_f86c9 5 = .ok (.lload_n 0, 1) := by decide +kernel
theorem dJ9_floorDiv_f86c9_6 : decode cJ9_floorDiv_f86c9 6 = .ok (.lload_n 2, 1) := by decide +kernel
theorem dJ9_floorDiv_f86c9_7 : decode cJ9_floorDiv_f86c9 7 = .ok (.lxor, 1) := by decide +kernel
theorem dJ9_floorDiv_f86c9_8 : decode cJ9_floorDiv_f86c9 8 = .ok (.lconst 0, 1) := by decide +kernel
theorem dJ9_floorDiv_f86c9_9 : decode cJ9_floorDiv_f86c9 9 = .ok (.lcmp, 1) := by decide +kernel
theorem dJ9_floorDiv_f86c9_10 : decode cJ9_floorDiv_f86c9 10 = .ok (.ifCond .ge 17, 3) := by decide +kernel
theorem dJ9_floorDiv_f86c9_13 : decode cJ9_floorDiv_f86c9 13 = .ok (.lload 4, 2) := by decide +kernel
theorem dJ9_floorDiv_f86c9_15 : decode cJ9_floorDiv_f86c9 15 = .ok (.lload_n 2, 1) := by decide +kernel
theorem dJ9_floorDiv_f86c9_16 : decode cJ9_floorDiv_f86c9 16 = .ok (.lmul, 1) := by decide +kernel
theorem dJ9_floorDiv_f86c9_17 : decode cJ9_floorDiv_f86c9 17 = .ok (.lload_n 0, 1) := by decide +kernel
theorem dJ9_floorDiv_f86c9_18 : decode cJ9_floorDiv_f86c9 18 = .ok (.lcmp, 1) := by decide +kernel
theorem dJ9_floorDiv_f86c9_19 : decode cJ9_floorDiv_f86c9 19 = .ok (.ifCond .eq 8, 3) := by decide +kernel
theorem dJ9_floorDiv_f86c9_22 : decode cJ9_floorDiv_f86c9 22 = .ok (.lload 4, 2) := by decide +kernel
theorem dJ9_floorDiv_f86c9_24 : decode cJ9_floorDiv_f86c9 24 = .ok (.lconst 1, 1) := by decide +kernel
theorem dJ9_floorDiv_f86c9_25 : decode cJ9_floorDiv_f86c9 25 = .ok (.lsub, 1) := by decide +kernel
theorem dJ9_floorDiv_f86c9_26 : decode cJ9_floorDiv_f86c9 26 = .ok (.lreturn, 1) := by decide +kernel
theorem dJ9_floorDiv_f86c9_27 : decode cJ9_floorDiv_f86c9 27 = .ok (.lload 4, 2) := by decide +kernel
theorem dJ9_floorDiv_f86c9_29 : decode cJ9_floorDiv_f86c9 29 = .ok (.lreturn, 1) := by decide +kernel
def F_J9_floorDiv_f86c9 (l0 : Int64) (l2 : Int64) (V : sv_V) : Option (Int64 × sv_V) := if ¬ l2 = 0 then sx_let (l0 / l2) (fun x2 => if 0 ≤ (lg_cmp (l0 ^^^ l2) (0 : Int64)) then (some (x2, V)) else (if (lg_cmp (x2 * l2) l0) = 0 then (some (x2, V)) else (some (x2 - (1 : Int64), V)))) else none
set_option maxRecDepth 20000 in
theorem t_J9_floorDiv_f86c9 {g : sx_G} (hG : sx_Go g) {P : Option Value → sv_V → Prop} {r : Int64} {Vr : sv_V} (hP : P (some (.long r)) Vr) {l0 : Int64} {l2 : Int64} {V : sv_V} (h : F_J9_floorDiv_f86c9 l0 l2 V = some (r, Vr)) : sv_N g qJ9_floorDiv_f86c9 0 0 [(0, .long l0), (2, .long l2)] [] V P := by
  unfold F_J9_floorDiv_f86c9 at h
  refine sx_lload_n (pc := 0) dJ9_floorDiv_f86c9_0 sx_m0 ?_
  refine sx_lload_n (pc := 1) dJ9_floorDiv_f86c9_1 sx_m1 ?_
  obtain ⟨g1, h⟩ := sx_grd h
  refine sx_ldiv (pc := 2) dJ9_floorDiv_f86c9_2 g1 ?_
  refine sv_tJ (fun x2 hx2 => ?_)
  have h := sx_letE hx2 h
  refine sx_lstore (pc := 3) (lo' := [(4, .long x2), (0, .long l0), (2, .long l2)]) dJ9_floorDiv_f86c9_3 (by decide) rfl ?_
  refine sx_lload_n (pc := 5) dJ9_floorDiv_f86c9_5 sx_m1 ?_
  refine sx_lload_n (pc := 6) dJ9_floorDiv_f86c9_6 sx_m2 ?_
  refine sx_lxor (pc := 7) dJ9_floorDiv_f86c9_7 ?_
  refine sx_lconst (pc := 8) (v := 0) dJ9_floorDiv_f86c9_8 rfl ?_
  refine sx_lcmp (pc := 9) dJ9_floorDiv_f86c9_9 ?_
  refine sx_if_ge (pc := 10) (tgt := 27) dJ9_floorDiv_f86c9_10 (by decide) (fun c3 => ?_) (fun c3 => ?_)
  · have h := sx_pos c3 h
    refine sx_lload (pc := 27) dJ9_floorDiv_f86c9_27 sx_m0 ?_
    exact sv_lret (pc := 29) dJ9_floorDiv_f86c9_29 rfl h hP
  · have h := sx_neg c3 h
    refine sx_lload (pc := 13) dJ9_floorDiv_f86c9_13 sx_m0 ?_
    refine sx_lload_n (pc := 15) dJ9_floorDiv_f86c9_15 sx_m2 ?_
    refine sx_lmul (pc := 16) dJ9_floorDiv_f86c9_16 ?_
    refine sx_lload_n (pc := 17) dJ9_floorDiv_f86c9_17 sx_m1 ?_
    refine sx_lcmp (pc := 18) dJ9_floorDiv_f86c9_18 ?_
    refine sx_if_eq (pc := 19) (tgt := 27) dJ9_floorDiv_f86c9_19 (by decide) (fun c4 => ?_) (fun c4 => ?_)
    · have h := sx_pos c4 h
      refine sx_lload (pc := 27) dJ9_floorDiv_f86c9_27 sx_m0 ?_
      exact sv_lret (pc := 29) dJ9_floorDiv_f86c9_29 rfl h hP
    · have h := sx_neg c4 h
      refine sx_lload (pc := 22) dJ9_floorDiv_f86c9_22 sx_m0 ?_
      refine sx_lconst (pc := 24) (v := 1) dJ9_floorDiv_f86c9_24 rfl ?_
      refine sx_lsub (pc := 25) dJ9_floorDiv_f86c9_25 ?_
      exact sv_lret (pc := 26) dJ9_floorDiv_f86c9_26 rfl h hP
theorem dJ9_abs_067f4_0 : decode cJ9_abs_067f4 0 = .ok (.lload_n 0, 1) := by decide +kernel
theorem dJ9_abs_067f4_1 : decode cJ9_abs_067f4 1 = .ok (.lconst 0, 1) := by decide +kernel
theorem dJ9_abs_067f4_2 : decode cJ9_abs_067f4 2 = .ok (.lcmp, 1) := by decide +kernel
theorem dJ9_abs_067f4_3 : decode cJ9_abs_067f4 3 = .ok (.ifCond .ge 8, 3) := by decide +kernel
theorem dJ9_abs_067f4_6 : decode cJ9_abs_067f4 6 = .ok (.lload_n 0, 1) := by decide +kernel
theorem dJ9_abs_067f4_7 : decode cJ9_abs_067f4 7 = .ok (.lneg, 1) := by decide +kernel
theorem dJ9_abs_067f4_8 : decode cJ9_abs_067f4 8 = .ok (.goto 4, 3) := by decide +kernel
theorem dJ9_abs_067f4_11 : decode cJ9_abs_067f4 11 = .ok (.lload_n 0, 1) := by decide +kernel
theorem dJ9_abs_067f4_12 : decode cJ9_abs_067f4 12 = .ok (.lreturn, 1) := by decide +kernel
def F_J9_abs_067f4 (l0 : Int64) (V : sv_V) : Option (Int64 × sv_V) := if 0 ≤ (lg_cmp l0 (0 : Int64)) then (some (l0, V)) else (some (-l0, V))
set_option maxRecDepth 20000 in
theorem t_J9_abs_067f4 {g : sx_G} (hG : sx_Go g) {P : Option Value → sv_V → Prop} {r : Int64} {Vr : sv_V} (hP : P (some (.long r)) Vr) {l0 : Int64} {V : sv_V} (h : F_J9_abs_067f4 l0 V = some (r, Vr)) : sv_N g qJ9_abs_067f4 0 0 [(0, .long l0)] [] V P := by
  unfold F_J9_abs_067f4 at h
  refine sx_lload_n (pc := 0) dJ9_abs_067f4_0 sx_m0 ?_
  refine sx_lconst (pc := 1) (v := 0) dJ9_abs_067f4_1 rfl ?_
  refine sx_lcmp (pc := 2) dJ9_abs_067f4_2 ?_
  refine sx_if_ge (pc := 3) (tgt := 11) dJ9_abs_067f4_3 (by decide) (fun c1 => ?_) (fun c1 => ?_)
  · have h := sx_pos c1 h
    refine sx_lload_n (pc := 11) dJ9_abs_067f4_11 sx_m0 ?_
    exact sv_lret (pc := 12) dJ9_abs_067f4_12 rfl h hP
  · have h := sx_neg c1 h
    refine sx_lload_n (pc := 6) dJ9_abs_067f4_6 sx_m0 ?_
    refine sx_lneg (pc := 7) dJ9_abs_067f4_7 ?_
    refine sx_goto (pc := 8) (tgt := 12) dJ9_abs_067f4_8 (by decide) ?_
    exact sv_lret (pc := 12) dJ9_abs_067f4_12 rfl h hP
theorem dJ9_max_7cf53_0 : decode cJ9_max_7cf53 0 = .ok (.iload_n 0, 1) := by decide +kernel
theorem dJ9_max_7cf53_1 : decode cJ9_max_7cf53 1 = .ok (.iload_n 1, 1) := by decide +kernel
theorem dJ9_max_7cf53_2 : decode cJ9_max_7cf53 2 = .ok (.if_icmp .lt 7, 3) := by decide +kernel
theorem dJ9_max_7cf53_5 : decode cJ9_max_7cf53 5 = .ok (.iload_n 0, 1) := by decide +kernel
theorem dJ9_max_7cf53_6 : decode cJ9_max_7cf53 6 = .ok (.goto 4, 3) := by decide +kernel
theorem dJ9_max_7cf53_9 : decode cJ9_max_7cf53 9 = .ok (.iload_n 1, 1) := by decide +kernel
theorem dJ9_max_7cf53_10 : decode cJ9_max_7cf53 10 = .ok (.ireturn, 1) := by decide +kernel
def F_J9_max_7cf53 (l0 : Int32) (l1 : Int32) (V : sv_V) : Option (Int32 × sv_V) := if l0 < l1 then (some (l1, V)) else (some (l0, V))
set_option maxRecDepth 20000 in
theorem t_J9_max_7cf53 {g : sx_G} (hG : sx_Go g) {P : Option Value → sv_V → Prop} {r : Int32} {Vr : sv_V} (hP : P (some (.int r)) Vr) {l0 : Int32} {l1 : Int32} {V : sv_V} (h : F_J9_max_7cf53 l0 l1 V = some (r, Vr)) : sv_N g qJ9_max_7cf53 0 0 [(0, .int l0), (1, .int l1)] [] V P := by
  unfold F_J9_max_7cf53 at h
  refine sx_iload_n (pc := 0) dJ9_max_7cf53_0 sx_m0 ?_
  refine sx_iload_n (pc := 1) dJ9_max_7cf53_1 sx_m1 ?_
  refine sx_icmp_lt (pc := 2) (tgt := 9) dJ9_max_7cf53_2 (by decide) (fun c1 => ?_) (fun c1 => ?_)
  · have h := sx_pos c1 h
    refine sx_iload_n (pc := 9) dJ9_max_7cf53_9 sx_m1 ?_
    exact sv_iret (pc := 10) dJ9_max_7cf53_10 rfl h hP
  · have h := sx_neg c1 h
    refine sx_iload_n (pc := 5) dJ9_max_7cf53_5 sx_m0 ?_
    refine sx_goto (pc := 6) (tgt := 10) dJ9_max_7cf53_6 (by decide) ?_
    exact sv_iret (pc := 10) dJ9_max_7cf53_10 rfl h hP
theorem dJ9_max_f86c9_0 : decode cJ9_max_f86c9 0 = .ok (.lload_n 0, 1) := by decide +kernel
theorem dJ9_max_f86c9_1 : decode cJ9_max_f86c9 1 = .ok (.lload_n 2, 1) := by decide +kernel
theorem dJ9_max_f86c9_2 : decode cJ9_max_f86c9 2 = .ok (.lcmp, 1) := by decide +kernel
theorem dJ9_max_f86c9_3 : decode cJ9_max_f86c9 3 = .ok (.ifCond .lt 7, 3) := by decide +kernel
theorem dJ9_max_f86c9_6 : decode cJ9_max_f86c9 6 = .ok (.lload_n 0, 1) := by decide +kernel
theorem dJ9_max_f86c9_7 : decode cJ9_max_f86c9 7 = .ok (.goto 4, 3) := by decide +kernel
theorem dJ9_max_f86c9_10 : decode cJ9_max_f86c9 10 = .ok (.lload_n 2, 1) := by decide +kernel
theorem dJ9_max_f86c9_11 : decode cJ9_max_f86c9 11 = .ok (.lreturn, 1) := by decide +kernel
def F_J9_max_f86c9 (l0 : Int64) (l2 : Int64) (V : sv_V) : Option (Int64 × sv_V) := if (lg_cmp l0 l2) < 0 then (some (l2, V)) else (some (l0, V))
set_option maxRecDepth 20000 in
theorem t_J9_max_f86c9 {g : sx_G} (hG : sx_Go g) {P : Option Value → sv_V → Prop} {r : Int64} {Vr : sv_V} (hP : P (some (.long r)) Vr) {l0 : Int64} {l2 : Int64} {V : sv_V} (h : F_J9_max_f86c9 l0 l2 V = some (r, Vr)) : sv_N g qJ9_max_f86c9 0 0 [(0, .long l0), (2, .long l2)] [] V P := by
  unfold F_J9_max_f86c9 at h
  refine sx_lload_n (pc := 0) dJ9_max_f86c9_0 sx_m0 ?_
  refine sx_lload_n (pc := 1) dJ9_max_f86c9_1 sx_m1 ?_
  refine sx_lcmp (pc := 2) dJ9_max_f86c9_2 ?_
  refine sx_if_lt (pc := 3) (tgt := 10) dJ9_max_f86c9_3 (by decide) (fun c1 => ?_) (fun c1 => ?_)
  · have h := sx_pos c1 h
    refine sx_lload_n (pc := 10) dJ9_max_f86c9_10 sx_m1 ?_
    exact sv_lret (pc := 11) dJ9_max_f86c9_11 rfl h hP
  · have h := sx_neg c1 h
    refine sx_lload_n (pc := 6) dJ9_max_f86c9_6 sx_m0 ?_
    refine sx_goto (pc := 7) (tgt := 11) dJ9_max_f86c9_7 (by decide) ?_
    exact sv_lret (pc := 11) dJ9_max_f86c9_11 rfl h hP
theorem dJ9_min_7cf53_0 : decode cJ9_min_7cf53 0 = .ok (.iload_n 0, 1) := by decide +kernel
theorem dJ9_min_7cf53_1 : decode cJ9_min_7cf53 1 = .ok (.iload_n 1, 1) := by decide +kernel
theorem dJ9_min_7cf53_2 : decode cJ9_min_7cf53 2 = .ok (.if_icmp .gt 7, 3) := by decide +kernel
theorem dJ9_min_7cf53_5 : decode cJ9_min_7cf53 5 = .ok (.iload_n 0, 1) := by decide +kernel
theorem dJ9_min_7cf53_6 : decode cJ9_min_7cf53 6 = .ok (.goto 4, 3) := by decide +kernel
theorem dJ9_min_7cf53_9 : decode cJ9_min_7cf53 9 = .ok (.iload_n 1, 1) := by decide +kernel
theorem dJ9_min_7cf53_10 : decode cJ9_min_7cf53 10 = .ok (.ireturn, 1) := by decide +kernel
def F_J9_min_7cf53 (l0 : Int32) (l1 : Int32) (V : sv_V) : Option (Int32 × sv_V) := if l1 < l0 then (some (l1, V)) else (some (l0, V))
set_option maxRecDepth 20000 in
theorem t_J9_min_7cf53 {g : sx_G} (hG : sx_Go g) {P : Option Value → sv_V → Prop} {r : Int32} {Vr : sv_V} (hP : P (some (.int r)) Vr) {l0 : Int32} {l1 : Int32} {V : sv_V} (h : F_J9_min_7cf53 l0 l1 V = some (r, Vr)) : sv_N g qJ9_min_7cf53 0 0 [(0, .int l0), (1, .int l1)] [] V P := by
  unfold F_J9_min_7cf53 at h
  refine sx_iload_n (pc := 0) dJ9_min_7cf53_0 sx_m0 ?_
  refine sx_iload_n (pc := 1) dJ9_min_7cf53_1 sx_m1 ?_
  refine sx_icmp_gt (pc := 2) (tgt := 9) dJ9_min_7cf53_2 (by decide) (fun c1 => ?_) (fun c1 => ?_)
  · have h := sx_pos c1 h
    refine sx_iload_n (pc := 9) dJ9_min_7cf53_9 sx_m1 ?_
    exact sv_iret (pc := 10) dJ9_min_7cf53_10 rfl h hP
  · have h := sx_neg c1 h
    refine sx_iload_n (pc := 5) dJ9_min_7cf53_5 sx_m0 ?_
    refine sx_goto (pc := 6) (tgt := 10) dJ9_min_7cf53_6 (by decide) ?_
    exact sv_iret (pc := 10) dJ9_min_7cf53_10 rfl h hP
theorem dJ9_min_f86c9_0 : decode cJ9_min_f86c9 0 = .ok (.lload_n 0, 1) := by decide +kernel
theorem dJ9_min_f86c9_1 : decode cJ9_min_f86c9 1 = .ok (.lload_n 2, 1) := by decide +kernel
theorem dJ9_min_f86c9_2 : decode cJ9_min_f86c9 2 = .ok (.lcmp, 1) := by decide +kernel
theorem dJ9_min_f86c9_3 : decode cJ9_min_f86c9 3 = .ok (.ifCond .gt 7, 3) := by decide +kernel
theorem dJ9_min_f86c9_6 : decode cJ9_min_f86c9 6 = .ok (.lload_n 0, 1) := by decide +kernel
theorem dJ9_min_f86c9_7 : decode cJ9_min_f86c9 7 = .ok (.goto 4, 3) := by decide +kernel
theorem dJ9_min_f86c9_10 : decode cJ9_min_f86c9 10 = .ok (.lload_n 2, 1) := by decide +kernel
theorem dJ9_min_f86c9_11 : decode cJ9_min_f86c9 11 = .ok (.lreturn, 1) := by decide +kernel
def F_J9_min_f86c9 (l0 : Int64) (l2 : Int64) (V : sv_V) : Option (Int64 × sv_V) := if 0 < (lg_cmp l0 l2) then (some (l2, V)) else (some (l0, V))
set_option maxRecDepth 20000 in
theorem t_J9_min_f86c9 {g : sx_G} (hG : sx_Go g) {P : Option Value → sv_V → Prop} {r : Int64} {Vr : sv_V} (hP : P (some (.long r)) Vr) {l0 : Int64} {l2 : Int64} {V : sv_V} (h : F_J9_min_f86c9 l0 l2 V = some (r, Vr)) : sv_N g qJ9_min_f86c9 0 0 [(0, .long l0), (2, .long l2)] [] V P := by
  unfold F_J9_min_f86c9 at h
  refine sx_lload_n (pc := 0) dJ9_min_f86c9_0 sx_m0 ?_
  refine sx_lload_n (pc := 1) dJ9_min_f86c9_1 sx_m1 ?_
  refine sx_lcmp (pc := 2) dJ9_min_f86c9_2 ?_
  refine sx_if_gt (pc := 3) (tgt := 10) dJ9_min_f86c9_3 (by decide) (fun c1 => ?_) (fun c1 => ?_)
  · have h := sx_pos c1 h
    refine sx_lload_n (pc := 10) dJ9_min_f86c9_10 sx_m1 ?_
    exact sv_lret (pc := 11) dJ9_min_f86c9_11 rfl h hP
  · have h := sx_neg c1 h
    refine sx_lload_n (pc := 6) dJ9_min_f86c9_6 sx_m0 ?_
    refine sx_goto (pc := 7) (tgt := 11) dJ9_min_f86c9_7 (by decide) ?_
    exact sv_lret (pc := 11) dJ9_min_f86c9_11 rfl h hP
theorem dJ7_fill_53178_0 : decode cJ7_fill_53178 0 = .ok (.iconst 0, 1) := by decide +kernel
theorem dJ7_fill_53178_1 : decode cJ7_fill_53178 1 = .ok (.istore_n 2, 1) := by decide +kernel
theorem dJ7_fill_53178_2 : decode cJ7_fill_53178 2 = .ok (.aload_n 0, 1) := by decide +kernel
theorem dJ7_fill_53178_3 : decode cJ7_fill_53178 3 = .ok (.arraylength, 1) := by decide +kernel
theorem dJ7_fill_53178_4 : decode cJ7_fill_53178 4 = .ok (.istore_n 3, 1) := by decide +kernel
theorem dJ7_fill_53178_5 : decode cJ7_fill_53178 5 = .ok (.iload_n 2, 1) := by decide +kernel
theorem dJ7_fill_53178_6 : decode cJ7_fill_53178 6 = .ok (.iload_n 3, 1) := by decide +kernel
theorem dJ7_fill_53178_7 : decode cJ7_fill_53178 7 = .ok (.if_icmp .ge 13, 3) := by decide +kernel
theorem dJ7_fill_53178_10 : decode cJ7_fill_53178 10 = .ok (.aload_n 0, 1) := by decide +kernel
theorem dJ7_fill_53178_11 : decode cJ7_fill_53178 11 = .ok (.iload_n 2, 1) := by decide +kernel
theorem dJ7_fill_53178_12 : decode cJ7_fill_53178 12 = .ok (.iload_n 1, 1) := by decide +kernel
theorem dJ7_fill_53178_13 : decode cJ7_fill_53178 13 = .ok (.iastore, 1) := by decide +kernel
theorem dJ7_fill_53178_14 : decode cJ7_fill_53178 14 = .ok (.iinc 2 1, 3) := by decide +kernel
theorem dJ7_fill_53178_17 : decode cJ7_fill_53178 17 = .ok (.goto (-12), 3) := by decide +kernel
theorem dJ7_fill_53178_20 : decode cJ7_fill_53178 20 = .ok (.return_, 1) := by decide +kernel
def B_J7_fill_53178_5 (N : Nat) (k5 : Nat → Int32 → Int32 → Int32 → sv_V → Option sv_V) (l0 : Nat) (l1 : Int32) (l2 : Int32) (l3 : Int32) (V : sv_V) : Option sv_V := if l3 ≤ l2 then (some V) else ((sv_len 0 l0).bind (fun n2 => if sx_in l2 n2 = true then sx_let (sv_I V l0 l2.toNatClampNeg l1) (fun V5 => sx_let (l2 + 1) (fun x6 => k5 l0 l1 x6 l3 V5)) else none))
set_option maxRecDepth 20000 in
theorem tB_J7_fill_53178_5 {g : sx_G} (hG : sx_Go g) {P : Option Value → sv_V → Prop} {Vr : sv_V} (hP : P none Vr) {N : Nat} {k5 : Nat → Int32 → Int32 → Int32 → sv_V → Option sv_V} (hk5 : ∀ (l0 : Nat) (l1 : Int32) (l2 : Int32) (l3 : Int32) (V : sv_V), k5 l0 l1 l2 l3 V = some Vr → sv_N g qJ7_fill_53178 0 5 [(0, .ref l0), (1, .int l1), (2, .int l2), (3, .int l3)] [] V P) {l0 : Nat} {l1 : Int32} {l2 : Int32} {l3 : Int32} {V : sv_V} (h : B_J7_fill_53178_5 N k5 l0 l1 l2 l3 V = some Vr) : sv_N g qJ7_fill_53178 0 5 [(0, .ref l0), (1, .int l1), (2, .int l2), (3, .int l3)] [] V P := by
  unfold B_J7_fill_53178_5 at h
  refine sx_iload_n (pc := 5) dJ7_fill_53178_5 sx_m2 ?_
  refine sx_iload_n (pc := 6) dJ7_fill_53178_6 sx_m3 ?_
  refine sx_icmp_ge (pc := 7) (tgt := 20) dJ7_fill_53178_7 (by decide) (fun c1 => ?_) (fun c1 => ?_)
  · have h := sx_pos c1 h
    exact sv_vret (pc := 20) dJ7_fill_53178_20 rfl h hP
  · have h := sx_neg c1 h
    refine sx_aload_n (pc := 10) dJ7_fill_53178_10 sx_m0 ?_
    refine sx_iload_n (pc := 11) dJ7_fill_53178_11 sx_m2 ?_
    refine sx_iload_n (pc := 12) dJ7_fill_53178_12 sx_m1 ?_
    obtain ⟨n2, g3, h⟩ := sx_bnd h
    obtain ⟨g4, h⟩ := sx_grd h
    obtain ⟨V5, hV5⟩ : ∃ z : sv_V, z = sv_I V l0 l2.toNatClampNeg l1 := ⟨_, rfl⟩
    have h := sx_letE hV5 h
    refine sv_iast (pc := 13) hG dJ7_fill_53178_13 (sv_len_e g3) g4 hV5 ?_
    obtain ⟨x6, hx6⟩ : ∃ z : Int32, z = l2 + 1 := ⟨_, rfl⟩
    have h := sx_letE hx6 h
    refine sx_iinc (pc := 14) (v := x6) (lo' := [(2, .int x6), (0, .ref l0), (1, .int l1), (3, .int l3)]) dJ7_fill_53178_14 sx_m2 (by rw [hx6]; rfl) (by decide) rfl ?_
    refine sx_goto (pc := 17) (tgt := 5) dJ7_fill_53178_17 (by decide) ?_
    refine sx_wk (sx_s1 sx_m1 (sx_s1 sx_m2 (sx_s1 sx_m0 (sx_s1 sx_m3 sx_s0)))) ?_
    exact hk5 _ _ _ _ _ h
theorem tL_J7_fill_53178_5 {g : sx_G} (hG : sx_Go g) {P : Option Value → sv_V → Prop} {Vr : sv_V} (hP : P none Vr) {N : Nat}   : ∀ (n : Nat) (l0 : Nat) (l1 : Int32) (l2 : Int32) (l3 : Int32) (V : sv_V), sx_lp5 (B_J7_fill_53178_5 N ) n l0 l1 l2 l3 V = some Vr → sv_N g qJ7_fill_53178 0 5 [(0, .ref l0), (1, .int l1), (2, .int l2), (3, .int l3)] [] V P :=
  sx_lp5_ind (fun k0 ih _ _ _ _ V h => tB_J7_fill_53178_5 hG hP ih h)
def F_J7_fill_53178 (N : Nat) (l0 : Nat) (l1 : Int32) (V : sv_V) : Option sv_V := (sv_len 0 l0).bind (fun n7 => sx_let (Int32.ofNat n7) (fun x9 => sx_lp5 (B_J7_fill_53178_5 N ) N l0 l1 (0 : Int32) x9 V))
set_option maxRecDepth 20000 in
theorem t_J7_fill_53178 {g : sx_G} (hG : sx_Go g) {P : Option Value → sv_V → Prop} {Vr : sv_V} (hP : P none Vr) {N : Nat} {l0 : Nat} {l1 : Int32} {V : sv_V} (h : F_J7_fill_53178 N l0 l1 V = some Vr) : sv_N g qJ7_fill_53178 0 0 [(0, .ref l0), (1, .int l1)] [] V P := by
  unfold F_J7_fill_53178 at h
  refine sx_iconst (pc := 0) (v := 0) dJ7_fill_53178_0 (by decide) ?_
  refine sx_istore_n (pc := 1) (lo' := [(2, .int (0 : Int32)), (0, .ref l0), (1, .int l1)]) dJ7_fill_53178_1 (by decide) rfl ?_
  refine sx_aload_n (pc := 2) dJ7_fill_53178_2 sx_m1 ?_
  obtain ⟨n7, g8, h⟩ := sx_bnd h
  refine sv_alen (pc := 3) hG dJ7_fill_53178_3 (by decide) (sv_len_e g8) ?_
  refine sv_tI (fun x9 hx9 => ?_)
  have h := sx_letE hx9 h
  refine sx_istore_n (pc := 4) (lo' := [(3, .int x9), (2, .int (0 : Int32)), (0, .ref l0), (1, .int l1)]) dJ7_fill_53178_4 (by decide) rfl ?_
  refine sx_wk (sx_s1 sx_m2 (sx_s1 sx_m3 (sx_s1 sx_m1 (sx_s1 sx_m0 sx_s0)))) ?_
  exact tL_J7_fill_53178_5 hG hP  N _ _ _ _ _ h
theorem dJ7_fill_031fb_0 : decode cJ7_fill_031fb 0 = .ok (.iconst 0, 1) := by decide +kernel
theorem dJ7_fill_031fb_1 : decode cJ7_fill_031fb 1 = .ok (.istore_n 2, 1) := by decide +kernel
theorem dJ7_fill_031fb_2 : decode cJ7_fill_031fb 2 = .ok (.aload_n 0, 1) := by decide +kernel
theorem dJ7_fill_031fb_3 : decode cJ7_fill_031fb 3 = .ok (.arraylength, 1) := by decide +kernel
theorem dJ7_fill_031fb_4 : decode cJ7_fill_031fb 4 = .ok (.istore_n 3, 1) := by decide +kernel
theorem dJ7_fill_031fb_5 : decode cJ7_fill_031fb 5 = .ok (.iload_n 2, 1) := by decide +kernel
theorem dJ7_fill_031fb_6 : decode cJ7_fill_031fb 6 = .ok (.iload_n 3, 1) := by decide +kernel
theorem dJ7_fill_031fb_7 : decode cJ7_fill_031fb 7 = .ok (.if_icmp .ge 13, 3) := by decide +kernel
theorem dJ7_fill_031fb_10 : decode cJ7_fill_031fb 10 = .ok (.aload_n 0, 1) := by decide +kernel
theorem dJ7_fill_031fb_11 : decode cJ7_fill_031fb 11 = .ok (.iload_n 2, 1) := by decide +kernel
theorem dJ7_fill_031fb_12 : decode cJ7_fill_031fb 12 = .ok (.iload_n 1, 1) := by decide +kernel
theorem dJ7_fill_031fb_13 : decode cJ7_fill_031fb 13 = .ok (.bastore, 1) := by decide +kernel
theorem dJ7_fill_031fb_14 : decode cJ7_fill_031fb 14 = .ok (.iinc 2 1, 3) := by decide +kernel
theorem dJ7_fill_031fb_17 : decode cJ7_fill_031fb 17 = .ok (.goto (-12), 3) := by decide +kernel
theorem dJ7_fill_031fb_20 : decode cJ7_fill_031fb 20 = .ok (.return_, 1) := by decide +kernel
def B_J7_fill_031fb_5 (N : Nat) (k5 : Nat → Int32 → Int32 → Int32 → sv_V → Option sv_V) (l0 : Nat) (l1 : Int32) (l2 : Int32) (l3 : Int32) (V : sv_V) : Option sv_V := if l3 ≤ l2 then (some V) else ((sv_len 1 l0).bind (fun n2 => if sx_in l2 n2 = true then sx_let (sv_I V l0 l2.toNatClampNeg l1.toInt8.toInt32) (fun V5 => sx_let (l2 + 1) (fun x6 => k5 l0 l1 x6 l3 V5)) else none))
set_option maxRecDepth 20000 in
theorem tB_J7_fill_031fb_5 {g : sx_G} (hG : sx_Go g) {P : Option Value → sv_V → Prop} {Vr : sv_V} (hP : P none Vr) {N : Nat} {k5 : Nat → Int32 → Int32 → Int32 → sv_V → Option sv_V} (hk5 : ∀ (l0 : Nat) (l1 : Int32) (l2 : Int32) (l3 : Int32) (V : sv_V), k5 l0 l1 l2 l3 V = some Vr → sv_N g qJ7_fill_031fb 0 5 [(0, .ref l0), (1, .int l1), (2, .int l2), (3, .int l3)] [] V P) {l0 : Nat} {l1 : Int32} {l2 : Int32} {l3 : Int32} {V : sv_V} (h : B_J7_fill_031fb_5 N k5 l0 l1 l2 l3 V = some Vr) : sv_N g qJ7_fill_031fb 0 5 [(0, .ref l0), (1, .int l1), (2, .int l2), (3, .int l3)] [] V P := by
  unfold B_J7_fill_031fb_5 at h
  refine sx_iload_n (pc := 5) dJ7_fill_031fb_5 sx_m2 ?_
  refine sx_iload_n (pc := 6) dJ7_fill_031fb_6 sx_m3 ?_
  refine sx_icmp_ge (pc := 7) (tgt := 20) dJ7_fill_031fb_7 (by decide) (fun c1 => ?_) (fun c1 => ?_)
  · have h := sx_pos c1 h
    exact sv_vret (pc := 20) dJ7_fill_031fb_20 rfl h hP
  · have h := sx_neg c1 h
    refine sx_aload_n (pc := 10) dJ7_fill_031fb_10 sx_m0 ?_
    refine sx_iload_n (pc := 11) dJ7_fill_031fb_11 sx_m2 ?_
    refine sx_iload_n (pc := 12) dJ7_fill_031fb_12 sx_m1 ?_
    obtain ⟨n2, g3, h⟩ := sx_bnd h
    obtain ⟨g4, h⟩ := sx_grd h
    obtain ⟨V5, hV5⟩ : ∃ z : sv_V, z = sv_I V l0 l2.toNatClampNeg l1.toInt8.toInt32 := ⟨_, rfl⟩
    have h := sx_letE hV5 h
    refine sv_bast (pc := 13) hG dJ7_fill_031fb_13 (sv_len_e g3) g4 hV5 ?_
    obtain ⟨x6, hx6⟩ : ∃ z : Int32, z = l2 + 1 := ⟨_, rfl⟩
    have h := sx_letE hx6 h
    refine sx_iinc (pc := 14) (v := x6) (lo' := [(2, .int x6), (0, .ref l0), (1, .int l1), (3, .int l3)]) dJ7_fill_031fb_14 sx_m2 (by rw [hx6]; rfl) (by decide) rfl ?_
    refine sx_goto (pc := 17) (tgt := 5) dJ7_fill_031fb_17 (by decide) ?_
    refine sx_wk (sx_s1 sx_m1 (sx_s1 sx_m2 (sx_s1 sx_m0 (sx_s1 sx_m3 sx_s0)))) ?_
    exact hk5 _ _ _ _ _ h
theorem tL_J7_fill_031fb_5 {g : sx_G} (hG : sx_Go g) {P : Option Value → sv_V → Prop} {Vr : sv_V} (hP : P none Vr) {N : Nat}   : ∀ (n : Nat) (l0 : Nat) (l1 : Int32) (l2 : Int32) (l3 : Int32) (V : sv_V), sx_lp5 (B_J7_fill_031fb_5 N ) n l0 l1 l2 l3 V = some Vr → sv_N g qJ7_fill_031fb 0 5 [(0, .ref l0), (1, .int l1), (2, .int l2), (3, .int l3)] [] V P :=
  sx_lp5_ind (fun k0 ih _ _ _ _ V h => tB_J7_fill_031fb_5 hG hP ih h)
def F_J7_fill_031fb (N : Nat) (l0 : Nat) (l1 : Int32) (V : sv_V) : Option sv_V := (sv_len 1 l0).bind (fun n7 => sx_let (Int32.ofNat n7) (fun x9 => sx_lp5 (B_J7_fill_031fb_5 N ) N l0 l1 (0 : Int32) x9 V))
set_option maxRecDepth 20000 in
theorem t_J7_fill_031fb {g : sx_G} (hG : sx_Go g) {P : Option Value → sv_V → Prop} {Vr : sv_V} (hP : P none Vr) {N : Nat} {l0 : Nat} {l1 : Int32} {V : sv_V} (h : F_J7_fill_031fb N l0 l1 V = some Vr) : sv_N g qJ7_fill_031fb 0 0 [(0, .ref l0), (1, .int l1)] [] V P := by
  unfold F_J7_fill_031fb at h
  refine sx_iconst (pc := 0) (v := 0) dJ7_fill_031fb_0 (by decide) ?_
  refine sx_istore_n (pc := 1) (lo' := [(2, .int (0 : Int32)), (0, .ref l0), (1, .int l1)]) dJ7_fill_031fb_1 (by decide) rfl ?_
  refine sx_aload_n (pc := 2) dJ7_fill_031fb_2 sx_m1 ?_
  obtain ⟨n7, g8, h⟩ := sx_bnd h
  refine sv_alen (pc := 3) hG dJ7_fill_031fb_3 (by decide) (sv_len_e g8) ?_
  refine sv_tI (fun x9 hx9 => ?_)
  have h := sx_letE hx9 h
  refine sx_istore_n (pc := 4) (lo' := [(3, .int x9), (2, .int (0 : Int32)), (0, .ref l0), (1, .int l1)]) dJ7_fill_031fb_4 (by decide) rfl ?_
  refine sx_wk (sx_s1 sx_m2 (sx_s1 sx_m3 (sx_s1 sx_m1 (sx_s1 sx_m0 sx_s0)))) ?_
  exact tL_J7_fill_031fb_5 hG hP  N _ _ _ _ _ h
theorem dX0_forgetAll_0 : decode cX0_forgetAll 0 = .ok (.aload_n 0, 1) := by decide +kernel
theorem dX0_forgetAll_1 : decode cX0_forgetAll 1 = .ok (.getfield 18, 3) := by decide +kernel
theorem dX0_forgetAll_4 : decode cX0_forgetAll 4 = .ok (.iconst (-1), 1) := by decide +kernel
theorem dX0_forgetAll_5 : decode cX0_forgetAll 5 = .ok (.invokestatic 36, 3) := by decide +kernel
theorem dX0_forgetAll_8 : decode cX0_forgetAll 8 = .ok (.aload_n 0, 1) := by decide +kernel
theorem dX0_forgetAll_9 : decode cX0_forgetAll 9 = .ok (.iconst 0, 1) := by decide +kernel
theorem dX0_forgetAll_10 : decode cX0_forgetAll 10 = .ok (.putfield 42, 3) := by decide +kernel
theorem dX0_forgetAll_13 : decode cX0_forgetAll 13 = .ok (.aload_n 0, 1) := by decide +kernel
theorem dX0_forgetAll_14 : decode cX0_forgetAll 14 = .ok (.iconst 0, 1) := by decide +kernel
theorem dX0_forgetAll_15 : decode cX0_forgetAll 15 = .ok (.putfield 46, 3) := by decide +kernel
theorem dX0_forgetAll_18 : decode cX0_forgetAll 18 = .ok (.return_, 1) := by decide +kernel
def F_X0_forgetAll (N : Nat)  (V : sv_V) : Option sv_V := (F_J7_fill_53178 N 76 (-1 : Int32) V).bind (fun V1 => sx_let (sv_I V1 73 3 (0 : Int32)) (fun V3 => sx_let (sv_I V3 73 9 (0 : Int32)) (fun V4 => some V4)))
set_option maxRecDepth 20000 in
theorem t_X0_forgetAll {g : sx_G} (hG : sx_Go g) {P : Option Value → sv_V → Prop} {Vr : sv_V} (hP : P none Vr) {N : Nat}  {V : sv_V} (h : F_X0_forgetAll N  V = some Vr) : sv_N g qX0_forgetAll 1 0 [(0, .ref 73)] [] V P := by
  unfold F_X0_forgetAll at h
  refine sx_aload_n (pc := 0) dX0_forgetAll_0 sx_m0 ?_
  refine sv_getA (pc := 1) hG dX0_forgetAll_1 f_0_18 lay_73 rfl cr_73_2 ?_
  refine sx_iconst (pc := 4) (v := (-1)) dX0_forgetAll_4 (by decide) ?_
  obtain ⟨V1, g2, h⟩ := sx_bnd h
  refine sv_cS (pc := 5) (y := qJ7_fill_53178) (o := none) (as := [.ref 76, .int (-1 : Int32)]) (V1 := V1) dX0_forgetAll_5 l_X0_36 y0J7_fill_53178 ysJ7_fill_53178 rfl (Nat.le_of_ble_eq_true rfl) (by decide) (Nat.le_of_ble_eq_true rfl) rfl rfl rfl (t_J7_fill_53178 hG ⟨rfl, rfl⟩ g2) ?_
  refine sx_aload_n (pc := 8) dX0_forgetAll_8 sx_m0 ?_
  refine sx_iconst (pc := 9) (v := 0) dX0_forgetAll_9 (by decide) ?_
  obtain ⟨V3, hV3⟩ : ∃ z : sv_V, z = sv_I V1 73 3 (0 : Int32) := ⟨_, rfl⟩
  have h := sx_letE hV3 h
  refine sv_putI (pc := 10) hG dX0_forgetAll_10 f_0_42 lay_73 rfl hV3 ?_
  refine sx_aload_n (pc := 13) dX0_forgetAll_13 sx_m0 ?_
  refine sx_iconst (pc := 14) (v := 0) dX0_forgetAll_14 (by decide) ?_
  obtain ⟨V4, hV4⟩ : ∃ z : sv_V, z = sv_I V3 73 9 (0 : Int32) := ⟨_, rfl⟩
  have h := sx_letE hV4 h
  refine sv_putI (pc := 15) hG dX0_forgetAll_15 f_0_46 lay_73 rfl hV4 ?_
  exact sv_vret (pc := 18) dX0_forgetAll_18 rfl h hP
theorem dX1_renew_0 : decode cX1_renew 0 = .ok (.aload_n 0, 1) := by decide +kernel
theorem dX1_renew_1 : decode cX1_renew 1 = .ok (.iload_n 1, 1) := by decide +kernel
theorem dX1_renew_2 : decode cX1_renew 2 = .ok (.putfield 15, 3) := by decide +kernel
theorem dX1_renew_5 : decode cX1_renew 5 = .ok (.aload_n 0, 1) := by decide +kernel
theorem dX1_renew_6 : decode cX1_renew 6 = .ok (.iload_n 2, 1) := by decide +kernel
theorem dX1_renew_7 : decode cX1_renew 7 = .ok (.putfield 19, 3) := by decide +kernel
theorem dX1_renew_10 : decode cX1_renew 10 = .ok (.aload_n 0, 1) := by decide +kernel
theorem dX1_renew_11 : decode cX1_renew 11 = .ok (.getfield 11, 3) := by decide +kernel
theorem dX1_renew_14 : decode cX1_renew 14 = .ok (.iconst 0, 1) := by decide +kernel
theorem dX1_renew_15 : decode cX1_renew 15 = .ok (.invokestatic 22, 3) := by decide +kernel
theorem dX1_renew_18 : decode cX1_renew 18 = .ok (.return_, 1) := by decide +kernel
def F_X1_renew (N : Nat) (l1 : Int32) (l2 : Int32) (V : sv_V) : Option sv_V := sx_let (sv_I V 143 1 l1) (fun V1 => sx_let (sv_I V1 143 2 l2) (fun V2 => (F_J7_fill_031fb N 144 (0 : Int32) V2).bind (fun V3 => some V3)))
set_option maxRecDepth 20000 in
theorem t_X1_renew {g : sx_G} (hG : sx_Go g) {P : Option Value → sv_V → Prop} {Vr : sv_V} (hP : P none Vr) {N : Nat} {l1 : Int32} {l2 : Int32} {V : sv_V} (h : F_X1_renew N l1 l2 V = some Vr) : sv_N g qX1_renew 1 0 [(0, .ref 143), (1, .int l1), (2, .int l2)] [] V P := by
  unfold F_X1_renew at h
  refine sx_aload_n (pc := 0) dX1_renew_0 sx_m0 ?_
  refine sx_iload_n (pc := 1) dX1_renew_1 sx_m1 ?_
  obtain ⟨V1, hV1⟩ : ∃ z : sv_V, z = sv_I V 143 1 l1 := ⟨_, rfl⟩
  have h := sx_letE hV1 h
  refine sv_putI (pc := 2) hG dX1_renew_2 f_1_15 lay_143 rfl hV1 ?_
  refine sx_aload_n (pc := 5) dX1_renew_5 sx_m0 ?_
  refine sx_iload_n (pc := 6) dX1_renew_6 sx_m2 ?_
  obtain ⟨V2, hV2⟩ : ∃ z : sv_V, z = sv_I V1 143 2 l2 := ⟨_, rfl⟩
  have h := sx_letE hV2 h
  refine sv_putI (pc := 7) hG dX1_renew_7 f_1_19 lay_143 rfl hV2 ?_
  refine sx_aload_n (pc := 10) dX1_renew_10 sx_m0 ?_
  refine sv_getA (pc := 11) hG dX1_renew_11 f_1_11 lay_143 rfl cr_143_0 ?_
  refine sx_iconst (pc := 14) (v := 0) dX1_renew_14 (by decide) ?_
  obtain ⟨V3, g4, h⟩ := sx_bnd h
  refine sv_cS (pc := 15) (y := qJ7_fill_031fb) (o := none) (as := [.ref 144, .int (0 : Int32)]) (V1 := V3) dX1_renew_15 l_X1_22 y0J7_fill_031fb ysJ7_fill_031fb rfl (Nat.le_of_ble_eq_true rfl) (by decide) (Nat.le_of_ble_eq_true rfl) rfl rfl rfl (t_J7_fill_031fb hG ⟨rfl, rfl⟩ g4) ?_
  exact sv_vret (pc := 18) dX1_renew_18 rfl h hP
theorem dX2_advanceOf_0 : decode cX2_advanceOf 0 = .ok (.aload_n 0, 1) := by decide +kernel
theorem dX2_advanceOf_1 : decode cX2_advanceOf 1 = .ok (.aload_n 0, 1) := by decide +kernel
theorem dX2_advanceOf_2 : decode cX2_advanceOf 2 = .ok (.getfield 19, 3) := by decide +kernel
theorem dX2_advanceOf_5 : decode cX2_advanceOf 5 = .ok (.iconst 4, 1) := by decide +kernel
theorem dX2_advanceOf_6 : decode cX2_advanceOf 6 = .ok (.iaload, 1) := by decide +kernel
theorem dX2_advanceOf_7 : decode cX2_advanceOf 7 = .ok (.iconst 4, 1) := by decide +kernel
theorem dX2_advanceOf_8 : decode cX2_advanceOf 8 = .ok (.iload_n 1, 1) := by decide +kernel
theorem dX2_advanceOf_9 : decode cX2_advanceOf 9 = .ok (.aload_n 0, 1) := by decide +kernel
theorem dX2_advanceOf_10 : decode cX2_advanceOf 10 = .ok (.getfield 57, 3) := by decide +kernel
theorem dX2_advanceOf_13 : decode cX2_advanceOf 13 = .ok (.iconst 1, 1) := by decide +kernel
theorem dX2_advanceOf_14 : decode cX2_advanceOf 14 = .ok (.isub, 1) := by decide +kernel
theorem dX2_advanceOf_15 : decode cX2_advanceOf 15 = .ok (.invokestatic 60, 3) := by decide +kernel
theorem dX2_advanceOf_18 : decode cX2_advanceOf 18 = .ok (.imul, 1) := by decide +kernel
theorem dX2_advanceOf_19 : decode cX2_advanceOf 19 = .ok (.iadd, 1) := by decide +kernel
theorem dX2_advanceOf_20 : decode cX2_advanceOf 20 = .ok (.invokevirtual 50, 3) := by decide +kernel
theorem dX2_advanceOf_23 : decode cX2_advanceOf 23 = .ok (.ireturn, 1) := by decide +kernel
def F_X2_advanceOf (l1 : Int32) (V : sv_V) : Option (Int32 × sv_V) := (F_J9_min_7cf53 l1 ((V.1 2 8) - (1 : Int32)) V).bind (fun (x3, V1) => (F_X2_u2 ((V.1 4 (4 : Int32).toNatClampNeg) + ((4 : Int32) * x3)) V1).bind (fun (x6, V4) => some (x6, V4)))
set_option maxRecDepth 20000 in
theorem t_X2_advanceOf {g : sx_G} (hG : sx_Go g) {P : Option Value → sv_V → Prop} {r : Int32} {Vr : sv_V} (hP : P (some (.int r)) Vr) {l1 : Int32} {V : sv_V} (h : F_X2_advanceOf l1 V = some (r, Vr)) : sv_N g qX2_advanceOf 1 0 [(0, .ref 2), (1, .int l1)] [] V P := by
  unfold F_X2_advanceOf at h
  refine sx_aload_n (pc := 0) dX2_advanceOf_0 sx_m0 ?_
  refine sx_aload_n (pc := 1) dX2_advanceOf_1 sx_m0 ?_
  refine sv_getA (pc := 2) hG dX2_advanceOf_2 f_2_19 lay_2 rfl cr_2_3 ?_
  refine sx_iconst (pc := 5) (v := 4) dX2_advanceOf_5 (by decide) ?_
  refine sv_iald (pc := 6) hG dX2_advanceOf_6 lay_4 (by decide) ?_
  refine sx_iconst (pc := 7) (v := 4) dX2_advanceOf_7 (by decide) ?_
  refine sx_iload_n (pc := 8) dX2_advanceOf_8 sx_m1 ?_
  refine sx_aload_n (pc := 9) dX2_advanceOf_9 sx_m0 ?_
  refine sv_getI (pc := 10) hG dX2_advanceOf_10 f_2_57 lay_2 rfl ?_
  refine sx_iconst (pc := 13) (v := 1) dX2_advanceOf_13 (by decide) ?_
  refine sx_isub (pc := 14) dX2_advanceOf_14 ?_
  obtain ⟨⟨x3, V1⟩, g2, h⟩ := sx_bnd h
  refine sv_cS (pc := 15) (y := qJ9_min_7cf53) (o := (some (.int x3))) (as := [.int l1, .int ((V.1 2 8) - (1 : Int32))]) (V1 := V1) dX2_advanceOf_15 l_X2_60 y0J9_min_7cf53 ysJ9_min_7cf53 rfl (Nat.le_of_ble_eq_true rfl) (by decide) (Nat.le_of_ble_eq_true rfl) rfl rfl rfl (t_J9_min_7cf53 hG ⟨rfl, rfl⟩ g2) ?_
  refine sx_imul (pc := 18) dX2_advanceOf_18 ?_
  refine sx_iadd (pc := 19) dX2_advanceOf_19 ?_
  obtain ⟨⟨x6, V4⟩, g5, h⟩ := sx_bnd h
  refine sv_cV (pc := 20) (y := qX2_u2) (o := (some (.int x6))) (as := [.int ((V.1 4 (4 : Int32).toNatClampNeg) + ((4 : Int32) * x3))]) (V1 := V4) hG dX2_advanceOf_20 l_X2_50 y0X2_u2 yvX2_u2 rfl (Nat.le_of_ble_eq_true rfl) lay_2 kr_2 (by decide) (Nat.le_of_ble_eq_true rfl) rfl rfl rfl (t_X2_u2 hG ⟨rfl, rfl⟩ g5) ?_
  exact sv_iret (pc := 23) dX2_advanceOf_23 rfl h hP
theorem dX2_findInSegments_0 : decode cX2_findInSegments 0 = .ok (.iconst 0, 1) := by decide +kernel
theorem dX2_findInSegments_1 : decode cX2_findInSegments 1 = .ok (.istore_n 2, 1) := by decide +kernel
theorem dX2_findInSegments_2 : decode cX2_findInSegments 2 = .ok (.iload_n 2, 1) := by decide +kernel
theorem dX2_findInSegments_3 : decode cX2_findInSegments 3 = .ok (.aload_n 0, 1) := by decide +kernel
theorem dX2_findInSegments_4 : decode cX2_findInSegments 4 = .ok (.getfield 88, 3) := by decide +kernel
theorem dX2_findInSegments_7 : decode cX2_findInSegments 7 = .ok (.if_icmp .ge 35, 3) := by decide +kernel
theorem dX2_findInSegments_10 : decode cX2_findInSegments 10 = .ok (.aload_n 0, 1) := by decide +kernel
theorem dX2_findInSegments_11 : decode cX2_findInSegments 11 = .ok (.aload_n 0, 1) := by decide +kernel
theorem dX2_findInSegments_12 : decode cX2_findInSegments 12 = .ok (.getfield 82, 3) := by decide +kernel
theorem dX2_findInSegments_15 : decode cX2_findInSegments 15 = .ok (.bipush 14, 2) := by decide +kernel
theorem dX2_findInSegments_17 : decode cX2_findInSegments 17 = .ok (.iadd, 1) := by decide +kernel
theorem dX2_findInSegments_18 : decode cX2_findInSegments 18 = .ok (.iconst 2, 1) := by decide +kernel
theorem dX2_findInSegments_19 : decode cX2_findInSegments 19 = .ok (.iload_n 2, 1) := by decide +kernel
theorem dX2_findInSegments_20 : decode cX2_findInSegments 20 = .ok (.imul, 1) := by decide +kernel
theorem dX2_findInSegments_21 : decode cX2_findInSegments 21 = .ok (.iadd, 1) := by decide +kernel
theorem dX2_findInSegments_22 : decode cX2_findInSegments 22 = .ok (.invokevirtual 50, 3) := by decide +kernel
theorem dX2_findInSegments_25 : decode cX2_findInSegments 25 = .ok (.iload_n 1, 1) := by decide +kernel
theorem dX2_findInSegments_26 : decode cX2_findInSegments 26 = .ok (.if_icmp .lt 10, 3) := by decide +kernel
theorem dX2_findInSegments_29 : decode cX2_findInSegments 29 = .ok (.aload_n 0, 1) := by decide +kernel
theorem dX2_findInSegments_30 : decode cX2_findInSegments 30 = .ok (.iload_n 2, 1) := by decide +kernel
theorem dX2_findInSegments_31 : decode cX2_findInSegments 31 = .ok (.iload_n 1, 1) := by decide +kernel
theorem dX2_findInSegments_32 : decode cX2_findInSegments 32 = .ok (.invokevirtual 94, 3) := by decide +kernel
theorem dX2_findInSegments_35 : decode cX2_findInSegments 35 = .ok (.ireturn, 1) := by decide +kernel
theorem dX2_findInSegments_36 : decode cX2_findInSegments 36 = .ok (.iinc 2 1, 3) := by decide +kernel
theorem dX2_findInSegments_39 : decode cX2_findInSegments 39 = .ok (.goto (-37), 3) := by decide +kernel
theorem dX2_findInSegments_42 : decode cX2_findInSegments 42 = .ok (.iconst 0, 1) := by decide +kernel
theorem dX2_findInSegments_43 : decode cX2_findInSegments 43 = .ok (.ireturn, 1) := by decide +kernel
def B_X2_findInSegments_2 (N : Nat) (k2 : Int32 → Int32 → sv_V → Option (Int32 × sv_V)) (l1 : Int32) (l2 : Int32) (V : sv_V) : Option (Int32 × sv_V) := if (V.1 2 14) ≤ l2 then (some ((0 : Int32), V)) else ((F_X2_u2 (((V.1 2 12) + (14 : Int32)) + ((2 : Int32) * l2)) V).bind (fun (x4, V2) => if x4 < l1 then (sx_let (l2 + 1) (fun x6 => k2 l1 x6 V2)) else ((F_X2_findInSegment l2 l1 V2).bind (fun (x9, V7) => some (x9, V7)))))
set_option maxRecDepth 20000 in
theorem tB_X2_findInSegments_2 {g : sx_G} (hG : sx_Go g) {P : Option Value → sv_V → Prop} {r : Int32} {Vr : sv_V} (hP : P (some (.int r)) Vr) {N : Nat} {k2 : Int32 → Int32 → sv_V → Option (Int32 × sv_V)} (hk2 : ∀ (l1 : Int32) (l2 : Int32) (V : sv_V), k2 l1 l2 V = some (r, Vr) → sv_N g qX2_findInSegments 2 2 [(0, .ref 2), (1, .int l1), (2, .int l2)] [] V P) {l1 : Int32} {l2 : Int32} {V : sv_V} (h : B_X2_findInSegments_2 N k2 l1 l2 V = some (r, Vr)) : sv_N g qX2_findInSegments 2 2 [(0, .ref 2), (1, .int l1), (2, .int l2)] [] V P := by
  unfold B_X2_findInSegments_2 at h
  refine sx_iload_n (pc := 2) dX2_findInSegments_2 sx_m2 ?_
  refine sx_aload_n (pc := 3) dX2_findInSegments_3 sx_m0 ?_
  refine sv_getI (pc := 4) hG dX2_findInSegments_4 f_2_88 lay_2 rfl ?_
  refine sx_icmp_ge (pc := 7) (tgt := 42) dX2_findInSegments_7 (by decide) (fun c1 => ?_) (fun c1 => ?_)
  · have h := sx_pos c1 h
    refine sx_iconst (pc := 42) (v := 0) dX2_findInSegments_42 (by decide) ?_
    exact sv_iret (pc := 43) dX2_findInSegments_43 rfl h hP
  · have h := sx_neg c1 h
    refine sx_aload_n (pc := 10) dX2_findInSegments_10 sx_m0 ?_
    refine sx_aload_n (pc := 11) dX2_findInSegments_11 sx_m0 ?_
    refine sv_getI (pc := 12) hG dX2_findInSegments_12 f_2_82 lay_2 rfl ?_
    refine sx_bipush (pc := 15) (v := 14) dX2_findInSegments_15 (by decide) ?_
    refine sx_iadd (pc := 17) dX2_findInSegments_17 ?_
    refine sx_iconst (pc := 18) (v := 2) dX2_findInSegments_18 (by decide) ?_
    refine sx_iload_n (pc := 19) dX2_findInSegments_19 sx_m2 ?_
    refine sx_imul (pc := 20) dX2_findInSegments_20 ?_
    refine sx_iadd (pc := 21) dX2_findInSegments_21 ?_
    obtain ⟨⟨x4, V2⟩, g3, h⟩ := sx_bnd h
    refine sv_cV (pc := 22) (y := qX2_u2) (o := (some (.int x4))) (as := [.int (((V.1 2 12) + (14 : Int32)) + ((2 : Int32) * l2))]) (V1 := V2) hG dX2_findInSegments_22 l_X2_50 y0X2_u2 yvX2_u2 rfl (Nat.le_of_ble_eq_true rfl) lay_2 kr_2 (by decide) (Nat.le_of_ble_eq_true rfl) rfl rfl rfl (t_X2_u2 hG ⟨rfl, rfl⟩ g3) ?_
    refine sx_iload_n (pc := 25) dX2_findInSegments_25 sx_m1 ?_
    refine sx_icmp_lt (pc := 26) (tgt := 36) dX2_findInSegments_26 (by decide) (fun c5 => ?_) (fun c5 => ?_)
    · have h := sx_pos c5 h
      obtain ⟨x6, hx6⟩ : ∃ z : Int32, z = l2 + 1 := ⟨_, rfl⟩
      have h := sx_letE hx6 h
      refine sx_iinc (pc := 36) (v := x6) (lo' := [(2, .int x6), (0, .ref 2), (1, .int l1)]) dX2_findInSegments_36 sx_m2 (by rw [hx6]; rfl) (by decide) rfl ?_
      refine sx_goto (pc := 39) (tgt := 2) dX2_findInSegments_39 (by decide) ?_
      refine sx_wk (sx_s1 sx_m1 (sx_s1 sx_m2 (sx_s1 sx_m0 sx_s0))) ?_
      exact hk2 _ _ _ h
    · have h := sx_neg c5 h
      refine sx_aload_n (pc := 29) dX2_findInSegments_29 sx_m0 ?_
      refine sx_iload_n (pc := 30) dX2_findInSegments_30 sx_m2 ?_
      refine sx_iload_n (pc := 31) dX2_findInSegments_31 sx_m1 ?_
      obtain ⟨⟨x9, V7⟩, g8, h⟩ := sx_bnd h
      refine sv_cV (pc := 32) (y := qX2_findInSegment) (o := (some (.int x9))) (as := [.int l2, .int l1]) (V1 := V7) hG dX2_findInSegments_32 l_X2_94 y0X2_findInSegment yvX2_findInSegment rfl (Nat.le_of_ble_eq_true rfl) lay_2 kr_2 (by decide) (Nat.le_of_ble_eq_true rfl) rfl rfl rfl (t_X2_findInSegment hG ⟨rfl, rfl⟩ g8) ?_
      exact sv_iret (pc := 35) dX2_findInSegments_35 rfl h hP
theorem tL_X2_findInSegments_2 {g : sx_G} (hG : sx_Go g) {P : Option Value → sv_V → Prop} {r : Int32} {Vr : sv_V} (hP : P (some (.int r)) Vr) {N : Nat}   : ∀ (n : Nat) (l1 : Int32) (l2 : Int32) (V : sv_V), sx_lp3 (B_X2_findInSegments_2 N ) n l1 l2 V = some (r, Vr) → sv_N g qX2_findInSegments 2 2 [(0, .ref 2), (1, .int l1), (2, .int l2)] [] V P :=
  sx_lp3_ind (fun k0 ih _ _ V h => tB_X2_findInSegments_2 hG hP ih h)
def F_X2_findInSegments (N : Nat) (l1 : Int32) (V : sv_V) : Option (Int32 × sv_V) := sx_lp3 (B_X2_findInSegments_2 N ) N l1 (0 : Int32) V
set_option maxRecDepth 20000 in
theorem t_X2_findInSegments {g : sx_G} (hG : sx_Go g) {P : Option Value → sv_V → Prop} {r : Int32} {Vr : sv_V} (hP : P (some (.int r)) Vr) {N : Nat} {l1 : Int32} {V : sv_V} (h : F_X2_findInSegments N l1 V = some (r, Vr)) : sv_N g qX2_findInSegments 2 0 [(0, .ref 2), (1, .int l1)] [] V P := by
  unfold F_X2_findInSegments at h
  refine sx_iconst (pc := 0) (v := 0) dX2_findInSegments_0 (by decide) ?_
  refine sx_istore_n (pc := 1) (lo' := [(2, .int (0 : Int32)), (0, .ref 2), (1, .int l1)]) dX2_findInSegments_1 (by decide) rfl ?_
  refine sx_wk (sx_s1 sx_m1 (sx_s1 sx_m2 (sx_s1 sx_m0 sx_s0))) ?_
  exact tL_X2_findInSegments_2 hG hP  N _ _ _ h
theorem dX3_readOutline_0 : decode cX3_readOutline 0 = .ok (.aload_n 0, 1) := by decide +kernel
theorem dX3_readOutline_1 : decode cX3_readOutline 1 = .ok (.iload_n 1, 1) := by decide +kernel
theorem dX3_readOutline_2 : decode cX3_readOutline 2 = .ok (.invokevirtual 79, 3) := by decide +kernel
theorem dX3_readOutline_5 : decode cX3_readOutline 5 = .ok (.aload_n 0, 1) := by decide +kernel
theorem dX3_readOutline_6 : decode cX3_readOutline 6 = .ok (.getfield 27, 3) := by decide +kernel
theorem dX3_readOutline_9 : decode cX3_readOutline 9 = .ok (.getfield 45, 3) := by decide +kernel
theorem dX3_readOutline_12 : decode cX3_readOutline 12 = .ok (.iconst 2, 1) := by decide +kernel
theorem dX3_readOutline_13 : decode cX3_readOutline 13 = .ok (.aaload, 1) := by decide +kernel
theorem dX3_readOutline_14 : decode cX3_readOutline 14 = .ok (.iload_n 1, 1) := by decide +kernel
theorem dX3_readOutline_15 : decode cX3_readOutline 15 = .ok (.iaload, 1) := by decide +kernel
theorem dX3_readOutline_16 : decode cX3_readOutline 16 = .ok (.bipush 12, 2) := by decide +kernel
theorem dX3_readOutline_18 : decode cX3_readOutline 18 = .ok (.invokestatic 83, 3) := by decide +kernel
theorem dX3_readOutline_21 : decode cX3_readOutline 21 = .ok (.istore_n 3, 1) := by decide +kernel
theorem dX3_readOutline_22 : decode cX3_readOutline 22 = .ok (.iconst (-1), 1) := by decide +kernel
theorem dX3_readOutline_23 : decode cX3_readOutline 23 = .ok (.istore 4, 2) := by decide +kernel
theorem dX3_readOutline_25 : decode cX3_readOutline 25 = .ok (.iconst 0, 1) := by decide +kernel
theorem dX3_readOutline_26 : decode cX3_readOutline 26 = .ok (.istore 5, 2) := by decide +kernel
theorem dX3_readOutline_28 : decode cX3_readOutline 28 = .ok (.iload 5, 2) := by decide +kernel
theorem dX3_readOutline_30 : decode cX3_readOutline 30 = .ok (.iload_n 3, 1) := by decide +kernel
theorem dX3_readOutline_31 : decode cX3_readOutline 31 = .ok (.if_icmp .ge 51, 3) := by decide +kernel
theorem dX3_readOutline_34 : decode cX3_readOutline 34 = .ok (.aload_n 0, 1) := by decide +kernel
theorem dX3_readOutline_35 : decode cX3_readOutline 35 = .ok (.invokevirtual 89, 3) := by decide +kernel
theorem dX3_readOutline_38 : decode cX3_readOutline 38 = .ok (.istore 6, 2) := by decide +kernel
theorem dX3_readOutline_40 : decode cX3_readOutline 40 = .ok (.aload_n 0, 1) := by decide +kernel
theorem dX3_readOutline_41 : decode cX3_readOutline 41 = .ok (.getfield 69, 3) := by decide +kernel
theorem dX3_readOutline_44 : decode cX3_readOutline 44 = .ok (.ifCond .ne 17, 3) := by decide +kernel
theorem dX3_readOutline_47 : decode cX3_readOutline 47 = .ok (.iload 6, 2) := by decide +kernel
theorem dX3_readOutline_49 : decode cX3_readOutline 49 = .ok (.iload 4, 2) := by decide +kernel
theorem dX3_readOutline_51 : decode cX3_readOutline 51 = .ok (.if_icmp .le 10, 3) := by decide +kernel
theorem dX3_readOutline_54 : decode cX3_readOutline 54 = .ok (.iload 6, 2) := by decide +kernel
theorem dX3_readOutline_56 : decode cX3_readOutline 56 = .ok (.bipush 100, 2) := by decide +kernel
theorem dX3_readOutline_58 : decode cX3_readOutline 58 = .ok (.if_icmp .lt 5, 3) := by decide +kernel
theorem dX3_readOutline_61 : decode cX3_readOutline 61 = .ok (.iconst 0, 1) := by decide +kernel
theorem dX3_readOutline_62 : decode cX3_readOutline 62 = .ok (.ireturn, 1) := by decide +kernel
theorem dX3_readOutline_63 : decode cX3_readOutline 63 = .ok (.aload_n 2, 1) := by decide +kernel
theorem dX3_readOutline_64 : decode cX3_readOutline 64 = .ok (.getfield 93, 3) := by decide +kernel
theorem dX3_readOutline_67 : decode cX3_readOutline 67 = .ok (.iload 5, 2) := by decide +kernel
theorem dX3_readOutline_69 : decode cX3_readOutline 69 = .ok (.iload 6, 2) := by decide +kernel
theorem dX3_readOutline_71 : decode cX3_readOutline 71 = .ok (.iastore, 1) := by decide +kernel
theorem dX3_readOutline_72 : decode cX3_readOutline 72 = .ok (.iload 6, 2) := by decide +kernel
theorem dX3_readOutline_74 : decode cX3_readOutline 74 = .ok (.istore 4, 2) := by decide +kernel
theorem dX3_readOutline_76 : decode cX3_readOutline 76 = .ok (.iinc 5 1, 3) := by decide +kernel
theorem dX3_readOutline_79 : decode cX3_readOutline 79 = .ok (.goto (-51), 3) := by decide +kernel
theorem dX3_readOutline_82 : decode cX3_readOutline 82 = .ok (.aload_n 2, 1) := by decide +kernel
theorem dX3_readOutline_83 : decode cX3_readOutline 83 = .ok (.iload_n 3, 1) := by decide +kernel
theorem dX3_readOutline_84 : decode cX3_readOutline 84 = .ok (.iconst 0, 1) := by decide +kernel
theorem dX3_readOutline_85 : decode cX3_readOutline 85 = .ok (.invokestatic 96, 3) := by decide +kernel
theorem dX3_readOutline_88 : decode cX3_readOutline 88 = .ok (.putfield 99, 3) := by decide +kernel
theorem dX3_readOutline_91 : decode cX3_readOutline 91 = .ok (.aload_n 2, 1) := by decide +kernel
theorem dX3_readOutline_92 : decode cX3_readOutline 92 = .ok (.iload 4, 2) := by decide +kernel
theorem dX3_readOutline_94 : decode cX3_readOutline 94 = .ok (.iconst 1, 1) := by decide +kernel
theorem dX3_readOutline_95 : decode cX3_readOutline 95 = .ok (.iadd, 1) := by decide +kernel
theorem dX3_readOutline_96 : decode cX3_readOutline 96 = .ok (.putfield 60, 3) := by decide +kernel
theorem dX3_readOutline_99 : decode cX3_readOutline 99 = .ok (.aload_n 0, 1) := by decide +kernel
theorem dX3_readOutline_100 : decode cX3_readOutline 100 = .ok (.iload_n 1, 1) := by decide +kernel
theorem dX3_readOutline_101 : decode cX3_readOutline 101 = .ok (.invokevirtual 102, 3) := by decide +kernel
theorem dX3_readOutline_104 : decode cX3_readOutline 104 = .ok (.ifCond .eq 14, 3) := by decide +kernel
theorem dX3_readOutline_107 : decode cX3_readOutline 107 = .ok (.aload_n 0, 1) := by decide +kernel
theorem dX3_readOutline_108 : decode cX3_readOutline 108 = .ok (.aload_n 2, 1) := by decide +kernel
theorem dX3_readOutline_109 : decode cX3_readOutline 109 = .ok (.getfield 60, 3) := by decide +kernel
theorem dX3_readOutline_112 : decode cX3_readOutline 112 = .ok (.invokevirtual 105, 3) := by decide +kernel
theorem dX3_readOutline_115 : decode cX3_readOutline 115 = .ok (.ifCond .ne 5, 3) := by decide +kernel
theorem dX3_readOutline_118 : decode cX3_readOutline 118 = .ok (.iconst 0, 1) := by decide +kernel
theorem dX3_readOutline_119 : decode cX3_readOutline 119 = .ok (.ireturn, 1) := by decide +kernel
theorem dX3_readOutline_120 : decode cX3_readOutline 120 = .ok (.iconst 0, 1) := by decide +kernel
theorem dX3_readOutline_121 : decode cX3_readOutline 121 = .ok (.istore 5, 2) := by decide +kernel
theorem dX3_readOutline_123 : decode cX3_readOutline 123 = .ok (.iload 5, 2) := by decide +kernel
theorem dX3_readOutline_125 : decode cX3_readOutline 125 = .ok (.aload_n 2, 1) := by decide +kernel
theorem dX3_readOutline_126 : decode cX3_readOutline 126 = .ok (.getfield 60, 3) := by decide +kernel
theorem dX3_readOutline_129 : decode cX3_readOutline 129 = .ok (.if_icmp .ge 25, 3) := by decide +kernel
theorem dX3_readOutline_132 : decode cX3_readOutline 132 = .ok (.aload_n 2, 1) := by decide +kernel
theorem dX3_readOutline_133 : decode cX3_readOutline 133 = .ok (.getfield 108, 3) := by decide +kernel
theorem dX3_readOutline_136 : decode cX3_readOutline 136 = .ok (.iload 5, 2) := by decide +kernel
theorem dX3_readOutline_138 : decode cX3_readOutline 138 = .ok (.aload_n 0, 1) := by decide +kernel
theorem dX3_readOutline_139 : decode cX3_readOutline 139 = .ok (.getfield 20, 3) := by decide +kernel
theorem dX3_readOutline_142 : decode cX3_readOutline 142 = .ok (.iload 5, 2) := by decide +kernel
theorem dX3_readOutline_144 : decode cX3_readOutline 144 = .ok (.iaload, 1) := by decide +kernel
theorem dX3_readOutline_145 : decode cX3_readOutline 145 = .ok (.iconst 1, 1) := by decide +kernel
theorem dX3_readOutline_146 : decode cX3_readOutline 146 = .ok (.iand, 1) := by decide +kernel
theorem dX3_readOutline_147 : decode cX3_readOutline 147 = .ok (.iastore, 1) := by decide +kernel
theorem dX3_readOutline_148 : decode cX3_readOutline 148 = .ok (.iinc 5 1, 3) := by decide +kernel
theorem dX3_readOutline_151 : decode cX3_readOutline 151 = .ok (.goto (-28), 3) := by decide +kernel
theorem dX3_readOutline_154 : decode cX3_readOutline 154 = .ok (.aload_n 0, 1) := by decide +kernel
theorem dX3_readOutline_155 : decode cX3_readOutline 155 = .ok (.aload_n 2, 1) := by decide +kernel
theorem dX3_readOutline_156 : decode cX3_readOutline 156 = .ok (.getfield 111, 3) := by decide +kernel
theorem dX3_readOutline_159 : decode cX3_readOutline 159 = .ok (.aload_n 2, 1) := by decide +kernel
theorem dX3_readOutline_160 : decode cX3_readOutline 160 = .ok (.getfield 60, 3) := by decide +kernel
theorem dX3_readOutline_163 : decode cX3_readOutline 163 = .ok (.iconst 2, 1) := by decide +kernel
theorem dX3_readOutline_164 : decode cX3_readOutline 164 = .ok (.bipush 16, 2) := by decide +kernel
theorem dX3_readOutline_166 : decode cX3_readOutline 166 = .ok (.invokevirtual 114, 3) := by decide +kernel
theorem dX3_readOutline_169 : decode cX3_readOutline 169 = .ok (.aload_n 0, 1) := by decide +kernel
theorem dX3_readOutline_170 : decode cX3_readOutline 170 = .ok (.aload_n 2, 1) := by decide +kernel
theorem dX3_readOutline_171 : decode cX3_readOutline 171 = .ok (.getfield 118, 3) := by decide +kernel
theorem dX3_readOutline_174 : decode cX3_readOutline 174 = .ok (.aload_n 2, 1) := by decide +kernel
theorem dX3_readOutline_175 : decode cX3_readOutline 175 = .ok (.getfield 60, 3) := by decide +kernel
theorem dX3_readOutline_178 : decode cX3_readOutline 178 = .ok (.iconst 4, 1) := by decide +kernel
theorem dX3_readOutline_179 : decode cX3_readOutline 179 = .ok (.bipush 32, 2) := by decide +kernel
theorem dX3_readOutline_181 : decode cX3_readOutline 181 = .ok (.invokevirtual 114, 3) := by decide +kernel
theorem dX3_readOutline_184 : decode cX3_readOutline 184 = .ok (.aload_n 0, 1) := by decide +kernel
theorem dX3_readOutline_185 : decode cX3_readOutline 185 = .ok (.getfield 69, 3) := by decide +kernel
theorem dX3_readOutline_188 : decode cX3_readOutline 188 = .ok (.ifCond .ne 7, 3) := by decide +kernel
theorem dX3_readOutline_191 : decode cX3_readOutline 191 = .ok (.iconst 1, 1) := by decide +kernel
theorem dX3_readOutline_192 : decode cX3_readOutline 192 = .ok (.goto 4, 3) := by decide +kernel
theorem dX3_readOutline_195 : decode cX3_readOutline 195 = .ok (.iconst 0, 1) := by decide +kernel
theorem dX3_readOutline_196 : decode cX3_readOutline 196 = .ok (.ireturn, 1) := by decide +kernel
def B_X3_readOutline_123 (N : Nat) (k123 : Nat → Int32 → sv_V → Option (Int32 × sv_V)) (l2 : Nat) (l5 : Int32) (V : sv_V) : Option (Int32 × sv_V) := if lay l2 = .inl 8 then if (V.1 l2 9) ≤ l5 then ((cr l2 0).bind (fun b3 => (F_X3_takePlaces N b3 (V.1 l2 9) (2 : Int32) (16 : Int32) V).bind (fun V5 => (cr l2 1).bind (fun b7 => (F_X3_takePlaces N b7 (V5.1 l2 9) (4 : Int32) (32 : Int32) V5).bind (fun V9 => if (V9.1 16 6) = 0 then (some ((1 : Int32), V9)) else (some ((0 : Int32), V9))))))) else ((cr l2 5).bind (fun b12 => if sx_in l5 100 = true then (sv_len 0 b12).bind (fun n15 => if sx_in l5 n15 = true then sx_let (sv_I V b12 l5.toNatClampNeg ((V.1 27 l5.toNatClampNeg) &&& (1 : Int32))) (fun V18 => sx_let (l5 + 1) (fun x19 => k123 l2 x19 V18)) else none) else none)) else none
set_option maxRecDepth 20000 in
theorem tB_X3_readOutline_123 {g : sx_G} (hG : sx_Go g) {P : Option Value → sv_V → Prop} {r : Int32} {Vr : sv_V} (hP : P (some (.int r)) Vr) {N : Nat} {k123 : Nat → Int32 → sv_V → Option (Int32 × sv_V)} (hk123 : ∀ (l2 : Nat) (l5 : Int32) (V : sv_V), k123 l2 l5 V = some (r, Vr) → sv_N g qX3_readOutline 3 123 [(0, .ref 16), (2, .ref l2), (5, .int l5)] [] V P) {l2 : Nat} {l5 : Int32} {V : sv_V} (h : B_X3_readOutline_123 N k123 l2 l5 V = some (r, Vr)) : sv_N g qX3_readOutline 3 123 [(0, .ref 16), (2, .ref l2), (5, .int l5)] [] V P := by
  unfold B_X3_readOutline_123 at h
  refine sx_iload (pc := 123) dX3_readOutline_123 sx_m2 ?_
  refine sx_aload_n (pc := 125) dX3_readOutline_125 sx_m1 ?_
  obtain ⟨g1, h⟩ := sx_grd h
  refine sv_getI (pc := 126) hG dX3_readOutline_126 f_3_60 g1 rfl ?_
  refine sx_icmp_ge (pc := 129) (tgt := 154) dX3_readOutline_129 (by decide) (fun c2 => ?_) (fun c2 => ?_)
  · have h := sx_pos c2 h
    refine sx_aload_n (pc := 154) dX3_readOutline_154 sx_m0 ?_
    refine sx_aload_n (pc := 155) dX3_readOutline_155 sx_m1 ?_
    obtain ⟨b3, g4, h⟩ := sx_bnd h
    refine sv_getA (pc := 156) hG dX3_readOutline_156 f_3_111 g1 rfl g4 ?_
    refine sx_aload_n (pc := 159) dX3_readOutline_159 sx_m1 ?_
    refine sv_getI (pc := 160) hG dX3_readOutline_160 f_3_60 g1 rfl ?_
    refine sx_iconst (pc := 163) (v := 2) dX3_readOutline_163 (by decide) ?_
    refine sx_bipush (pc := 164) (v := 16) dX3_readOutline_164 (by decide) ?_
    obtain ⟨V5, g6, h⟩ := sx_bnd h
    refine sv_cV (pc := 166) (y := qX3_takePlaces) (o := none) (as := [.ref b3, .int (V.1 l2 9), .int (2 : Int32), .int (16 : Int32)]) (V1 := V5) hG dX3_readOutline_166 l_X3_114 y0X3_takePlaces yvX3_takePlaces rfl (Nat.le_of_ble_eq_true rfl) lay_16 kr_3 (by decide) (Nat.le_of_ble_eq_true rfl) rfl rfl rfl (t_X3_takePlaces hG ⟨rfl, rfl⟩ g6) ?_
    refine sx_aload_n (pc := 169) dX3_readOutline_169 sx_m0 ?_
    refine sx_aload_n (pc := 170) dX3_readOutline_170 sx_m1 ?_
    obtain ⟨b7, g8, h⟩ := sx_bnd h
    refine sv_getA (pc := 171) hG dX3_readOutline_171 f_3_118 g1 rfl g8 ?_
    refine sx_aload_n (pc := 174) dX3_readOutline_174 sx_m1 ?_
    refine sv_getI (pc := 175) hG dX3_readOutline_175 f_3_60 g1 rfl ?_
    refine sx_iconst (pc := 178) (v := 4) dX3_readOutline_178 (by decide) ?_
    refine sx_bipush (pc := 179) (v := 32) dX3_readOutline_179 (by decide) ?_
    obtain ⟨V9, g10, h⟩ := sx_bnd h
    refine sv_cV (pc := 181) (y := qX3_takePlaces) (o := none) (as := [.ref b7, .int (V5.1 l2 9), .int (4 : Int32), .int (32 : Int32)]) (V1 := V9) hG dX3_readOutline_181 l_X3_114 y0X3_takePlaces yvX3_takePlaces rfl (Nat.le_of_ble_eq_true rfl) lay_16 kr_3 (by decide) (Nat.le_of_ble_eq_true rfl) rfl rfl rfl (t_X3_takePlaces hG ⟨rfl, rfl⟩ g10) ?_
    refine sx_aload_n (pc := 184) dX3_readOutline_184 sx_m0 ?_
    refine sv_getZ (pc := 185) hG dX3_readOutline_185 f_3_69 lay_16 rfl ?_
    refine sx_if_ne (pc := 188) (tgt := 195) dX3_readOutline_188 (by decide) (fun c11 => ?_) (fun c11 => ?_)
    · have h := sx_neg c11 h
      refine sx_iconst (pc := 195) (v := 0) dX3_readOutline_195 (by decide) ?_
      exact sv_zret (pc := 196) dX3_readOutline_196 rfl rfl h hP
    · have h := sx_pos c11 h
      refine sx_iconst (pc := 191) (v := 1) dX3_readOutline_191 (by decide) ?_
      refine sx_goto (pc := 192) (tgt := 196) dX3_readOutline_192 (by decide) ?_
      exact sv_zret (pc := 196) dX3_readOutline_196 rfl rfl h hP
  · have h := sx_neg c2 h
    refine sx_aload_n (pc := 132) dX3_readOutline_132 sx_m1 ?_
    obtain ⟨b12, g13, h⟩ := sx_bnd h
    refine sv_getA (pc := 133) hG dX3_readOutline_133 f_3_108 g1 rfl g13 ?_
    refine sx_iload (pc := 136) dX3_readOutline_136 sx_m2 ?_
    refine sx_aload_n (pc := 138) dX3_readOutline_138 sx_m0 ?_
    refine sv_getA (pc := 139) hG dX3_readOutline_139 f_3_20 lay_16 rfl cr_16_2 ?_
    refine sx_iload (pc := 142) dX3_readOutline_142 sx_m2 ?_
    obtain ⟨g14, h⟩ := sx_grd h
    refine sv_iald (pc := 144) hG dX3_readOutline_144 lay_27 g14 ?_
    refine sx_iconst (pc := 145) (v := 1) dX3_readOutline_145 (by decide) ?_
    refine sx_iand (pc := 146) dX3_readOutline_146 ?_
    obtain ⟨n15, g16, h⟩ := sx_bnd h
    obtain ⟨g17, h⟩ := sx_grd h
    obtain ⟨V18, hV18⟩ : ∃ z : sv_V, z = sv_I V b12 l5.toNatClampNeg ((V.1 27 l5.toNatClampNeg) &&& (1 : Int32)) := ⟨_, rfl⟩
    have h := sx_letE hV18 h
    refine sv_iast (pc := 147) hG dX3_readOutline_147 (sv_len_e g16) g17 hV18 ?_
    obtain ⟨x19, hx19⟩ : ∃ z : Int32, z = l5 + 1 := ⟨_, rfl⟩
    have h := sx_letE hx19 h
    refine sx_iinc (pc := 148) (v := x19) (lo' := [(5, .int x19), (0, .ref 16), (2, .ref l2)]) dX3_readOutline_148 sx_m2 (by rw [hx19]; rfl) (by decide) rfl ?_
    refine sx_goto (pc := 151) (tgt := 123) dX3_readOutline_151 (by decide) ?_
    refine sx_wk (sx_s1 sx_m1 (sx_s1 sx_m2 (sx_s1 sx_m0 sx_s0))) ?_
    exact hk123 _ _ _ h
theorem tL_X3_readOutline_123 {g : sx_G} (hG : sx_Go g) {P : Option Value → sv_V → Prop} {r : Int32} {Vr : sv_V} (hP : P (some (.int r)) Vr) {N : Nat}   : ∀ (n : Nat) (l2 : Nat) (l5 : Int32) (V : sv_V), sx_lp3 (B_X3_readOutline_123 N ) n l2 l5 V = some (r, Vr) → sv_N g qX3_readOutline 3 123 [(0, .ref 16), (2, .ref l2), (5, .int l5)] [] V P :=
  sx_lp3_ind (fun k0 ih _ _ V h => tB_X3_readOutline_123 hG hP ih h)
def B_X3_readOutline_28 (N : Nat) (k28 : Int32 → Nat → Int32 → Int32 → Int32 → sv_V → Option (Int32 × sv_V)) (l1 : Int32) (l2 : Nat) (l3 : Int32) (l4 : Int32) (l5 : Int32) (V : sv_V) : Option (Int32 × sv_V) := if l3 ≤ l5 then ((F_J9_max_7cf53 l3 (0 : Int32) V).bind (fun (x23, V21) => if lay l2 = .inl 8 then sx_let (sv_I V21 l2 10 x23) (fun V25 => sx_let (sv_I V25 l2 9 (l4 + (1 : Int32))) (fun V26 => (F_X3_takeProgram l1 V26).bind (fun (x29, V27) => if x29 = 0 then (some ((0 : Int32), V27)) else ((F_X3_takeFlags N (V27.1 l2 9) V27).bind (fun (x33, V31) => if x33 = 0 then (some ((0 : Int32), V31)) else (sx_lp3 (B_X3_readOutline_123 N ) N l2 (0 : Int32) V31)))))) else none)) else ((F_X3_takeU2  V).bind (fun (x37, V35) => if (V35.1 16 6) = 0 then (if x37 ≤ l4 then (some ((0 : Int32), V35)) else (if x37 < (100 : Int32) then (if lay l2 = .inl 8 then (cr l2 6).bind (fun b42 => (sv_len 0 b42).bind (fun n44 => if sx_in l5 n44 = true then sx_let (sv_I V35 b42 l5.toNatClampNeg x37) (fun V47 => sx_let (l5 + 1) (fun x48 => k28 l1 l2 l3 x37 x48 V47)) else none)) else none) else (some ((0 : Int32), V35)))) else (some ((0 : Int32), V35))))
set_option maxRecDepth 20000 in
theorem tB_X3_readOutline_28 {g : sx_G} (hG : sx_Go g) {P : Option Value → sv_V → Prop} {r : Int32} {Vr : sv_V} (hP : P (some (.int r)) Vr) {N : Nat} {k28 : Int32 → Nat → Int32 → Int32 → Int32 → sv_V → Option (Int32 × sv_V)} (hk28 : ∀ (l1 : Int32) (l2 : Nat) (l3 : Int32) (l4 : Int32) (l5 : Int32) (V : sv_V), k28 l1 l2 l3 l4 l5 V = some (r, Vr) → sv_N g qX3_readOutline 3 28 [(0, .ref 16), (1, .int l1), (2, .ref l2), (3, .int l3), (4, .int l4), (5, .int l5)] [] V P) {l1 : Int32} {l2 : Nat} {l3 : Int32} {l4 : Int32} {l5 : Int32} {V : sv_V} (h : B_X3_readOutline_28 N k28 l1 l2 l3 l4 l5 V = some (r, Vr)) : sv_N g qX3_readOutline 3 28 [(0, .ref 16), (1, .int l1), (2, .ref l2), (3, .int l3), (4, .int l4), (5, .int l5)] [] V P := by
  unfold B_X3_readOutline_28 at h
  refine sx_iload (pc := 28) dX3_readOutline_28 sx_m5 ?_
  refine sx_iload_n (pc := 30) dX3_readOutline_30 sx_m3 ?_
  refine sx_icmp_ge (pc := 31) (tgt := 82) dX3_readOutline_31 (by decide) (fun c20 => ?_) (fun c20 => ?_)
  · have h := sx_pos c20 h
    refine sx_aload_n (pc := 82) dX3_readOutline_82 sx_m2 ?_
    refine sx_iload_n (pc := 83) dX3_readOutline_83 sx_m3 ?_
    refine sx_iconst (pc := 84) (v := 0) dX3_readOutline_84 (by decide) ?_
    obtain ⟨⟨x23, V21⟩, g22, h⟩ := sx_bnd h
    refine sv_cS (pc := 85) (y := qJ9_max_7cf53) (o := (some (.int x23))) (as := [.int l3, .int (0 : Int32)]) (V1 := V21) dX3_readOutline_85 l_X3_96 y0J9_max_7cf53 ysJ9_max_7cf53 rfl (Nat.le_of_ble_eq_true rfl) (by decide) (Nat.le_of_ble_eq_true rfl) rfl rfl rfl (t_J9_max_7cf53 hG ⟨rfl, rfl⟩ g22) ?_
    obtain ⟨g24, h⟩ := sx_grd h
    obtain ⟨V25, hV25⟩ : ∃ z : sv_V, z = sv_I V21 l2 10 x23 := ⟨_, rfl⟩
    have h := sx_letE hV25 h
    refine sv_putI (pc := 88) hG dX3_readOutline_88 f_3_99 g24 rfl hV25 ?_
    refine sx_aload_n (pc := 91) dX3_readOutline_91 sx_m2 ?_
    refine sx_iload (pc := 92) dX3_readOutline_92 sx_m4 ?_
    refine sx_iconst (pc := 94) (v := 1) dX3_readOutline_94 (by decide) ?_
    refine sx_iadd (pc := 95) dX3_readOutline_95 ?_
    obtain ⟨V26, hV26⟩ : ∃ z : sv_V, z = sv_I V25 l2 9 (l4 + (1 : Int32)) := ⟨_, rfl⟩
    have h := sx_letE hV26 h
    refine sv_putI (pc := 96) hG dX3_readOutline_96 f_3_60 g24 rfl hV26 ?_
    refine sx_aload_n (pc := 99) dX3_readOutline_99 sx_m0 ?_
    refine sx_iload_n (pc := 100) dX3_readOutline_100 sx_m1 ?_
    obtain ⟨⟨x29, V27⟩, g28, h⟩ := sx_bnd h
    refine sv_cV (pc := 101) (y := qX3_takeProgram) (o := (some (.int x29))) (as := [.int l1]) (V1 := V27) hG dX3_readOutline_101 l_X3_102 y0X3_takeProgram yvX3_takeProgram rfl (Nat.le_of_ble_eq_true rfl) lay_16 kr_3 (by decide) (Nat.le_of_ble_eq_true rfl) rfl rfl rfl (t_X3_takeProgram hG ⟨rfl, rfl⟩ g28) ?_
    refine sx_if_eq (pc := 104) (tgt := 118) dX3_readOutline_104 (by decide) (fun c30 => ?_) (fun c30 => ?_)
    · have h := sx_pos c30 h
      refine sx_iconst (pc := 118) (v := 0) dX3_readOutline_118 (by decide) ?_
      exact sv_zret (pc := 119) dX3_readOutline_119 rfl rfl h hP
    · have h := sx_neg c30 h
      refine sx_aload_n (pc := 107) dX3_readOutline_107 sx_m0 ?_
      refine sx_aload_n (pc := 108) dX3_readOutline_108 sx_m2 ?_
      refine sv_getI (pc := 109) hG dX3_readOutline_109 f_3_60 g24 rfl ?_
      obtain ⟨⟨x33, V31⟩, g32, h⟩ := sx_bnd h
      refine sv_cV (pc := 112) (y := qX3_takeFlags) (o := (some (.int x33))) (as := [.int (V27.1 l2 9)]) (V1 := V31) hG dX3_readOutline_112 l_X3_105 y0X3_takeFlags yvX3_takeFlags rfl (Nat.le_of_ble_eq_true rfl) lay_16 kr_3 (by decide) (Nat.le_of_ble_eq_true rfl) rfl rfl rfl (t_X3_takeFlags hG ⟨rfl, rfl⟩ g32) ?_
      refine sx_if_ne (pc := 115) (tgt := 120) dX3_readOutline_115 (by decide) (fun c34 => ?_) (fun c34 => ?_)
      · have h := sx_neg c34 h
        refine sx_iconst (pc := 120) (v := 0) dX3_readOutline_120 (by decide) ?_
        refine sx_istore (pc := 121) (lo' := [(5, .int (0 : Int32)), (0, .ref 16), (1, .int l1), (2, .ref l2), (3, .int l3), (4, .int l4)]) dX3_readOutline_121 (by decide) rfl ?_
        refine sx_wk (sx_s1 sx_m1 (sx_s1 sx_m3 (sx_s1 sx_m0 sx_s0))) ?_
        exact tL_X3_readOutline_123 hG hP  N _ _ _ h
      · have h := sx_pos c34 h
        refine sx_iconst (pc := 118) (v := 0) dX3_readOutline_118 (by decide) ?_
        exact sv_zret (pc := 119) dX3_readOutline_119 rfl rfl h hP
  · have h := sx_neg c20 h
    refine sx_aload_n (pc := 34) dX3_readOutline_34 sx_m0 ?_
    obtain ⟨⟨x37, V35⟩, g36, h⟩ := sx_bnd h
    refine sv_cV (pc := 35) (y := qX3_takeU2) (o := (some (.int x37))) (as := []) (V1 := V35) hG dX3_readOutline_35 l_X3_89 y0X3_takeU2 yvX3_takeU2 rfl (Nat.le_of_ble_eq_true rfl) lay_16 kr_3 (by decide) (Nat.le_of_ble_eq_true rfl) rfl rfl rfl (t_X3_takeU2 hG ⟨rfl, rfl⟩ g36) ?_
    refine sx_istore (pc := 38) (lo' := [(6, .int x37), (0, .ref 16), (1, .int l1), (2, .ref l2), (3, .int l3), (4, .int l4), (5, .int l5)]) dX3_readOutline_38 (by decide) rfl ?_
    refine sx_aload_n (pc := 40) dX3_readOutline_40 sx_m1 ?_
    refine sv_getZ (pc := 41) hG dX3_readOutline_41 f_3_69 lay_16 rfl ?_
    refine sx_if_ne (pc := 44) (tgt := 61) dX3_readOutline_44 (by decide) (fun c38 => ?_) (fun c38 => ?_)
    · have h := sx_neg c38 h
      refine sx_iconst (pc := 61) (v := 0) dX3_readOutline_61 (by decide) ?_
      exact sv_zret (pc := 62) dX3_readOutline_62 rfl rfl h hP
    · have h := sx_pos c38 h
      refine sx_iload (pc := 47) dX3_readOutline_47 sx_m0 ?_
      refine sx_iload (pc := 49) dX3_readOutline_49 sx_m5 ?_
      refine sx_icmp_le (pc := 51) (tgt := 61) dX3_readOutline_51 (by decide) (fun c39 => ?_) (fun c39 => ?_)
      · have h := sx_pos c39 h
        refine sx_iconst (pc := 61) (v := 0) dX3_readOutline_61 (by decide) ?_
        exact sv_zret (pc := 62) dX3_readOutline_62 rfl rfl h hP
      · have h := sx_neg c39 h
        refine sx_iload (pc := 54) dX3_readOutline_54 sx_m0 ?_
        refine sx_bipush (pc := 56) (v := 100) dX3_readOutline_56 (by decide) ?_
        refine sx_icmp_lt (pc := 58) (tgt := 63) dX3_readOutline_58 (by decide) (fun c40 => ?_) (fun c40 => ?_)
        · have h := sx_pos c40 h
          refine sx_aload_n (pc := 63) dX3_readOutline_63 sx_m3 ?_
          obtain ⟨g41, h⟩ := sx_grd h
          obtain ⟨b42, g43, h⟩ := sx_bnd h
          refine sv_getA (pc := 64) hG dX3_readOutline_64 f_3_93 g41 rfl g43 ?_
          refine sx_iload (pc := 67) dX3_readOutline_67 sx_m6 ?_
          refine sx_iload (pc := 69) dX3_readOutline_69 sx_m0 ?_
          obtain ⟨n44, g45, h⟩ := sx_bnd h
          obtain ⟨g46, h⟩ := sx_grd h
          obtain ⟨V47, hV47⟩ : ∃ z : sv_V, z = sv_I V35 b42 l5.toNatClampNeg x37 := ⟨_, rfl⟩
          have h := sx_letE hV47 h
          refine sv_iast (pc := 71) hG dX3_readOutline_71 (sv_len_e g45) g46 hV47 ?_
          refine sx_iload (pc := 72) dX3_readOutline_72 sx_m0 ?_
          refine sx_istore (pc := 74) (lo' := [(4, .int x37), (6, .int x37), (0, .ref 16), (1, .int l1), (2, .ref l2), (3, .int l3), (5, .int l5)]) dX3_readOutline_74 (by decide) rfl ?_
          obtain ⟨x48, hx48⟩ : ∃ z : Int32, z = l5 + 1 := ⟨_, rfl⟩
          have h := sx_letE hx48 h
          refine sx_iinc (pc := 76) (v := x48) (lo' := [(5, .int x48), (4, .int x37), (6, .int x37), (0, .ref 16), (1, .int l1), (2, .ref l2), (3, .int l3)]) dX3_readOutline_76 sx_m6 (by rw [hx48]; rfl) (by decide) rfl ?_
          refine sx_goto (pc := 79) (tgt := 28) dX3_readOutline_79 (by decide) ?_
          refine sx_wk (sx_s1 sx_m3 (sx_s1 sx_m4 (sx_s1 sx_m5 (sx_s1 sx_m6 (sx_s1 sx_m1 (sx_s1 sx_m0 sx_s0)))))) ?_
          exact hk28 _ _ _ _ _ _ h
        · have h := sx_neg c40 h
          refine sx_iconst (pc := 61) (v := 0) dX3_readOutline_61 (by decide) ?_
          exact sv_zret (pc := 62) dX3_readOutline_62 rfl rfl h hP
theorem tL_X3_readOutline_28 {g : sx_G} (hG : sx_Go g) {P : Option Value → sv_V → Prop} {r : Int32} {Vr : sv_V} (hP : P (some (.int r)) Vr) {N : Nat}   : ∀ (n : Nat) (l1 : Int32) (l2 : Nat) (l3 : Int32) (l4 : Int32) (l5 : Int32) (V : sv_V), sx_lp6 (B_X3_readOutline_28 N ) n l1 l2 l3 l4 l5 V = some (r, Vr) → sv_N g qX3_readOutline 3 28 [(0, .ref 16), (1, .int l1), (2, .ref l2), (3, .int l3), (4, .int l4), (5, .int l5)] [] V P :=
  sx_lp6_ind (fun k0 ih _ _ _ _ _ V h => tB_X3_readOutline_28 hG hP ih h)
def F_X3_readOutline (N : Nat) (l1 : Int32) (l2 : Nat) (V : sv_V) : Option (Int32 × sv_V) := (F_X3_goTo l1 V).bind (fun V49 => (cr 7 (2 : Int32).toNatClampNeg).bind (fun b51 => (sv_len 0 b51).bind (fun n53 => if sx_in l1 n53 = true then (F_J9_min_7cf53 (V49.1 b51 l1.toNatClampNeg) (12 : Int32) V49).bind (fun (x58, V56) => sx_lp6 (B_X3_readOutline_28 N ) N l1 l2 x58 (-1 : Int32) (0 : Int32) V56) else none)))
set_option maxRecDepth 20000 in
theorem t_X3_readOutline {g : sx_G} (hG : sx_Go g) {P : Option Value → sv_V → Prop} {r : Int32} {Vr : sv_V} (hP : P (some (.int r)) Vr) {N : Nat} {l1 : Int32} {l2 : Nat} {V : sv_V} (h : F_X3_readOutline N l1 l2 V = some (r, Vr)) : sv_N g qX3_readOutline 3 0 [(0, .ref 16), (1, .int l1), (2, .ref l2)] [] V P := by
  unfold F_X3_readOutline at h
  refine sx_aload_n (pc := 0) dX3_readOutline_0 sx_m0 ?_
  refine sx_iload_n (pc := 1) dX3_readOutline_1 sx_m1 ?_
  obtain ⟨V49, g50, h⟩ := sx_bnd h
  refine sv_cV (pc := 2) (y := qX3_goTo) (o := none) (as := [.int l1]) (V1 := V49) hG dX3_readOutline_2 l_X3_79 y0X3_goTo yvX3_goTo rfl (Nat.le_of_ble_eq_true rfl) lay_16 kr_3 (by decide) (Nat.le_of_ble_eq_true rfl) rfl rfl rfl (t_X3_goTo hG ⟨rfl, rfl⟩ g50) ?_
  refine sx_aload_n (pc := 5) dX3_readOutline_5 sx_m0 ?_
  refine sv_getO (pc := 6) hG dX3_readOutline_6 f_3_27 lay_16 rfl cr_16_0 ?_
  refine sv_getA (pc := 9) hG dX3_readOutline_9 f_3_45 lay_2 rfl cr_2_16 ?_
  refine sx_iconst (pc := 12) (v := 2) dX3_readOutline_12 (by decide) ?_
  obtain ⟨b51, g52, h⟩ := sx_bnd h
  refine sv_aald (pc := 13) hG dX3_readOutline_13 (by decide) lay_7 (by decide) g52 ?_
  refine sx_iload_n (pc := 14) dX3_readOutline_14 sx_m1 ?_
  obtain ⟨n53, g54, h⟩ := sx_bnd h
  obtain ⟨g55, h⟩ := sx_grd h
  refine sv_iald (pc := 15) hG dX3_readOutline_15 (sv_len_e g54) g55 ?_
  refine sx_bipush (pc := 16) (v := 12) dX3_readOutline_16 (by decide) ?_
  obtain ⟨⟨x58, V56⟩, g57, h⟩ := sx_bnd h
  refine sv_cS (pc := 18) (y := qJ9_min_7cf53) (o := (some (.int x58))) (as := [.int (V49.1 b51 l1.toNatClampNeg), .int (12 : Int32)]) (V1 := V56) dX3_readOutline_18 l_X3_83 y0J9_min_7cf53 ysJ9_min_7cf53 rfl (Nat.le_of_ble_eq_true rfl) (by decide) (Nat.le_of_ble_eq_true rfl) rfl rfl rfl (t_J9_min_7cf53 hG ⟨rfl, rfl⟩ g57) ?_
  refine sx_istore_n (pc := 21) (lo' := [(3, .int x58), (0, .ref 16), (1, .int l1), (2, .ref l2)]) dX3_readOutline_21 (by decide) rfl ?_
  refine sx_iconst (pc := 22) (v := (-1)) dX3_readOutline_22 (by decide) ?_
  refine sx_istore (pc := 23) (lo' := [(4, .int (-1 : Int32)), (3, .int x58), (0, .ref 16), (1, .int l1), (2, .ref l2)]) dX3_readOutline_23 (by decide) rfl ?_
  refine sx_iconst (pc := 25) (v := 0) dX3_readOutline_25 (by decide) ?_
  refine sx_istore (pc := 26) (lo' := [(5, .int (0 : Int32)), (4, .int (-1 : Int32)), (3, .int x58), (0, .ref 16), (1, .int l1), (2, .ref l2)]) dX3_readOutline_26 (by decide) rfl ?_
  refine sx_wk (sx_s1 sx_m3 (sx_s1 sx_m4 (sx_s1 sx_m5 (sx_s1 sx_m2 (sx_s1 sx_m1 (sx_s1 sx_m0 sx_s0)))))) ?_
  exact tL_X3_readOutline_28 hG hP  N _ _ _ _ _ _ h
theorem dX3_partsHold_0 : decode cX3_partsHold 0 = .ok (.aload_n 0, 1) := by decide +kernel
theorem dX3_partsHold_1 : decode cX3_partsHold 1 = .ok (.iload_n 1, 1) := by decide +kernel
theorem dX3_partsHold_2 : decode cX3_partsHold 2 = .ok (.invokevirtual 79, 3) := by decide +kernel
theorem dX3_partsHold_5 : decode cX3_partsHold 5 = .ok (.iconst 1, 1) := by decide +kernel
theorem dX3_partsHold_6 : decode cX3_partsHold 6 = .ok (.istore_n 2, 1) := by decide +kernel
theorem dX3_partsHold_7 : decode cX3_partsHold 7 = .ok (.iload_n 2, 1) := by decide +kernel
theorem dX3_partsHold_8 : decode cX3_partsHold 8 = .ok (.bipush 8, 2) := by decide +kernel
theorem dX3_partsHold_10 : decode cX3_partsHold 10 = .ok (.if_icmp .gt 83, 3) := by decide +kernel
theorem dX3_partsHold_13 : decode cX3_partsHold 13 = .ok (.aload_n 0, 1) := by decide +kernel
theorem dX3_partsHold_14 : decode cX3_partsHold 14 = .ok (.invokevirtual 127, 3) := by decide +kernel
theorem dX3_partsHold_17 : decode cX3_partsHold 17 = .ok (.aload_n 0, 1) := by decide +kernel
theorem dX3_partsHold_18 : decode cX3_partsHold 18 = .ok (.getfield 69, 3) := by decide +kernel
theorem dX3_partsHold_21 : decode cX3_partsHold 21 = .ok (.ifCond .ne 17, 3) := by decide +kernel
theorem dX3_partsHold_24 : decode cX3_partsHold 24 = .ok (.aload_n 0, 1) := by decide +kernel
theorem dX3_partsHold_25 : decode cX3_partsHold 25 = .ok (.getfield 130, 3) := by decide +kernel
theorem dX3_partsHold_28 : decode cX3_partsHold 28 = .ok (.aload_n 0, 1) := by decide +kernel
theorem dX3_partsHold_29 : decode cX3_partsHold 29 = .ok (.getfield 27, 3) := by decide +kernel
theorem dX3_partsHold_32 : decode cX3_partsHold 32 = .ok (.getfield 31, 3) := by decide +kernel
theorem dX3_partsHold_35 : decode cX3_partsHold 35 = .ok (.if_icmp .lt 5, 3) := by decide +kernel
theorem dX3_partsHold_38 : decode cX3_partsHold 38 = .ok (.iconst 0, 1) := by decide +kernel
theorem dX3_partsHold_39 : decode cX3_partsHold 39 = .ok (.ireturn, 1) := by decide +kernel
theorem dX3_partsHold_40 : decode cX3_partsHold 40 = .ok (.aload_n 0, 1) := by decide +kernel
theorem dX3_partsHold_41 : decode cX3_partsHold 41 = .ok (.getfield 27, 3) := by decide +kernel
theorem dX3_partsHold_44 : decode cX3_partsHold 44 = .ok (.getfield 45, 3) := by decide +kernel
theorem dX3_partsHold_47 : decode cX3_partsHold 47 = .ok (.iconst 5, 1) := by decide +kernel
theorem dX3_partsHold_48 : decode cX3_partsHold 48 = .ok (.aaload, 1) := by decide +kernel
theorem dX3_partsHold_49 : decode cX3_partsHold 49 = .ok (.iload_n 1, 1) := by decide +kernel
theorem dX3_partsHold_50 : decode cX3_partsHold 50 = .ok (.iload_n 2, 1) := by decide +kernel
theorem dX3_partsHold_51 : decode cX3_partsHold 51 = .ok (.iastore, 1) := by decide +kernel
theorem dX3_partsHold_52 : decode cX3_partsHold 52 = .ok (.aload_n 0, 1) := by decide +kernel
theorem dX3_partsHold_53 : decode cX3_partsHold 53 = .ok (.getfield 133, 3) := by decide +kernel
theorem dX3_partsHold_56 : decode cX3_partsHold 56 = .ok (.bipush 32, 2) := by decide +kernel
theorem dX3_partsHold_58 : decode cX3_partsHold 58 = .ok (.iand, 1) := by decide +kernel
theorem dX3_partsHold_59 : decode cX3_partsHold 59 = .ok (.ifCond .ne 28, 3) := by decide +kernel
theorem dX3_partsHold_62 : decode cX3_partsHold 62 = .ok (.aload_n 0, 1) := by decide +kernel
theorem dX3_partsHold_63 : decode cX3_partsHold 63 = .ok (.getfield 133, 3) := by decide +kernel
theorem dX3_partsHold_66 : decode cX3_partsHold 66 = .ok (.sipush 256, 3) := by decide +kernel
theorem dX3_partsHold_69 : decode cX3_partsHold 69 = .ok (.iand, 1) := by decide +kernel
theorem dX3_partsHold_70 : decode cX3_partsHold 70 = .ok (.ifCond .eq 11, 3) := by decide +kernel
theorem dX3_partsHold_73 : decode cX3_partsHold 73 = .ok (.aload_n 0, 1) := by decide +kernel
theorem dX3_partsHold_74 : decode cX3_partsHold 74 = .ok (.iload_n 1, 1) := by decide +kernel
theorem dX3_partsHold_75 : decode cX3_partsHold 75 = .ok (.invokevirtual 102, 3) := by decide +kernel
theorem dX3_partsHold_78 : decode cX3_partsHold 78 = .ok (.ifCond .eq 7, 3) := by decide +kernel
theorem dX3_partsHold_81 : decode cX3_partsHold 81 = .ok (.iconst 1, 1) := by decide +kernel
theorem dX3_partsHold_82 : decode cX3_partsHold 82 = .ok (.goto 4, 3) := by decide +kernel
theorem dX3_partsHold_85 : decode cX3_partsHold 85 = .ok (.iconst 0, 1) := by decide +kernel
theorem dX3_partsHold_86 : decode cX3_partsHold 86 = .ok (.ireturn, 1) := by decide +kernel
theorem dX3_partsHold_87 : decode cX3_partsHold 87 = .ok (.iinc 2 1, 3) := by decide +kernel
theorem dX3_partsHold_90 : decode cX3_partsHold 90 = .ok (.goto (-83), 3) := by decide +kernel
theorem dX3_partsHold_93 : decode cX3_partsHold 93 = .ok (.iconst 0, 1) := by decide +kernel
theorem dX3_partsHold_94 : decode cX3_partsHold 94 = .ok (.ireturn, 1) := by decide +kernel
def B_X3_partsHold_81 (N : Nat)   (V : sv_V) : Option (Int32 × sv_V) := some ((1 : Int32), V)
set_option maxRecDepth 20000 in
theorem tB_X3_partsHold_81 {g : sx_G} (hG : sx_Go g) {P : Option Value → sv_V → Prop} {r : Int32} {Vr : sv_V} (hP : P (some (.int r)) Vr) {N : Nat}    {V : sv_V} (h : B_X3_partsHold_81 N   V = some (r, Vr)) : sv_N g qX3_partsHold 3 81 [] [] V P := by
  unfold B_X3_partsHold_81 at h
  refine sx_iconst (pc := 81) (v := 1) dX3_partsHold_81 (by decide) ?_
  refine sx_goto (pc := 82) (tgt := 86) dX3_partsHold_82 (by decide) ?_
  exact sv_zret (pc := 86) dX3_partsHold_86 rfl rfl h hP
def B_X3_partsHold_7 (N : Nat) (k7 : Int32 → Int32 → sv_V → Option (Int32 × sv_V)) (l1 : Int32) (l2 : Int32) (V : sv_V) : Option (Int32 × sv_V) := if (8 : Int32) < l2 then (some ((0 : Int32), V)) else ((F_X3_takePart  V).bind (fun V2 => if (V2.1 16 6) = 0 then (if (V2.1 16 8) < (V2.1 2 7) then ((cr 7 (5 : Int32).toNatClampNeg).bind (fun b6 => (sv_len 0 b6).bind (fun n8 => if sx_in l1 n8 = true then sx_let (sv_I V2 b6 l1.toNatClampNeg l2) (fun V11 => if ((V11.1 16 7) &&& (32 : Int32)) = 0 then (if ((V11.1 16 7) &&& (256 : Int32)) = 0 then (B_X3_partsHold_81 N   V11) else ((F_X3_takeProgram l1 V11).bind (fun (x17, V15) => if x17 = 0 then (some ((0 : Int32), V15)) else (B_X3_partsHold_81 N   V15)))) else (sx_let (l2 + 1) (fun x13 => k7 l1 x13 V11))) else none))) else (some ((0 : Int32), V2))) else (some ((0 : Int32), V2))))
set_option maxRecDepth 20000 in
theorem tB_X3_partsHold_7 {g : sx_G} (hG : sx_Go g) {P : Option Value → sv_V → Prop} {r : Int32} {Vr : sv_V} (hP : P (some (.int r)) Vr) {N : Nat} {k7 : Int32 → Int32 → sv_V → Option (Int32 × sv_V)} (hk7 : ∀ (l1 : Int32) (l2 : Int32) (V : sv_V), k7 l1 l2 V = some (r, Vr) → sv_N g qX3_partsHold 3 7 [(0, .ref 16), (1, .int l1), (2, .int l2)] [] V P) {l1 : Int32} {l2 : Int32} {V : sv_V} (h : B_X3_partsHold_7 N k7 l1 l2 V = some (r, Vr)) : sv_N g qX3_partsHold 3 7 [(0, .ref 16), (1, .int l1), (2, .int l2)] [] V P := by
  unfold B_X3_partsHold_7 at h
  refine sx_iload_n (pc := 7) dX3_partsHold_7 sx_m2 ?_
  refine sx_bipush (pc := 8) (v := 8) dX3_partsHold_8 (by decide) ?_
  refine sx_icmp_gt (pc := 10) (tgt := 93) dX3_partsHold_10 (by decide) (fun c1 => ?_) (fun c1 => ?_)
  · have h := sx_pos c1 h
    refine sx_iconst (pc := 93) (v := 0) dX3_partsHold_93 (by decide) ?_
    exact sv_zret (pc := 94) dX3_partsHold_94 rfl rfl h hP
  · have h := sx_neg c1 h
    refine sx_aload_n (pc := 13) dX3_partsHold_13 sx_m0 ?_
    obtain ⟨V2, g3, h⟩ := sx_bnd h
    refine sv_cV (pc := 14) (y := qX3_takePart) (o := none) (as := []) (V1 := V2) hG dX3_partsHold_14 l_X3_127 y0X3_takePart yvX3_takePart rfl (Nat.le_of_ble_eq_true rfl) lay_16 kr_3 (by decide) (Nat.le_of_ble_eq_true rfl) rfl rfl rfl (t_X3_takePart hG ⟨rfl, rfl⟩ g3) ?_
    refine sx_aload_n (pc := 17) dX3_partsHold_17 sx_m0 ?_
    refine sv_getZ (pc := 18) hG dX3_partsHold_18 f_3_69 lay_16 rfl ?_
    refine sx_if_ne (pc := 21) (tgt := 38) dX3_partsHold_21 (by decide) (fun c4 => ?_) (fun c4 => ?_)
    · have h := sx_neg c4 h
      refine sx_iconst (pc := 38) (v := 0) dX3_partsHold_38 (by decide) ?_
      exact sv_zret (pc := 39) dX3_partsHold_39 rfl rfl h hP
    · have h := sx_pos c4 h
      refine sx_aload_n (pc := 24) dX3_partsHold_24 sx_m0 ?_
      refine sv_getI (pc := 25) hG dX3_partsHold_25 f_3_130 lay_16 rfl ?_
      refine sx_aload_n (pc := 28) dX3_partsHold_28 sx_m0 ?_
      refine sv_getO (pc := 29) hG dX3_partsHold_29 f_3_27 lay_16 rfl cr_16_0 ?_
      refine sv_getI (pc := 32) hG dX3_partsHold_32 f_3_31 lay_2 rfl ?_
      refine sx_icmp_lt (pc := 35) (tgt := 40) dX3_partsHold_35 (by decide) (fun c5 => ?_) (fun c5 => ?_)
      · have h := sx_pos c5 h
        refine sx_aload_n (pc := 40) dX3_partsHold_40 sx_m0 ?_
        refine sv_getO (pc := 41) hG dX3_partsHold_41 f_3_27 lay_16 rfl cr_16_0 ?_
        refine sv_getA (pc := 44) hG dX3_partsHold_44 f_3_45 lay_2 rfl cr_2_16 ?_
        refine sx_iconst (pc := 47) (v := 5) dX3_partsHold_47 (by decide) ?_
        obtain ⟨b6, g7, h⟩ := sx_bnd h
        refine sv_aald (pc := 48) hG dX3_partsHold_48 (by decide) lay_7 (by decide) g7 ?_
        refine sx_iload_n (pc := 49) dX3_partsHold_49 sx_m1 ?_
        refine sx_iload_n (pc := 50) dX3_partsHold_50 sx_m2 ?_
        obtain ⟨n8, g9, h⟩ := sx_bnd h
        obtain ⟨g10, h⟩ := sx_grd h
        obtain ⟨V11, hV11⟩ : ∃ z : sv_V, z = sv_I V2 b6 l1.toNatClampNeg l2 := ⟨_, rfl⟩
        have h := sx_letE hV11 h
        refine sv_iast (pc := 51) hG dX3_partsHold_51 (sv_len_e g9) g10 hV11 ?_
        refine sx_aload_n (pc := 52) dX3_partsHold_52 sx_m0 ?_
        refine sv_getI (pc := 53) hG dX3_partsHold_53 f_3_133 lay_16 rfl ?_
        refine sx_bipush (pc := 56) (v := 32) dX3_partsHold_56 (by decide) ?_
        refine sx_iand (pc := 58) dX3_partsHold_58 ?_
        refine sx_if_ne (pc := 59) (tgt := 87) dX3_partsHold_59 (by decide) (fun c12 => ?_) (fun c12 => ?_)
        · have h := sx_neg c12 h
          obtain ⟨x13, hx13⟩ : ∃ z : Int32, z = l2 + 1 := ⟨_, rfl⟩
          have h := sx_letE hx13 h
          refine sx_iinc (pc := 87) (v := x13) (lo' := [(2, .int x13), (0, .ref 16), (1, .int l1)]) dX3_partsHold_87 sx_m2 (by rw [hx13]; rfl) (by decide) rfl ?_
          refine sx_goto (pc := 90) (tgt := 7) dX3_partsHold_90 (by decide) ?_
          refine sx_wk (sx_s1 sx_m1 (sx_s1 sx_m2 (sx_s1 sx_m0 sx_s0))) ?_
          exact hk7 _ _ _ h
        · have h := sx_pos c12 h
          refine sx_aload_n (pc := 62) dX3_partsHold_62 sx_m0 ?_
          refine sv_getI (pc := 63) hG dX3_partsHold_63 f_3_133 lay_16 rfl ?_
          refine sx_sipush (pc := 66) (v := 256) dX3_partsHold_66 (by decide) ?_
          refine sx_iand (pc := 69) dX3_partsHold_69 ?_
          refine sx_if_eq (pc := 70) (tgt := 81) dX3_partsHold_70 (by decide) (fun c14 => ?_) (fun c14 => ?_)
          · have h := sx_pos c14 h
            refine sx_wk sx_s0 ?_
            exact tB_X3_partsHold_81 hG hP  h
          · have h := sx_neg c14 h
            refine sx_aload_n (pc := 73) dX3_partsHold_73 sx_m0 ?_
            refine sx_iload_n (pc := 74) dX3_partsHold_74 sx_m1 ?_
            obtain ⟨⟨x17, V15⟩, g16, h⟩ := sx_bnd h
            refine sv_cV (pc := 75) (y := qX3_takeProgram) (o := (some (.int x17))) (as := [.int l1]) (V1 := V15) hG dX3_partsHold_75 l_X3_102 y0X3_takeProgram yvX3_takeProgram rfl (Nat.le_of_ble_eq_true rfl) lay_16 kr_3 (by decide) (Nat.le_of_ble_eq_true rfl) rfl rfl rfl (t_X3_takeProgram hG ⟨rfl, rfl⟩ g16) ?_
            refine sx_if_eq (pc := 78) (tgt := 85) dX3_partsHold_78 (by decide) (fun c18 => ?_) (fun c18 => ?_)
            · have h := sx_pos c18 h
              refine sx_iconst (pc := 85) (v := 0) dX3_partsHold_85 (by decide) ?_
              exact sv_zret (pc := 86) dX3_partsHold_86 rfl rfl h hP
            · have h := sx_neg c18 h
              refine sx_wk sx_s0 ?_
              exact tB_X3_partsHold_81 hG hP  h
      · have h := sx_neg c5 h
        refine sx_iconst (pc := 38) (v := 0) dX3_partsHold_38 (by decide) ?_
        exact sv_zret (pc := 39) dX3_partsHold_39 rfl rfl h hP
theorem tL_X3_partsHold_7 {g : sx_G} (hG : sx_Go g) {P : Option Value → sv_V → Prop} {r : Int32} {Vr : sv_V} (hP : P (some (.int r)) Vr) {N : Nat}   : ∀ (n : Nat) (l1 : Int32) (l2 : Int32) (V : sv_V), sx_lp3 (B_X3_partsHold_7 N ) n l1 l2 V = some (r, Vr) → sv_N g qX3_partsHold 3 7 [(0, .ref 16), (1, .int l1), (2, .int l2)] [] V P :=
  sx_lp3_ind (fun k0 ih _ _ V h => tB_X3_partsHold_7 hG hP ih h)
def F_X3_partsHold (N : Nat) (l1 : Int32) (V : sv_V) : Option (Int32 × sv_V) := (F_X3_goTo l1 V).bind (fun V19 => sx_lp3 (B_X3_partsHold_7 N ) N l1 (1 : Int32) V19)
set_option maxRecDepth 20000 in
theorem t_X3_partsHold {g : sx_G} (hG : sx_Go g) {P : Option Value → sv_V → Prop} {r : Int32} {Vr : sv_V} (hP : P (some (.int r)) Vr) {N : Nat} {l1 : Int32} {V : sv_V} (h : F_X3_partsHold N l1 V = some (r, Vr)) : sv_N g qX3_partsHold 3 0 [(0, .ref 16), (1, .int l1)] [] V P := by
  unfold F_X3_partsHold at h
  refine sx_aload_n (pc := 0) dX3_partsHold_0 sx_m0 ?_
  refine sx_iload_n (pc := 1) dX3_partsHold_1 sx_m1 ?_
  obtain ⟨V19, g20, h⟩ := sx_bnd h
  refine sv_cV (pc := 2) (y := qX3_goTo) (o := none) (as := [.int l1]) (V1 := V19) hG dX3_partsHold_2 l_X3_79 y0X3_goTo yvX3_goTo rfl (Nat.le_of_ble_eq_true rfl) lay_16 kr_3 (by decide) (Nat.le_of_ble_eq_true rfl) rfl rfl rfl (t_X3_goTo hG ⟨rfl, rfl⟩ g20) ?_
  refine sx_iconst (pc := 5) (v := 1) dX3_partsHold_5 (by decide) ?_
  refine sx_istore_n (pc := 6) (lo' := [(2, .int (1 : Int32)), (0, .ref 16), (1, .int l1)]) dX3_partsHold_6 (by decide) rfl ?_
  refine sx_wk (sx_s1 sx_m1 (sx_s1 sx_m2 (sx_s1 sx_m0 sx_s0))) ?_
  exact tL_X3_partsHold_7 hG hP  N _ _ _ h
theorem dX3_readPart_0 : decode cX3_readPart 0 = .ok (.aload_n 0, 1) := by decide +kernel
theorem dX3_readPart_1 : decode cX3_readPart 1 = .ok (.iload_n 1, 1) := by decide +kernel
theorem dX3_readPart_2 : decode cX3_readPart 2 = .ok (.invokevirtual 79, 3) := by decide +kernel
theorem dX3_readPart_5 : decode cX3_readPart 5 = .ok (.iconst 0, 1) := by decide +kernel
theorem dX3_readPart_6 : decode cX3_readPart 6 = .ok (.istore_n 3, 1) := by decide +kernel
theorem dX3_readPart_7 : decode cX3_readPart 7 = .ok (.iload_n 3, 1) := by decide +kernel
theorem dX3_readPart_8 : decode cX3_readPart 8 = .ok (.iload_n 2, 1) := by decide +kernel
theorem dX3_readPart_9 : decode cX3_readPart 9 = .ok (.if_icmp .gt 19, 3) := by decide +kernel
theorem dX3_readPart_12 : decode cX3_readPart 12 = .ok (.iload_n 3, 1) := by decide +kernel
theorem dX3_readPart_13 : decode cX3_readPart 13 = .ok (.bipush 8, 2) := by decide +kernel
theorem dX3_readPart_15 : decode cX3_readPart 15 = .ok (.if_icmp .ge 13, 3) := by decide +kernel
theorem dX3_readPart_18 : decode cX3_readPart 18 = .ok (.aload_n 0, 1) := by decide +kernel
theorem dX3_readPart_19 : decode cX3_readPart 19 = .ok (.invokevirtual 127, 3) := by decide +kernel
theorem dX3_readPart_22 : decode cX3_readPart 22 = .ok (.iinc 3 1, 3) := by decide +kernel
theorem dX3_readPart_25 : decode cX3_readPart 25 = .ok (.goto (-18), 3) := by decide +kernel
theorem dX3_readPart_28 : decode cX3_readPart 28 = .ok (.return_, 1) := by decide +kernel
def B_X3_readPart_7 (N : Nat) (k7 : Int32 → Int32 → sv_V → Option sv_V) (l2 : Int32) (l3 : Int32) (V : sv_V) : Option sv_V := if l2 < l3 then (some V) else (if (8 : Int32) ≤ l3 then (some V) else ((F_X3_takePart  V).bind (fun V3 => sx_let (l3 + 1) (fun x5 => k7 l2 x5 V3))))
set_option maxRecDepth 20000 in
theorem tB_X3_readPart_7 {g : sx_G} (hG : sx_Go g) {P : Option Value → sv_V → Prop} {Vr : sv_V} (hP : P none Vr) {N : Nat} {k7 : Int32 → Int32 → sv_V → Option sv_V} (hk7 : ∀ (l2 : Int32) (l3 : Int32) (V : sv_V), k7 l2 l3 V = some Vr → sv_N g qX3_readPart 3 7 [(0, .ref 16), (2, .int l2), (3, .int l3)] [] V P) {l2 : Int32} {l3 : Int32} {V : sv_V} (h : B_X3_readPart_7 N k7 l2 l3 V = some Vr) : sv_N g qX3_readPart 3 7 [(0, .ref 16), (2, .int l2), (3, .int l3)] [] V P := by
  unfold B_X3_readPart_7 at h
  refine sx_iload_n (pc := 7) dX3_readPart_7 sx_m2 ?_
  refine sx_iload_n (pc := 8) dX3_readPart_8 sx_m1 ?_
  refine sx_icmp_gt (pc := 9) (tgt := 28) dX3_readPart_9 (by decide) (fun c1 => ?_) (fun c1 => ?_)
  · have h := sx_pos c1 h
    exact sv_vret (pc := 28) dX3_readPart_28 rfl h hP
  · have h := sx_neg c1 h
    refine sx_iload_n (pc := 12) dX3_readPart_12 sx_m2 ?_
    refine sx_bipush (pc := 13) (v := 8) dX3_readPart_13 (by decide) ?_
    refine sx_icmp_ge (pc := 15) (tgt := 28) dX3_readPart_15 (by decide) (fun c2 => ?_) (fun c2 => ?_)
    · have h := sx_pos c2 h
      exact sv_vret (pc := 28) dX3_readPart_28 rfl h hP
    · have h := sx_neg c2 h
      refine sx_aload_n (pc := 18) dX3_readPart_18 sx_m0 ?_
      obtain ⟨V3, g4, h⟩ := sx_bnd h
      refine sv_cV (pc := 19) (y := qX3_takePart) (o := none) (as := []) (V1 := V3) hG dX3_readPart_19 l_X3_127 y0X3_takePart yvX3_takePart rfl (Nat.le_of_ble_eq_true rfl) lay_16 kr_3 (by decide) (Nat.le_of_ble_eq_true rfl) rfl rfl rfl (t_X3_takePart hG ⟨rfl, rfl⟩ g4) ?_
      obtain ⟨x5, hx5⟩ : ∃ z : Int32, z = l3 + 1 := ⟨_, rfl⟩
      have h := sx_letE hx5 h
      refine sx_iinc (pc := 22) (v := x5) (lo' := [(3, .int x5), (0, .ref 16), (2, .int l2)]) dX3_readPart_22 sx_m2 (by rw [hx5]; rfl) (by decide) rfl ?_
      refine sx_goto (pc := 25) (tgt := 7) dX3_readPart_25 (by decide) ?_
      refine sx_wk (sx_s1 sx_m1 (sx_s1 sx_m2 (sx_s1 sx_m0 sx_s0))) ?_
      exact hk7 _ _ _ h
theorem tL_X3_readPart_7 {g : sx_G} (hG : sx_Go g) {P : Option Value → sv_V → Prop} {Vr : sv_V} (hP : P none Vr) {N : Nat}   : ∀ (n : Nat) (l2 : Int32) (l3 : Int32) (V : sv_V), sx_lp3 (B_X3_readPart_7 N ) n l2 l3 V = some Vr → sv_N g qX3_readPart 3 7 [(0, .ref 16), (2, .int l2), (3, .int l3)] [] V P :=
  sx_lp3_ind (fun k0 ih _ _ V h => tB_X3_readPart_7 hG hP ih h)
def F_X3_readPart (N : Nat) (l1 : Int32) (l2 : Int32) (V : sv_V) : Option sv_V := (F_X3_goTo l1 V).bind (fun V6 => sx_lp3 (B_X3_readPart_7 N ) N l2 (0 : Int32) V6)
set_option maxRecDepth 20000 in
theorem t_X3_readPart {g : sx_G} (hG : sx_Go g) {P : Option Value → sv_V → Prop} {Vr : sv_V} (hP : P none Vr) {N : Nat} {l1 : Int32} {l2 : Int32} {V : sv_V} (h : F_X3_readPart N l1 l2 V = some Vr) : sv_N g qX3_readPart 3 0 [(0, .ref 16), (1, .int l1), (2, .int l2)] [] V P := by
  unfold F_X3_readPart at h
  refine sx_aload_n (pc := 0) dX3_readPart_0 sx_m0 ?_
  refine sx_iload_n (pc := 1) dX3_readPart_1 sx_m1 ?_
  obtain ⟨V6, g7, h⟩ := sx_bnd h
  refine sv_cV (pc := 2) (y := qX3_goTo) (o := none) (as := [.int l1]) (V1 := V6) hG dX3_readPart_2 l_X3_79 y0X3_goTo yvX3_goTo rfl (Nat.le_of_ble_eq_true rfl) lay_16 kr_3 (by decide) (Nat.le_of_ble_eq_true rfl) rfl rfl rfl (t_X3_goTo hG ⟨rfl, rfl⟩ g7) ?_
  refine sx_iconst (pc := 5) (v := 0) dX3_readPart_5 (by decide) ?_
  refine sx_istore_n (pc := 6) (lo' := [(3, .int (0 : Int32)), (0, .ref 16), (1, .int l1), (2, .int l2)]) dX3_readPart_6 (by decide) rfl ?_
  refine sx_wk (sx_s1 sx_m1 (sx_s1 sx_m3 (sx_s1 sx_m0 sx_s0))) ?_
  exact tL_X3_readPart_7 hG hP  N _ _ _ h
theorem dX3_deepestPart_0 : decode cX3_deepestPart 0 = .ok (.iconst 0, 1) := by decide +kernel
theorem dX3_deepestPart_1 : decode cX3_deepestPart 1 = .ok (.istore_n 2, 1) := by decide +kernel
theorem dX3_deepestPart_2 : decode cX3_deepestPart 2 = .ok (.aload_n 0, 1) := by decide +kernel
theorem dX3_deepestPart_3 : decode cX3_deepestPart 3 = .ok (.iload_n 1, 1) := by decide +kernel
theorem dX3_deepestPart_4 : decode cX3_deepestPart 4 = .ok (.invokevirtual 79, 3) := by decide +kernel
theorem dX3_deepestPart_7 : decode cX3_deepestPart 7 = .ok (.iconst 0, 1) := by decide +kernel
theorem dX3_deepestPart_8 : decode cX3_deepestPart 8 = .ok (.istore_n 3, 1) := by decide +kernel
theorem dX3_deepestPart_9 : decode cX3_deepestPart 9 = .ok (.iload_n 3, 1) := by decide +kernel
theorem dX3_deepestPart_10 : decode cX3_deepestPart 10 = .ok (.aload_n 0, 1) := by decide +kernel
theorem dX3_deepestPart_11 : decode cX3_deepestPart 11 = .ok (.getfield 27, 3) := by decide +kernel
theorem dX3_deepestPart_14 : decode cX3_deepestPart 14 = .ok (.getfield 45, 3) := by decide +kernel
theorem dX3_deepestPart_17 : decode cX3_deepestPart 17 = .ok (.iconst 5, 1) := by decide +kernel
theorem dX3_deepestPart_18 : decode cX3_deepestPart 18 = .ok (.aaload, 1) := by decide +kernel
theorem dX3_deepestPart_19 : decode cX3_deepestPart 19 = .ok (.iload_n 1, 1) := by decide +kernel
theorem dX3_deepestPart_20 : decode cX3_deepestPart 20 = .ok (.iaload, 1) := by decide +kernel
theorem dX3_deepestPart_21 : decode cX3_deepestPart 21 = .ok (.if_icmp .ge 41, 3) := by decide +kernel
theorem dX3_deepestPart_24 : decode cX3_deepestPart 24 = .ok (.aload_n 0, 1) := by decide +kernel
theorem dX3_deepestPart_25 : decode cX3_deepestPart 25 = .ok (.invokevirtual 127, 3) := by decide +kernel
theorem dX3_deepestPart_28 : decode cX3_deepestPart 28 = .ok (.iload_n 2, 1) := by decide +kernel
theorem dX3_deepestPart_29 : decode cX3_deepestPart 29 = .ok (.aload_n 0, 1) := by decide +kernel
theorem dX3_deepestPart_30 : decode cX3_deepestPart 30 = .ok (.getfield 130, 3) := by decide +kernel
theorem dX3_deepestPart_33 : decode cX3_deepestPart 33 = .ok (.sipush 200, 3) := by decide +kernel
theorem dX3_deepestPart_36 : decode cX3_deepestPart 36 = .ok (.if_icmp .ge 15, 3) := by decide +kernel
theorem dX3_deepestPart_39 : decode cX3_deepestPart 39 = .ok (.aload_n 0, 1) := by decide +kernel
theorem dX3_deepestPart_40 : decode cX3_deepestPart 40 = .ok (.getfield 24, 3) := by decide +kernel
theorem dX3_deepestPart_43 : decode cX3_deepestPart 43 = .ok (.aload_n 0, 1) := by decide +kernel
theorem dX3_deepestPart_44 : decode cX3_deepestPart 44 = .ok (.getfield 130, 3) := by decide +kernel
theorem dX3_deepestPart_47 : decode cX3_deepestPart 47 = .ok (.iaload, 1) := by decide +kernel
theorem dX3_deepestPart_48 : decode cX3_deepestPart 48 = .ok (.goto 4, 3) := by decide +kernel
theorem dX3_deepestPart_51 : decode cX3_deepestPart 51 = .ok (.iconst 0, 1) := by decide +kernel
theorem dX3_deepestPart_52 : decode cX3_deepestPart 52 = .ok (.invokestatic 96, 3) := by decide +kernel
theorem dX3_deepestPart_55 : decode cX3_deepestPart 55 = .ok (.istore_n 2, 1) := by decide +kernel
theorem dX3_deepestPart_56 : decode cX3_deepestPart 56 = .ok (.iinc 3 1, 3) := by decide +kernel
theorem dX3_deepestPart_59 : decode cX3_deepestPart 59 = .ok (.goto (-50), 3) := by decide +kernel
theorem dX3_deepestPart_62 : decode cX3_deepestPart 62 = .ok (.iload_n 2, 1) := by decide +kernel
theorem dX3_deepestPart_63 : decode cX3_deepestPart 63 = .ok (.ireturn, 1) := by decide +kernel
def B_X3_deepestPart_52 (N : Nat) (k9 : Int32 → Int32 → Int32 → sv_V → Option (Int32 × sv_V)) (l1 : Int32) (l3 : Int32) (s0 : Int32) (s1 : Int32) (V : sv_V) : Option (Int32 × sv_V) := (F_J9_max_7cf53 s0 s1 V).bind (fun (x3, V1) => sx_let (l3 + 1) (fun x4 => k9 l1 x3 x4 V1))
set_option maxRecDepth 20000 in
theorem tB_X3_deepestPart_52 {g : sx_G} (hG : sx_Go g) {P : Option Value → sv_V → Prop} {r : Int32} {Vr : sv_V} (hP : P (some (.int r)) Vr) {N : Nat} {k9 : Int32 → Int32 → Int32 → sv_V → Option (Int32 × sv_V)} (hk9 : ∀ (l1 : Int32) (l2 : Int32) (l3 : Int32) (V : sv_V), k9 l1 l2 l3 V = some (r, Vr) → sv_N g qX3_deepestPart 3 9 [(0, .ref 16), (1, .int l1), (2, .int l2), (3, .int l3)] [] V P) {l1 : Int32} {l3 : Int32} {s0 : Int32} {s1 : Int32} {V : sv_V} (h : B_X3_deepestPart_52 N k9 l1 l3 s0 s1 V = some (r, Vr)) : sv_N g qX3_deepestPart 3 52 [(0, .ref 16), (1, .int l1), (3, .int l3)] [.int s1, .int s0] V P := by
  unfold B_X3_deepestPart_52 at h
  obtain ⟨⟨x3, V1⟩, g2, h⟩ := sx_bnd h
  refine sv_cS (pc := 52) (y := qJ9_max_7cf53) (o := (some (.int x3))) (as := [.int s0, .int s1]) (V1 := V1) dX3_deepestPart_52 l_X3_96 y0J9_max_7cf53 ysJ9_max_7cf53 rfl (Nat.le_of_ble_eq_true rfl) (by decide) (Nat.le_of_ble_eq_true rfl) rfl rfl rfl (t_J9_max_7cf53 hG ⟨rfl, rfl⟩ g2) ?_
  refine sx_istore_n (pc := 55) (lo' := [(2, .int x3), (0, .ref 16), (1, .int l1), (3, .int l3)]) dX3_deepestPart_55 (by decide) rfl ?_
  obtain ⟨x4, hx4⟩ : ∃ z : Int32, z = l3 + 1 := ⟨_, rfl⟩
  have h := sx_letE hx4 h
  refine sx_iinc (pc := 56) (v := x4) (lo' := [(3, .int x4), (2, .int x3), (0, .ref 16), (1, .int l1)]) dX3_deepestPart_56 sx_m3 (by rw [hx4]; rfl) (by decide) rfl ?_
  refine sx_goto (pc := 59) (tgt := 9) dX3_deepestPart_59 (by decide) ?_
  refine sx_wk (sx_s1 sx_m2 (sx_s1 sx_m3 (sx_s1 sx_m1 (sx_s1 sx_m0 sx_s0)))) ?_
  exact hk9 _ _ _ _ h
def B_X3_deepestPart_9 (N : Nat) (k9 : Int32 → Int32 → Int32 → sv_V → Option (Int32 × sv_V)) (l1 : Int32) (l2 : Int32) (l3 : Int32) (V : sv_V) : Option (Int32 × sv_V) := (cr 7 (5 : Int32).toNatClampNeg).bind (fun b5 => (sv_len 0 b5).bind (fun n7 => if sx_in l1 n7 = true then if (V.1 b5 l1.toNatClampNeg) ≤ l3 then (some (l2, V)) else ((F_X3_takePart  V).bind (fun V11 => if (200 : Int32) ≤ (V11.1 16 8) then (B_X3_deepestPart_52 N k9 l1 l3 l2 (0 : Int32) V11) else (if sx_in (V11.1 16 8) 200 = true then B_X3_deepestPart_52 N k9 l1 l3 l2 (V11.1 28 (V11.1 16 8).toNatClampNeg) V11 else none))) else none))
set_option maxRecDepth 20000 in
theorem tB_X3_deepestPart_9 {g : sx_G} (hG : sx_Go g) {P : Option Value → sv_V → Prop} {r : Int32} {Vr : sv_V} (hP : P (some (.int r)) Vr) {N : Nat} {k9 : Int32 → Int32 → Int32 → sv_V → Option (Int32 × sv_V)} (hk9 : ∀ (l1 : Int32) (l2 : Int32) (l3 : Int32) (V : sv_V), k9 l1 l2 l3 V = some (r, Vr) → sv_N g qX3_deepestPart 3 9 [(0, .ref 16), (1, .int l1), (2, .int l2), (3, .int l3)] [] V P) {l1 : Int32} {l2 : Int32} {l3 : Int32} {V : sv_V} (h : B_X3_deepestPart_9 N k9 l1 l2 l3 V = some (r, Vr)) : sv_N g qX3_deepestPart 3 9 [(0, .ref 16), (1, .int l1), (2, .int l2), (3, .int l3)] [] V P := by
  unfold B_X3_deepestPart_9 at h
  refine sx_iload_n (pc := 9) dX3_deepestPart_9 sx_m3 ?_
  refine sx_aload_n (pc := 10) dX3_deepestPart_10 sx_m0 ?_
  refine sv_getO (pc := 11) hG dX3_deepestPart_11 f_3_27 lay_16 rfl cr_16_0 ?_
  refine sv_getA (pc := 14) hG dX3_deepestPart_14 f_3_45 lay_2 rfl cr_2_16 ?_
  refine sx_iconst (pc := 17) (v := 5) dX3_deepestPart_17 (by decide) ?_
  obtain ⟨b5, g6, h⟩ := sx_bnd h
  refine sv_aald (pc := 18) hG dX3_deepestPart_18 (by decide) lay_7 (by decide) g6 ?_
  refine sx_iload_n (pc := 19) dX3_deepestPart_19 sx_m1 ?_
  obtain ⟨n7, g8, h⟩ := sx_bnd h
  obtain ⟨g9, h⟩ := sx_grd h
  refine sv_iald (pc := 20) hG dX3_deepestPart_20 (sv_len_e g8) g9 ?_
  refine sx_icmp_ge (pc := 21) (tgt := 62) dX3_deepestPart_21 (by decide) (fun c10 => ?_) (fun c10 => ?_)
  · have h := sx_pos c10 h
    refine sx_iload_n (pc := 62) dX3_deepestPart_62 sx_m2 ?_
    exact sv_iret (pc := 63) dX3_deepestPart_63 rfl h hP
  · have h := sx_neg c10 h
    refine sx_aload_n (pc := 24) dX3_deepestPart_24 sx_m0 ?_
    obtain ⟨V11, g12, h⟩ := sx_bnd h
    refine sv_cV (pc := 25) (y := qX3_takePart) (o := none) (as := []) (V1 := V11) hG dX3_deepestPart_25 l_X3_127 y0X3_takePart yvX3_takePart rfl (Nat.le_of_ble_eq_true rfl) lay_16 kr_3 (by decide) (Nat.le_of_ble_eq_true rfl) rfl rfl rfl (t_X3_takePart hG ⟨rfl, rfl⟩ g12) ?_
    refine sx_iload_n (pc := 28) dX3_deepestPart_28 sx_m2 ?_
    refine sx_aload_n (pc := 29) dX3_deepestPart_29 sx_m0 ?_
    refine sv_getI (pc := 30) hG dX3_deepestPart_30 f_3_130 lay_16 rfl ?_
    refine sx_sipush (pc := 33) (v := 200) dX3_deepestPart_33 (by decide) ?_
    refine sx_icmp_ge (pc := 36) (tgt := 51) dX3_deepestPart_36 (by decide) (fun c13 => ?_) (fun c13 => ?_)
    · have h := sx_pos c13 h
      refine sx_iconst (pc := 51) (v := 0) dX3_deepestPart_51 (by decide) ?_
      refine sx_wk (sx_s1 sx_m0 (sx_s1 sx_m1 (sx_s1 sx_m3 sx_s0))) ?_
      exact tB_X3_deepestPart_52 hG hP hk9 h
    · have h := sx_neg c13 h
      refine sx_aload_n (pc := 39) dX3_deepestPart_39 sx_m0 ?_
      refine sv_getA (pc := 40) hG dX3_deepestPart_40 f_3_24 lay_16 rfl cr_16_3 ?_
      refine sx_aload_n (pc := 43) dX3_deepestPart_43 sx_m0 ?_
      refine sv_getI (pc := 44) hG dX3_deepestPart_44 f_3_130 lay_16 rfl ?_
      obtain ⟨g14, h⟩ := sx_grd h
      refine sv_iald (pc := 47) hG dX3_deepestPart_47 lay_28 g14 ?_
      refine sx_goto (pc := 48) (tgt := 52) dX3_deepestPart_48 (by decide) ?_
      refine sx_wk (sx_s1 sx_m0 (sx_s1 sx_m1 (sx_s1 sx_m3 sx_s0))) ?_
      exact tB_X3_deepestPart_52 hG hP hk9 h
theorem tL_X3_deepestPart_9 {g : sx_G} (hG : sx_Go g) {P : Option Value → sv_V → Prop} {r : Int32} {Vr : sv_V} (hP : P (some (.int r)) Vr) {N : Nat}   : ∀ (n : Nat) (l1 : Int32) (l2 : Int32) (l3 : Int32) (V : sv_V), sx_lp4 (B_X3_deepestPart_9 N ) n l1 l2 l3 V = some (r, Vr) → sv_N g qX3_deepestPart 3 9 [(0, .ref 16), (1, .int l1), (2, .int l2), (3, .int l3)] [] V P :=
  sx_lp4_ind (fun k0 ih _ _ _ V h => tB_X3_deepestPart_9 hG hP ih h)
def F_X3_deepestPart (N : Nat) (l1 : Int32) (V : sv_V) : Option (Int32 × sv_V) := (F_X3_goTo l1 V).bind (fun V15 => sx_lp4 (B_X3_deepestPart_9 N ) N l1 (0 : Int32) (0 : Int32) V15)
set_option maxRecDepth 20000 in
theorem t_X3_deepestPart {g : sx_G} (hG : sx_Go g) {P : Option Value → sv_V → Prop} {r : Int32} {Vr : sv_V} (hP : P (some (.int r)) Vr) {N : Nat} {l1 : Int32} {V : sv_V} (h : F_X3_deepestPart N l1 V = some (r, Vr)) : sv_N g qX3_deepestPart 3 0 [(0, .ref 16), (1, .int l1)] [] V P := by
  unfold F_X3_deepestPart at h
  refine sx_iconst (pc := 0) (v := 0) dX3_deepestPart_0 (by decide) ?_
  refine sx_istore_n (pc := 1) (lo' := [(2, .int (0 : Int32)), (0, .ref 16), (1, .int l1)]) dX3_deepestPart_1 (by decide) rfl ?_
  refine sx_aload_n (pc := 2) dX3_deepestPart_2 sx_m1 ?_
  refine sx_iload_n (pc := 3) dX3_deepestPart_3 sx_m2 ?_
  obtain ⟨V15, g16, h⟩ := sx_bnd h
  refine sv_cV (pc := 4) (y := qX3_goTo) (o := none) (as := [.int l1]) (V1 := V15) hG dX3_deepestPart_4 l_X3_79 y0X3_goTo yvX3_goTo rfl (Nat.le_of_ble_eq_true rfl) lay_16 kr_3 (by decide) (Nat.le_of_ble_eq_true rfl) rfl rfl rfl (t_X3_goTo hG ⟨rfl, rfl⟩ g16) ?_
  refine sx_iconst (pc := 7) (v := 0) dX3_deepestPart_7 (by decide) ?_
  refine sx_istore_n (pc := 8) (lo' := [(3, .int (0 : Int32)), (2, .int (0 : Int32)), (0, .ref 16), (1, .int l1)]) dX3_deepestPart_8 (by decide) rfl ?_
  refine sx_wk (sx_s1 sx_m2 (sx_s1 sx_m3 (sx_s1 sx_m1 (sx_s1 sx_m0 sx_s0)))) ?_
  exact tL_X3_deepestPart_9 hG hP  N _ _ _ _ h
theorem dX4_shareBytes_0 : decode cX4_shareBytes 0 = .ok (.aload_n 0, 1) := by decide +kernel
theorem dX4_shareBytes_1 : decode cX4_shareBytes 1 = .ok (.iload_n 1, 1) := by decide +kernel
theorem dX4_shareBytes_2 : decode cX4_shareBytes 2 = .ok (.iconst 2, 1) := by decide +kernel
theorem dX4_shareBytes_3 : decode cX4_shareBytes 3 = .ok (.invokevirtual 83, 3) := by decide +kernel
theorem dX4_shareBytes_6 : decode cX4_shareBytes 6 = .ok (.aload_n 0, 1) := by decide +kernel
theorem dX4_shareBytes_7 : decode cX4_shareBytes 7 = .ok (.iload_n 2, 1) := by decide +kernel
theorem dX4_shareBytes_8 : decode cX4_shareBytes 8 = .ok (.iconst 2, 1) := by decide +kernel
theorem dX4_shareBytes_9 : decode cX4_shareBytes 9 = .ok (.invokevirtual 83, 3) := by decide +kernel
theorem dX4_shareBytes_12 : decode cX4_shareBytes 12 = .ok (.invokestatic 93, 3) := by decide +kernel
theorem dX4_shareBytes_15 : decode cX4_shareBytes 15 = .ok (.lstore_n 3, 1) := by decide +kernel
theorem dX4_shareBytes_16 : decode cX4_shareBytes 16 = .ok (.aload_n 0, 1) := by decide +kernel
theorem dX4_shareBytes_17 : decode cX4_shareBytes 17 = .ok (.iload_n 1, 1) := by decide +kernel
theorem dX4_shareBytes_18 : decode cX4_shareBytes 18 = .ok (.iconst 2, 1) := by decide +kernel
theorem dX4_shareBytes_19 : decode cX4_shareBytes 19 = .ok (.invokevirtual 83, 3) := by decide +kernel
theorem dX4_shareBytes_22 : decode cX4_shareBytes 22 = .ok (.aload_n 0, 1) := by decide +kernel
theorem dX4_shareBytes_23 : decode cX4_shareBytes 23 = .ok (.iload_n 1, 1) := by decide +kernel
theorem dX4_shareBytes_24 : decode cX4_shareBytes 24 = .ok (.iconst 3, 1) := by decide +kernel
theorem dX4_shareBytes_25 : decode cX4_shareBytes 25 = .ok (.invokevirtual 83, 3) := by decide +kernel
theorem dX4_shareBytes_28 : decode cX4_shareBytes 28 = .ok (.ladd, 1) := by decide +kernel
theorem dX4_shareBytes_29 : decode cX4_shareBytes 29 = .ok (.aload_n 0, 1) := by decide +kernel
theorem dX4_shareBytes_30 : decode cX4_shareBytes 30 = .ok (.iload_n 2, 1) := by decide +kernel
theorem dX4_shareBytes_31 : decode cX4_shareBytes 31 = .ok (.iconst 2, 1) := by decide +kernel
theorem dX4_shareBytes_32 : decode cX4_shareBytes 32 = .ok (.invokevirtual 83, 3) := by decide +kernel
theorem dX4_shareBytes_35 : decode cX4_shareBytes 35 = .ok (.aload_n 0, 1) := by decide +kernel
theorem dX4_shareBytes_36 : decode cX4_shareBytes 36 = .ok (.iload_n 2, 1) := by decide +kernel
theorem dX4_shareBytes_37 : decode cX4_shareBytes 37 = .ok (.iconst 3, 1) := by decide +kernel
theorem dX4_shareBytes_38 : decode cX4_shareBytes 38 = .ok (.invokevirtual 83, 3) := by decide +kernel
theorem dX4_shareBytes_41 : decode cX4_shareBytes 41 = .ok (.ladd, 1) := by decide +kernel
theorem dX4_shareBytes_42 : decode cX4_shareBytes 42 = .ok (.invokestatic 99, 3) := by decide +kernel
theorem dX4_shareBytes_45 : decode cX4_shareBytes 45 = .ok (.lstore 5, 2) := by decide +kernel
theorem dX4_shareBytes_47 : decode cX4_shareBytes 47 = .ok (.lload_n 3, 1) := by decide +kernel
theorem dX4_shareBytes_48 : decode cX4_shareBytes 48 = .ok (.lload 5, 2) := by decide +kernel
theorem dX4_shareBytes_50 : decode cX4_shareBytes 50 = .ok (.lcmp, 1) := by decide +kernel
theorem dX4_shareBytes_51 : decode cX4_shareBytes 51 = .ok (.ifCond .ge 7, 3) := by decide +kernel
theorem dX4_shareBytes_54 : decode cX4_shareBytes 54 = .ok (.iconst 1, 1) := by decide +kernel
theorem dX4_shareBytes_55 : decode cX4_shareBytes 55 = .ok (.goto 4, 3) := by decide +kernel
theorem dX4_shareBytes_58 : decode cX4_shareBytes 58 = .ok (.iconst 0, 1) := by decide +kernel
theorem dX4_shareBytes_59 : decode cX4_shareBytes 59 = .ok (.ireturn, 1) := by decide +kernel
def F_X4_shareBytes (l1 : Int32) (l2 : Int32) (V : sv_V) : Option (Int32 × sv_V) := (F_X4_entry l1 (2 : Int32) V).bind (fun (x3, V1) => (F_X4_entry l2 (2 : Int32) V1).bind (fun (x6, V4) => (F_J9_max_f86c9 x3 x6 V4).bind (fun (x9, V7) => (F_X4_entry l1 (2 : Int32) V7).bind (fun (x12, V10) => (F_X4_entry l1 (3 : Int32) V10).bind (fun (x15, V13) => (F_X4_entry l2 (2 : Int32) V13).bind (fun (x18, V16) => (F_X4_entry l2 (3 : Int32) V16).bind (fun (x21, V19) => (F_J9_min_f86c9 (x12 + x15) (x18 + x21) V19).bind (fun (x24, V22) => if 0 ≤ (lg_cmp x9 x24) then (some ((0 : Int32), V22)) else (some ((1 : Int32), V22))))))))))
set_option maxRecDepth 20000 in
theorem t_X4_shareBytes {g : sx_G} (hG : sx_Go g) {P : Option Value → sv_V → Prop} {r : Int32} {Vr : sv_V} (hP : P (some (.int r)) Vr) {l1 : Int32} {l2 : Int32} {V : sv_V} (h : F_X4_shareBytes l1 l2 V = some (r, Vr)) : sv_N g qX4_shareBytes 3 0 [(0, .ref 29), (1, .int l1), (2, .int l2)] [] V P := by
  unfold F_X4_shareBytes at h
  refine sx_aload_n (pc := 0) dX4_shareBytes_0 sx_m0 ?_
  refine sx_iload_n (pc := 1) dX4_shareBytes_1 sx_m1 ?_
  refine sx_iconst (pc := 2) (v := 2) dX4_shareBytes_2 (by decide) ?_
  obtain ⟨⟨x3, V1⟩, g2, h⟩ := sx_bnd h
  refine sv_cV (pc := 3) (y := qX4_entry) (o := (some (.long x3))) (as := [.int l1, .int (2 : Int32)]) (V1 := V1) hG dX4_shareBytes_3 l_X4_83 y0X4_entry yvX4_entry rfl (Nat.le_of_ble_eq_true rfl) lay_29 kr_4 (by decide) (Nat.le_of_ble_eq_true rfl) rfl rfl rfl (t_X4_entry hG ⟨rfl, rfl⟩ g2) ?_
  refine sx_aload_n (pc := 6) dX4_shareBytes_6 sx_m0 ?_
  refine sx_iload_n (pc := 7) dX4_shareBytes_7 sx_m2 ?_
  refine sx_iconst (pc := 8) (v := 2) dX4_shareBytes_8 (by decide) ?_
  obtain ⟨⟨x6, V4⟩, g5, h⟩ := sx_bnd h
  refine sv_cV (pc := 9) (y := qX4_entry) (o := (some (.long x6))) (as := [.int l2, .int (2 : Int32)]) (V1 := V4) hG dX4_shareBytes_9 l_X4_83 y0X4_entry yvX4_entry rfl (Nat.le_of_ble_eq_true rfl) lay_29 kr_4 (by decide) (Nat.le_of_ble_eq_true rfl) rfl rfl rfl (t_X4_entry hG ⟨rfl, rfl⟩ g5) ?_
  obtain ⟨⟨x9, V7⟩, g8, h⟩ := sx_bnd h
  refine sv_cS (pc := 12) (y := qJ9_max_f86c9) (o := (some (.long x9))) (as := [.long x3, .long x6]) (V1 := V7) dX4_shareBytes_12 l_X4_93 y0J9_max_f86c9 ysJ9_max_f86c9 rfl (Nat.le_of_ble_eq_true rfl) (by decide) (Nat.le_of_ble_eq_true rfl) rfl rfl rfl (t_J9_max_f86c9 hG ⟨rfl, rfl⟩ g8) ?_
  refine sx_lstore_n (pc := 15) (lo' := [(3, .long x9), (0, .ref 29), (1, .int l1), (2, .int l2)]) dX4_shareBytes_15 (by decide) rfl ?_
  refine sx_aload_n (pc := 16) dX4_shareBytes_16 sx_m1 ?_
  refine sx_iload_n (pc := 17) dX4_shareBytes_17 sx_m2 ?_
  refine sx_iconst (pc := 18) (v := 2) dX4_shareBytes_18 (by decide) ?_
  obtain ⟨⟨x12, V10⟩, g11, h⟩ := sx_bnd h
  refine sv_cV (pc := 19) (y := qX4_entry) (o := (some (.long x12))) (as := [.int l1, .int (2 : Int32)]) (V1 := V10) hG dX4_shareBytes_19 l_X4_83 y0X4_entry yvX4_entry rfl (Nat.le_of_ble_eq_true rfl) lay_29 kr_4 (by decide) (Nat.le_of_ble_eq_true rfl) rfl rfl rfl (t_X4_entry hG ⟨rfl, rfl⟩ g11) ?_
  refine sx_aload_n (pc := 22) dX4_shareBytes_22 sx_m1 ?_
  refine sx_iload_n (pc := 23) dX4_shareBytes_23 sx_m2 ?_
  refine sx_iconst (pc := 24) (v := 3) dX4_shareBytes_24 (by decide) ?_
  obtain ⟨⟨x15, V13⟩, g14, h⟩ := sx_bnd h
  refine sv_cV (pc := 25) (y := qX4_entry) (o := (some (.long x15))) (as := [.int l1, .int (3 : Int32)]) (V1 := V13) hG dX4_shareBytes_25 l_X4_83 y0X4_entry yvX4_entry rfl (Nat.le_of_ble_eq_true rfl) lay_29 kr_4 (by decide) (Nat.le_of_ble_eq_true rfl) rfl rfl rfl (t_X4_entry hG ⟨rfl, rfl⟩ g14) ?_
  refine sx_ladd (pc := 28) dX4_shareBytes_28 ?_
  refine sx_aload_n (pc := 29) dX4_shareBytes_29 sx_m1 ?_
  refine sx_iload_n (pc := 30) dX4_shareBytes_30 sx_m3 ?_
  refine sx_iconst (pc := 31) (v := 2) dX4_shareBytes_31 (by decide) ?_
  obtain ⟨⟨x18, V16⟩, g17, h⟩ := sx_bnd h
  refine sv_cV (pc := 32) (y := qX4_entry) (o := (some (.long x18))) (as := [.int l2, .int (2 : Int32)]) (V1 := V16) hG dX4_shareBytes_32 l_X4_83 y0X4_entry yvX4_entry rfl (Nat.le_of_ble_eq_true rfl) lay_29 kr_4 (by decide) (Nat.le_of_ble_eq_true rfl) rfl rfl rfl (t_X4_entry hG ⟨rfl, rfl⟩ g17) ?_
  refine sx_aload_n (pc := 35) dX4_shareBytes_35 sx_m1 ?_
  refine sx_iload_n (pc := 36) dX4_shareBytes_36 sx_m3 ?_
  refine sx_iconst (pc := 37) (v := 3) dX4_shareBytes_37 (by decide) ?_
  obtain ⟨⟨x21, V19⟩, g20, h⟩ := sx_bnd h
  refine sv_cV (pc := 38) (y := qX4_entry) (o := (some (.long x21))) (as := [.int l2, .int (3 : Int32)]) (V1 := V19) hG dX4_shareBytes_38 l_X4_83 y0X4_entry yvX4_entry rfl (Nat.le_of_ble_eq_true rfl) lay_29 kr_4 (by decide) (Nat.le_of_ble_eq_true rfl) rfl rfl rfl (t_X4_entry hG ⟨rfl, rfl⟩ g20) ?_
  refine sx_ladd (pc := 41) dX4_shareBytes_41 ?_
  obtain ⟨⟨x24, V22⟩, g23, h⟩ := sx_bnd h
  refine sv_cS (pc := 42) (y := qJ9_min_f86c9) (o := (some (.long x24))) (as := [.long (x12 + x15), .long (x18 + x21)]) (V1 := V22) dX4_shareBytes_42 l_X4_99 y0J9_min_f86c9 ysJ9_min_f86c9 rfl (Nat.le_of_ble_eq_true rfl) (by decide) (Nat.le_of_ble_eq_true rfl) rfl rfl rfl (t_J9_min_f86c9 hG ⟨rfl, rfl⟩ g23) ?_
  refine sx_lstore (pc := 45) (lo' := [(5, .long x24), (3, .long x9), (0, .ref 29), (1, .int l1), (2, .int l2)]) dX4_shareBytes_45 (by decide) rfl ?_
  refine sx_lload_n (pc := 47) dX4_shareBytes_47 sx_m1 ?_
  refine sx_lload (pc := 48) dX4_shareBytes_48 sx_m0 ?_
  refine sx_lcmp (pc := 50) dX4_shareBytes_50 ?_
  refine sx_if_ge (pc := 51) (tgt := 58) dX4_shareBytes_51 (by decide) (fun c25 => ?_) (fun c25 => ?_)
  · have h := sx_pos c25 h
    refine sx_iconst (pc := 58) (v := 0) dX4_shareBytes_58 (by decide) ?_
    exact sv_zret (pc := 59) dX4_shareBytes_59 rfl rfl h hP
  · have h := sx_neg c25 h
    refine sx_iconst (pc := 54) (v := 1) dX4_shareBytes_54 (by decide) ?_
    refine sx_goto (pc := 55) (tgt := 59) dX4_shareBytes_55 (by decide) ?_
    exact sv_zret (pc := 59) dX4_shareBytes_59 rfl rfl h hP
theorem dX4_sumsHold_0 : decode cX4_sumsHold 0 = .ok (.iconst 0, 1) := by decide +kernel
theorem dX4_sumsHold_1 : decode cX4_sumsHold 1 = .ok (.istore_n 1, 1) := by decide +kernel
theorem dX4_sumsHold_2 : decode cX4_sumsHold 2 = .ok (.iload_n 1, 1) := by decide +kernel
theorem dX4_sumsHold_3 : decode cX4_sumsHold 3 = .ok (.aload_n 0, 1) := by decide +kernel
theorem dX4_sumsHold_4 : decode cX4_sumsHold 4 = .ok (.getfield 9, 3) := by decide +kernel
theorem dX4_sumsHold_7 : decode cX4_sumsHold 7 = .ok (.getfield 80, 3) := by decide +kernel
theorem dX4_sumsHold_10 : decode cX4_sumsHold 10 = .ok (.if_icmp .ge 61, 3) := by decide +kernel
theorem dX4_sumsHold_13 : decode cX4_sumsHold 13 = .ok (.aload_n 0, 1) := by decide +kernel
theorem dX4_sumsHold_14 : decode cX4_sumsHold 14 = .ok (.iload_n 1, 1) := by decide +kernel
theorem dX4_sumsHold_15 : decode cX4_sumsHold 15 = .ok (.iconst 0, 1) := by decide +kernel
theorem dX4_sumsHold_16 : decode cX4_sumsHold 16 = .ok (.invokevirtual 83, 3) := by decide +kernel
theorem dX4_sumsHold_19 : decode cX4_sumsHold 19 = .ok (.l2i, 1) := by decide +kernel
theorem dX4_sumsHold_20 : decode cX4_sumsHold 20 = .ok (.getstatic 102, 3) := by decide +kernel
theorem dX4_sumsHold_23 : decode cX4_sumsHold 23 = .ok (.iconst 2, 1) := by decide +kernel
theorem dX4_sumsHold_24 : decode cX4_sumsHold 24 = .ok (.iaload, 1) := by decide +kernel
theorem dX4_sumsHold_25 : decode cX4_sumsHold 25 = .ok (.if_icmp .ne 7, 3) := by decide +kernel
theorem dX4_sumsHold_28 : decode cX4_sumsHold 28 = .ok (.iconst 1, 1) := by decide +kernel
theorem dX4_sumsHold_29 : decode cX4_sumsHold 29 = .ok (.goto 4, 3) := by decide +kernel
theorem dX4_sumsHold_32 : decode cX4_sumsHold 32 = .ok (.iconst 0, 1) := by decide +kernel
theorem dX4_sumsHold_33 : decode cX4_sumsHold 33 = .ok (.istore_n 2, 1) := by decide +kernel
theorem dX4_sumsHold_34 : decode cX4_sumsHold 34 = .ok (.aload_n 0, 1) := by decide +kernel
theorem dX4_sumsHold_35 : decode cX4_sumsHold 35 = .ok (.aload_n 0, 1) := by decide +kernel
theorem dX4_sumsHold_36 : decode cX4_sumsHold 36 = .ok (.iload_n 1, 1) := by decide +kernel
theorem dX4_sumsHold_37 : decode cX4_sumsHold 37 = .ok (.iconst 2, 1) := by decide +kernel
theorem dX4_sumsHold_38 : decode cX4_sumsHold 38 = .ok (.invokevirtual 83, 3) := by decide +kernel
theorem dX4_sumsHold_41 : decode cX4_sumsHold 41 = .ok (.l2i, 1) := by decide +kernel
theorem dX4_sumsHold_42 : decode cX4_sumsHold 42 = .ok (.aload_n 0, 1) := by decide +kernel
theorem dX4_sumsHold_43 : decode cX4_sumsHold 43 = .ok (.iload_n 1, 1) := by decide +kernel
theorem dX4_sumsHold_44 : decode cX4_sumsHold 44 = .ok (.iconst 3, 1) := by decide +kernel
theorem dX4_sumsHold_45 : decode cX4_sumsHold 45 = .ok (.invokevirtual 83, 3) := by decide +kernel
theorem dX4_sumsHold_48 : decode cX4_sumsHold 48 = .ok (.l2i, 1) := by decide +kernel
theorem dX4_sumsHold_49 : decode cX4_sumsHold 49 = .ok (.iload_n 2, 1) := by decide +kernel
theorem dX4_sumsHold_50 : decode cX4_sumsHold 50 = .ok (.invokevirtual 106, 3) := by decide +kernel
theorem dX4_sumsHold_53 : decode cX4_sumsHold 53 = .ok (.aload_n 0, 1) := by decide +kernel
theorem dX4_sumsHold_54 : decode cX4_sumsHold 54 = .ok (.iload_n 1, 1) := by decide +kernel
theorem dX4_sumsHold_55 : decode cX4_sumsHold 55 = .ok (.iconst 1, 1) := by decide +kernel
theorem dX4_sumsHold_56 : decode cX4_sumsHold 56 = .ok (.invokevirtual 83, 3) := by decide +kernel
theorem dX4_sumsHold_59 : decode cX4_sumsHold 59 = .ok (.lcmp, 1) := by decide +kernel
theorem dX4_sumsHold_60 : decode cX4_sumsHold 60 = .ok (.ifCond .eq 5, 3) := by decide +kernel
theorem dX4_sumsHold_63 : decode cX4_sumsHold 63 = .ok (.iconst 0, 1) := by decide +kernel
theorem dX4_sumsHold_64 : decode cX4_sumsHold 64 = .ok (.ireturn, 1) := by decide +kernel
theorem dX4_sumsHold_65 : decode cX4_sumsHold 65 = .ok (.iinc 1 1, 3) := by decide +kernel
theorem dX4_sumsHold_68 : decode cX4_sumsHold 68 = .ok (.goto (-66), 3) := by decide +kernel
theorem dX4_sumsHold_71 : decode cX4_sumsHold 71 = .ok (.iconst 1, 1) := by decide +kernel
theorem dX4_sumsHold_72 : decode cX4_sumsHold 72 = .ok (.ireturn, 1) := by decide +kernel
def B_X4_sumsHold_33 (N : Nat) (k2 : Int32 → sv_V → Option (Int32 × sv_V)) (l1 : Int32) (s0 : Int32) (V : sv_V) : Option (Int32 × sv_V) := (F_X4_entry l1 (2 : Int32) V).bind (fun (x3, V1) => (F_X4_entry l1 (3 : Int32) V1).bind (fun (x6, V4) => (F_X4_sumOf N x3.toInt32 x6.toInt32 s0 V4).bind (fun (x9, V7) => (F_X4_entry l1 (1 : Int32) V7).bind (fun (x12, V10) => if (lg_cmp x9 x12) = 0 then (sx_let (l1 + 1) (fun x14 => k2 x14 V10)) else (some ((0 : Int32), V10))))))
set_option maxRecDepth 20000 in
theorem tB_X4_sumsHold_33 {g : sx_G} (hG : sx_Go g) {P : Option Value → sv_V → Prop} {r : Int32} {Vr : sv_V} (hP : P (some (.int r)) Vr) {N : Nat} {k2 : Int32 → sv_V → Option (Int32 × sv_V)} (hk2 : ∀ (l1 : Int32) (V : sv_V), k2 l1 V = some (r, Vr) → sv_N g qX4_sumsHold 3 2 [(0, .ref 29), (1, .int l1)] [] V P) {l1 : Int32} {s0 : Int32} {V : sv_V} (h : B_X4_sumsHold_33 N k2 l1 s0 V = some (r, Vr)) : sv_N g qX4_sumsHold 3 33 [(0, .ref 29), (1, .int l1)] [.int s0] V P := by
  unfold B_X4_sumsHold_33 at h
  refine sx_istore_n (pc := 33) (lo' := [(2, .int s0), (0, .ref 29), (1, .int l1)]) dX4_sumsHold_33 (by decide) rfl ?_
  refine sx_aload_n (pc := 34) dX4_sumsHold_34 sx_m1 ?_
  refine sx_aload_n (pc := 35) dX4_sumsHold_35 sx_m1 ?_
  refine sx_iload_n (pc := 36) dX4_sumsHold_36 sx_m2 ?_
  refine sx_iconst (pc := 37) (v := 2) dX4_sumsHold_37 (by decide) ?_
  obtain ⟨⟨x3, V1⟩, g2, h⟩ := sx_bnd h
  refine sv_cV (pc := 38) (y := qX4_entry) (o := (some (.long x3))) (as := [.int l1, .int (2 : Int32)]) (V1 := V1) hG dX4_sumsHold_38 l_X4_83 y0X4_entry yvX4_entry rfl (Nat.le_of_ble_eq_true rfl) lay_29 kr_4 (by decide) (Nat.le_of_ble_eq_true rfl) rfl rfl rfl (t_X4_entry hG ⟨rfl, rfl⟩ g2) ?_
  refine sx_l2i (pc := 41) dX4_sumsHold_41 ?_
  refine sx_aload_n (pc := 42) dX4_sumsHold_42 sx_m1 ?_
  refine sx_iload_n (pc := 43) dX4_sumsHold_43 sx_m2 ?_
  refine sx_iconst (pc := 44) (v := 3) dX4_sumsHold_44 (by decide) ?_
  obtain ⟨⟨x6, V4⟩, g5, h⟩ := sx_bnd h
  refine sv_cV (pc := 45) (y := qX4_entry) (o := (some (.long x6))) (as := [.int l1, .int (3 : Int32)]) (V1 := V4) hG dX4_sumsHold_45 l_X4_83 y0X4_entry yvX4_entry rfl (Nat.le_of_ble_eq_true rfl) lay_29 kr_4 (by decide) (Nat.le_of_ble_eq_true rfl) rfl rfl rfl (t_X4_entry hG ⟨rfl, rfl⟩ g5) ?_
  refine sx_l2i (pc := 48) dX4_sumsHold_48 ?_
  refine sx_iload_n (pc := 49) dX4_sumsHold_49 sx_m0 ?_
  obtain ⟨⟨x9, V7⟩, g8, h⟩ := sx_bnd h
  refine sv_cV (pc := 50) (y := qX4_sumOf) (o := (some (.long x9))) (as := [.int x3.toInt32, .int x6.toInt32, .int s0]) (V1 := V7) hG dX4_sumsHold_50 l_X4_106 y0X4_sumOf yvX4_sumOf rfl (Nat.le_of_ble_eq_true rfl) lay_29 kr_4 (by decide) (Nat.le_of_ble_eq_true rfl) rfl rfl rfl (t_X4_sumOf hG ⟨rfl, rfl⟩ g8) ?_
  refine sx_aload_n (pc := 53) dX4_sumsHold_53 sx_m1 ?_
  refine sx_iload_n (pc := 54) dX4_sumsHold_54 sx_m2 ?_
  refine sx_iconst (pc := 55) (v := 1) dX4_sumsHold_55 (by decide) ?_
  obtain ⟨⟨x12, V10⟩, g11, h⟩ := sx_bnd h
  refine sv_cV (pc := 56) (y := qX4_entry) (o := (some (.long x12))) (as := [.int l1, .int (1 : Int32)]) (V1 := V10) hG dX4_sumsHold_56 l_X4_83 y0X4_entry yvX4_entry rfl (Nat.le_of_ble_eq_true rfl) lay_29 kr_4 (by decide) (Nat.le_of_ble_eq_true rfl) rfl rfl rfl (t_X4_entry hG ⟨rfl, rfl⟩ g11) ?_
  refine sx_lcmp (pc := 59) dX4_sumsHold_59 ?_
  refine sx_if_eq (pc := 60) (tgt := 65) dX4_sumsHold_60 (by decide) (fun c13 => ?_) (fun c13 => ?_)
  · have h := sx_pos c13 h
    obtain ⟨x14, hx14⟩ : ∃ z : Int32, z = l1 + 1 := ⟨_, rfl⟩
    have h := sx_letE hx14 h
    refine sx_iinc (pc := 65) (v := x14) (lo' := [(1, .int x14), (2, .int s0), (0, .ref 29)]) dX4_sumsHold_65 sx_m2 (by rw [hx14]; rfl) (by decide) rfl ?_
    refine sx_goto (pc := 68) (tgt := 2) dX4_sumsHold_68 (by decide) ?_
    refine sx_wk (sx_s1 sx_m2 (sx_s1 sx_m0 sx_s0)) ?_
    exact hk2 _ _ h
  · have h := sx_neg c13 h
    refine sx_iconst (pc := 63) (v := 0) dX4_sumsHold_63 (by decide) ?_
    exact sv_zret (pc := 64) dX4_sumsHold_64 rfl rfl h hP
def B_X4_sumsHold_2 (N : Nat) (k2 : Int32 → sv_V → Option (Int32 × sv_V)) (l1 : Int32) (V : sv_V) : Option (Int32 × sv_V) := if (V.1 2 5) ≤ l1 then (some ((1 : Int32), V)) else ((F_X4_entry l1 (0 : Int32) V).bind (fun (x18, V16) => if x18.toInt32 = (V16.1 1001 (2 : Int32).toNatClampNeg) then (B_X4_sumsHold_33 N k2 l1 (1 : Int32) V16) else (B_X4_sumsHold_33 N k2 l1 (0 : Int32) V16)))
set_option maxRecDepth 20000 in
theorem tB_X4_sumsHold_2 {g : sx_G} (hG : sx_Go g) {P : Option Value → sv_V → Prop} {r : Int32} {Vr : sv_V} (hP : P (some (.int r)) Vr) {N : Nat} {k2 : Int32 → sv_V → Option (Int32 × sv_V)} (hk2 : ∀ (l1 : Int32) (V : sv_V), k2 l1 V = some (r, Vr) → sv_N g qX4_sumsHold 3 2 [(0, .ref 29), (1, .int l1)] [] V P) {l1 : Int32} {V : sv_V} (h : B_X4_sumsHold_2 N k2 l1 V = some (r, Vr)) : sv_N g qX4_sumsHold 3 2 [(0, .ref 29), (1, .int l1)] [] V P := by
  unfold B_X4_sumsHold_2 at h
  refine sx_iload_n (pc := 2) dX4_sumsHold_2 sx_m1 ?_
  refine sx_aload_n (pc := 3) dX4_sumsHold_3 sx_m0 ?_
  refine sv_getO (pc := 4) hG dX4_sumsHold_4 f_4_9 lay_29 rfl cr_29_0 ?_
  refine sv_getI (pc := 7) hG dX4_sumsHold_7 f_4_80 lay_2 rfl ?_
  refine sx_icmp_ge (pc := 10) (tgt := 71) dX4_sumsHold_10 (by decide) (fun c15 => ?_) (fun c15 => ?_)
  · have h := sx_pos c15 h
    refine sx_iconst (pc := 71) (v := 1) dX4_sumsHold_71 (by decide) ?_
    exact sv_zret (pc := 72) dX4_sumsHold_72 rfl rfl h hP
  · have h := sx_neg c15 h
    refine sx_aload_n (pc := 13) dX4_sumsHold_13 sx_m0 ?_
    refine sx_iload_n (pc := 14) dX4_sumsHold_14 sx_m1 ?_
    refine sx_iconst (pc := 15) (v := 0) dX4_sumsHold_15 (by decide) ?_
    obtain ⟨⟨x18, V16⟩, g17, h⟩ := sx_bnd h
    refine sv_cV (pc := 16) (y := qX4_entry) (o := (some (.long x18))) (as := [.int l1, .int (0 : Int32)]) (V1 := V16) hG dX4_sumsHold_16 l_X4_83 y0X4_entry yvX4_entry rfl (Nat.le_of_ble_eq_true rfl) lay_29 kr_4 (by decide) (Nat.le_of_ble_eq_true rfl) rfl rfl rfl (t_X4_entry hG ⟨rfl, rfl⟩ g17) ?_
    refine sx_l2i (pc := 19) dX4_sumsHold_19 ?_
    refine sv_getS (pc := 20) (j := 0) dX4_sumsHold_20 rfl n_X4_102 ?_
    refine sx_iconst (pc := 23) (v := 2) dX4_sumsHold_23 (by decide) ?_
    refine sv_xld (pc := 24) hG dX4_sumsHold_24 lay_1001 (by decide) ?_
    refine sx_icmp_ne (pc := 25) (tgt := 32) dX4_sumsHold_25 (by decide) (fun c19 => ?_) (fun c19 => ?_)
    · have h := sx_neg c19 h
      refine sx_iconst (pc := 32) (v := 0) dX4_sumsHold_32 (by decide) ?_
      refine sx_wk (sx_s1 sx_m0 (sx_s1 sx_m1 sx_s0)) ?_
      exact tB_X4_sumsHold_33 hG hP hk2 h
    · have h := sx_pos c19 h
      refine sx_iconst (pc := 28) (v := 1) dX4_sumsHold_28 (by decide) ?_
      refine sx_goto (pc := 29) (tgt := 33) dX4_sumsHold_29 (by decide) ?_
      refine sx_wk (sx_s1 sx_m0 (sx_s1 sx_m1 sx_s0)) ?_
      exact tB_X4_sumsHold_33 hG hP hk2 h
theorem tL_X4_sumsHold_2 {g : sx_G} (hG : sx_Go g) {P : Option Value → sv_V → Prop} {r : Int32} {Vr : sv_V} (hP : P (some (.int r)) Vr) {N : Nat}   : ∀ (n : Nat) (l1 : Int32) (V : sv_V), sx_lp2 (B_X4_sumsHold_2 N ) n l1 V = some (r, Vr) → sv_N g qX4_sumsHold 3 2 [(0, .ref 29), (1, .int l1)] [] V P :=
  sx_lp2_ind (fun k0 ih _ V h => tB_X4_sumsHold_2 hG hP ih h)
def F_X4_sumsHold (N : Nat)  (V : sv_V) : Option (Int32 × sv_V) := sx_lp2 (B_X4_sumsHold_2 N ) N (0 : Int32) V
set_option maxRecDepth 20000 in
theorem t_X4_sumsHold {g : sx_G} (hG : sx_Go g) {P : Option Value → sv_V → Prop} {r : Int32} {Vr : sv_V} (hP : P (some (.int r)) Vr) {N : Nat}  {V : sv_V} (h : F_X4_sumsHold N  V = some (r, Vr)) : sv_N g qX4_sumsHold 3 0 [(0, .ref 29)] [] V P := by
  unfold F_X4_sumsHold at h
  refine sx_iconst (pc := 0) (v := 0) dX4_sumsHold_0 (by decide) ?_
  refine sx_istore_n (pc := 1) (lo' := [(1, .int (0 : Int32)), (0, .ref 29)]) dX4_sumsHold_1 (by decide) rfl ?_
  refine sx_wk (sx_s1 sx_m1 (sx_s1 sx_m0 sx_s0)) ?_
  exact tL_X4_sumsHold_2 hG hP  N _ _ h
