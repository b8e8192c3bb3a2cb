section
/-! methods: X12_glyphAt, X12_feed, X12_wipe, X12_font, X12_table, X12_glyphOf, X12_kern, X12_point, X12_told, X12_held, J9_floorDiv_f86c9, J9_abs_067f4, J9_max_7cf53, J9_max_f86c9, J9_min_7cf53, J9_min_f86c9, J7_fill_53178, J7_fill_031fb, X0_forgetAll, X1_renew, X2_advanceOf, X2_findInSegments, X3_readOutline, X3_partsHold, X3_readPart, X3_deepestPart, X4_shareBytes, X4_sumsHold -/
def ncX12_glyphAt : Nat := 16475455347308407303119158503879816134516501645742185258
theorem kcX12_glyphAt : CK cX12_glyphAt ncX12_glyphAt 23 := ⟨by decide +kernel, by decide +kernel⟩
theorem dX12_glyphAt_0 : decode cX12_glyphAt 0 = .ok (.aload_n 0, 1) := dl_o42 kcX12_glyphAt (by decide +kernel)
theorem dX12_glyphAt_1 : decode cX12_glyphAt 1 = .ok (.iload_n 1, 1) := dl_o27 kcX12_glyphAt (by decide +kernel)
theorem dX12_glyphAt_2 : decode cX12_glyphAt 2 = .ok (.invokevirtual 899, 3) := dl_o182 kcX12_glyphAt (by decide +kernel)
theorem dX12_glyphAt_5 : decode cX12_glyphAt 5 = .ok (.lstore_n 2, 1) := dl_o65 kcX12_glyphAt (by decide +kernel)
theorem dX12_glyphAt_6 : decode cX12_glyphAt 6 = .ok (.lload_n 2, 1) := dl_o32 kcX12_glyphAt (by decide +kernel)
theorem dX12_glyphAt_7 : decode cX12_glyphAt 7 = .ok (.aload_n 0, 1) := dl_o42 kcX12_glyphAt (by decide +kernel)
theorem dX12_glyphAt_8 : decode cX12_glyphAt 8 = .ok (.getfield 260, 3) := dl_o180 kcX12_glyphAt (by decide +kernel)
theorem dX12_glyphAt_11 : decode cX12_glyphAt 11 = .ok (.i2l, 1) := dl_o133 kcX12_glyphAt (by decide +kernel)
theorem dX12_glyphAt_12 : decode cX12_glyphAt 12 = .ok (.lcmp, 1) := dl_o148 kcX12_glyphAt (by decide +kernel)
theorem dX12_glyphAt_13 : decode cX12_glyphAt 13 = .ok (.ifCond .ge 8, 3) := dl_o156 kcX12_glyphAt 8 (by decide +kernel) (by decide +kernel)
theorem dX12_glyphAt_16 : decode cX12_glyphAt 16 = .ok (.lload_n 2, 1) := dl_o32 kcX12_glyphAt (by decide +kernel)
theorem dX12_glyphAt_17 : decode cX12_glyphAt 17 = .ok (.l2i, 1) := dl_o136 kcX12_glyphAt (by decide +kernel)
theorem dX12_glyphAt_18 : decode cX12_glyphAt 18 = .ok (.goto 4, 3) := dl_o167 kcX12_glyphAt 4 (by decide +kernel) (by decide +kernel)
theorem dX12_glyphAt_21 : decode cX12_glyphAt 21 = .ok (.iconst 0, 1) := dl_o3 kcX12_glyphAt (by decide +kernel)
theorem dX12_glyphAt_22 : decode cX12_glyphAt 22 = .ok (.ireturn, 1) := dl_o172 kcX12_glyphAt (by decide +kernel)
def F_X12_glyphAt (N : Nat) (l1 : Int32) (V : sv_V) : Option (Int32 × sv_V) := (F_X12_mapped N l1 V).bind (fun (x3, V1) => if 0 ≤ (lg_cmp x3 ((V1.1 146 12).toInt64)) then (some ((0 : Int32), V1)) else (some (x3.toInt32, V1)))
set_option maxRecDepth 20000 in
theorem t_X12_glyphAt {g : sx_G} (hG : sx_Go g) {P : Option Value → sv_V → Prop} {r : Int32} {Vr : sv_V} (hP : P (some (.int r)) Vr) {N : Nat} {l1 : Int32} {V : sv_V} (h : F_X12_glyphAt N l1 V = some (r, Vr)) : sv_N g qX12_glyphAt 4 0 [(0, .ref 146), (1, .int l1)] [] V P := by
  unfold F_X12_glyphAt at h
  refine sx_aload_n (pc := 0) dX12_glyphAt_0 sx_m0 ?_
  refine sx_iload_n (pc := 1) dX12_glyphAt_1 sx_m1 ?_
  obtain ⟨⟨x3, V1⟩, g2, h⟩ := sx_bnd h
  refine sv_cV (pc := 2) (y := qX12_mapped) (o := (some (.long x3))) (as := [.int l1]) (V1 := V1) hG dX12_glyphAt_2 l_X12_899 y0X12_mapped yvX12_mapped rfl (Nat.le_of_ble_eq_true rfl) lay_146 kr_12 (by decide) (Nat.le_of_ble_eq_true rfl) rfl rfl rfl (t_X12_mapped hG ⟨rfl, rfl⟩ g2) ?_
  refine sx_lstore_n (pc := 5) (lo' := [(2, .long x3), (0, .ref 146), (1, .int l1)]) dX12_glyphAt_5 (by decide) rfl ?_
  refine sx_lload_n (pc := 6) dX12_glyphAt_6 sx_m0 ?_
  refine sx_aload_n (pc := 7) dX12_glyphAt_7 sx_m1 ?_
  refine sv_getI (pc := 8) hG dX12_glyphAt_8 f_12_260 lay_146 rfl ?_
  refine sx_i2l (pc := 11) dX12_glyphAt_11 ?_
  refine sx_lcmp (pc := 12) dX12_glyphAt_12 ?_
  refine sx_if_ge (pc := 13) (tgt := 21) dX12_glyphAt_13 (by decide) (fun c4 => ?_) (fun c4 => ?_)
  · have h := sx_pos c4 h
    refine sx_iconst (pc := 21) (v := 0) dX12_glyphAt_21 (by decide) ?_
    exact sv_iret (pc := 22) dX12_glyphAt_22 rfl h hP
  · have h := sx_neg c4 h
    refine sx_lload_n (pc := 16) dX12_glyphAt_16 sx_m0 ?_
    refine sx_l2i (pc := 17) dX12_glyphAt_17 ?_
    refine sx_goto (pc := 18) (tgt := 22) dX12_glyphAt_18 (by decide) ?_
    exact sv_iret (pc := 22) dX12_glyphAt_22 rfl h hP
def ncX12_feed : Nat := 12012798658115721423538173223165639793792215277087829563713735161055821464305544687528640523696443729390701578418115574956313389249852669590930189535221285055146016707379337524706123648238875
theorem kcX12_feed : CK cX12_feed ncX12_feed 79 := ⟨by decide +kernel, by decide +kernel⟩
theorem dX12_feed_0 : decode cX12_feed 0 = .ok (.iload_n 1, 1) := dl_o27 kcX12_feed (by decide +kernel)
theorem dX12_feed_1 : decode cX12_feed 1 = .ok (.i2l, 1) := dl_o133 kcX12_feed (by decide +kernel)
theorem dX12_feed_2 : decode cX12_feed 2 = .ok (.lconst 1, 1) := dl_o10 kcX12_feed (by decide +kernel)
theorem dX12_feed_3 : decode cX12_feed 3 = .ok (.ldc2_w 380, 3) := dl_o20 kcX12_feed (by decide +kernel)
theorem dX12_feed_6 : decode cX12_feed 6 = .ok (.invokestatic 263, 3) := dl_o184 kcX12_feed (by decide +kernel)
theorem dX12_feed_9 : decode cX12_feed 9 = .ok (.ifCond .ne 6, 3) := dl_o154 kcX12_feed 6 (by decide +kernel) (by decide +kernel)
theorem dX12_feed_12 : decode cX12_feed 12 = .ok (.bipush (-2), 2) := dl_o16 kcX12_feed 254 (by decide +kernel) (by decide +kernel)
theorem dX12_feed_14 : decode cX12_feed 14 = .ok (.ireturn, 1) := dl_o172 kcX12_feed (by decide +kernel)
theorem dX12_feed_15 : decode cX12_feed 15 = .ok (.aload_n 0, 1) := dl_o42 kcX12_feed (by decide +kernel)
theorem dX12_feed_16 : decode cX12_feed 16 = .ok (.getfield 910, 3) := dl_o180 kcX12_feed (by decide +kernel)
theorem dX12_feed_19 : decode cX12_feed 19 = .ok (.iload_n 1, 1) := dl_o27 kcX12_feed (by decide +kernel)
theorem dX12_feed_20 : decode cX12_feed 20 = .ok (.iadd, 1) := dl_o96 kcX12_feed (by decide +kernel)
theorem dX12_feed_21 : decode cX12_feed 21 = .ok (.sipush 12000, 3) := dl_o17 kcX12_feed 12000 (by decide +kernel) (by decide +kernel)
theorem dX12_feed_24 : decode cX12_feed 24 = .ok (.if_icmp .le 6, 3) := dl_o164 kcX12_feed 6 (by decide +kernel) (by decide +kernel)
theorem dX12_feed_27 : decode cX12_feed 27 = .ok (.bipush (-4), 2) := dl_o16 kcX12_feed 252 (by decide +kernel) (by decide +kernel)
theorem dX12_feed_29 : decode cX12_feed 29 = .ok (.ireturn, 1) := dl_o172 kcX12_feed (by decide +kernel)
theorem dX12_feed_30 : decode cX12_feed 30 = .ok (.iload_n 1, 1) := dl_o27 kcX12_feed (by decide +kernel)
theorem dX12_feed_31 : decode cX12_feed 31 = .ok (.iconst 1, 1) := dl_o4 kcX12_feed (by decide +kernel)
theorem dX12_feed_32 : decode cX12_feed 32 = .ok (.isub, 1) := dl_o100 kcX12_feed (by decide +kernel)
theorem dX12_feed_33 : decode cX12_feed 33 = .ok (.istore 4, 2) := dl_o54 kcX12_feed (by decide +kernel)
theorem dX12_feed_35 : decode cX12_feed 35 = .ok (.iload 4, 2) := dl_o21 kcX12_feed (by decide +kernel)
theorem dX12_feed_37 : decode cX12_feed 37 = .ok (.ifCond .lt 37, 3) := dl_o155 kcX12_feed 37 (by decide +kernel) (by decide +kernel)
theorem dX12_feed_40 : decode cX12_feed 40 = .ok (.aload_n 0, 1) := dl_o42 kcX12_feed (by decide +kernel)
theorem dX12_feed_41 : decode cX12_feed 41 = .ok (.getfield 7, 3) := dl_o180 kcX12_feed (by decide +kernel)
theorem dX12_feed_44 : decode cX12_feed 44 = .ok (.aload_n 0, 1) := dl_o42 kcX12_feed (by decide +kernel)
theorem dX12_feed_45 : decode cX12_feed 45 = .ok (.getfield 910, 3) := dl_o180 kcX12_feed (by decide +kernel)
theorem dX12_feed_48 : decode cX12_feed 48 = .ok (.lload_n 2, 1) := dl_o32 kcX12_feed (by decide +kernel)
theorem dX12_feed_49 : decode cX12_feed 49 = .ok (.bipush 8, 2) := dl_o16 kcX12_feed 8 (by decide +kernel) (by decide +kernel)
theorem dX12_feed_51 : decode cX12_feed 51 = .ok (.iload 4, 2) := dl_o21 kcX12_feed (by decide +kernel)
theorem dX12_feed_53 : decode cX12_feed 53 = .ok (.imul, 1) := dl_o104 kcX12_feed (by decide +kernel)
theorem dX12_feed_54 : decode cX12_feed 54 = .ok (.lshr, 1) := dl_o123 kcX12_feed (by decide +kernel)
theorem dX12_feed_55 : decode cX12_feed 55 = .ok (.l2i, 1) := dl_o136 kcX12_feed (by decide +kernel)
theorem dX12_feed_56 : decode cX12_feed 56 = .ok (.i2b, 1) := dl_o145 kcX12_feed (by decide +kernel)
theorem dX12_feed_57 : decode cX12_feed 57 = .ok (.bastore, 1) := dl_o84 kcX12_feed (by decide +kernel)
theorem dX12_feed_58 : decode cX12_feed 58 = .ok (.aload_n 0, 1) := dl_o42 kcX12_feed (by decide +kernel)
theorem dX12_feed_59 : decode cX12_feed 59 = .ok (.dup, 1) := dl_o89 kcX12_feed (by decide +kernel)
theorem dX12_feed_60 : decode cX12_feed 60 = .ok (.getfield 910, 3) := dl_o180 kcX12_feed (by decide +kernel)
theorem dX12_feed_63 : decode cX12_feed 63 = .ok (.iconst 1, 1) := dl_o4 kcX12_feed (by decide +kernel)
theorem dX12_feed_64 : decode cX12_feed 64 = .ok (.iadd, 1) := dl_o96 kcX12_feed (by decide +kernel)
theorem dX12_feed_65 : decode cX12_feed 65 = .ok (.putfield 910, 3) := dl_o181 kcX12_feed (by decide +kernel)
theorem dX12_feed_68 : decode cX12_feed 68 = .ok (.iinc 4 (-1), 3) := by decide +kernel
theorem dX12_feed_71 : decode cX12_feed 71 = .ok (.goto (-36), 3) := dl_o167 kcX12_feed 65500 (by decide +kernel) (by decide +kernel)
theorem dX12_feed_74 : decode cX12_feed 74 = .ok (.aload_n 0, 1) := dl_o42 kcX12_feed (by decide +kernel)
theorem dX12_feed_75 : decode cX12_feed 75 = .ok (.getfield 910, 3) := dl_o180 kcX12_feed (by decide +kernel)
theorem dX12_feed_78 : decode cX12_feed 78 = .ok (.ireturn, 1) := dl_o172 kcX12_feed (by decide +kernel)
def B_X12_feed_35 (N : Nat) (k35 : Int64 → Int32 → sv_V → Option (Int32 × sv_V)) (l2 : Int64) (l4 : Int32) (V : sv_V) : Option (Int32 × sv_V) := if l4 < 0 then (some (V.1 146 1, V)) else (if sx_in (V.1 146 1) 12000 = true then sx_let (sv_I V 147 (V.1 146 1).toNatClampNeg (((l2 >>> (((8 : Int32) * l4).toInt64 &&& 63)).toInt32).toInt8.toInt32).toInt8.toInt32) (fun V3 => sx_let (sv_I V3 146 1 ((V3.1 146 1) + (1 : Int32))) (fun V4 => sx_let (l4 + (-1)) (fun x5 => k35 l2 x5 V4))) else none)
set_option maxRecDepth 20000 in
theorem tB_X12_feed_35 {g : sx_G} (hG : sx_Go g) {P : Option Value → sv_V → Prop} {r : Int32} {Vr : sv_V} (hP : P (some (.int r)) Vr) {N : Nat} {k35 : Int64 → Int32 → sv_V → Option (Int32 × sv_V)} (hk35 : ∀ (l2 : Int64) (l4 : Int32) (V : sv_V), k35 l2 l4 V = some (r, Vr) → sv_N g qX12_feed 1 35 [(0, .ref 146), (2, .long l2), (4, .int l4)] [] V P) {l2 : Int64} {l4 : Int32} {V : sv_V} (h : B_X12_feed_35 N k35 l2 l4 V = some (r, Vr)) : sv_N g qX12_feed 1 35 [(0, .ref 146), (2, .long l2), (4, .int l4)] [] V P := by
  unfold B_X12_feed_35 at h
  refine sx_iload (pc := 35) dX12_feed_35 sx_m2 ?_
  refine sx_if_lt (pc := 37) (tgt := 74) dX12_feed_37 (by decide) (fun c1 => ?_) (fun c1 => ?_)
  · have h := sx_pos c1 h
    refine sx_aload_n (pc := 74) dX12_feed_74 sx_m0 ?_
    refine sv_getI (pc := 75) hG dX12_feed_75 f_12_910 lay_146 rfl ?_
    exact sv_iret (pc := 78) dX12_feed_78 rfl h hP
  · have h := sx_neg c1 h
    refine sx_aload_n (pc := 40) dX12_feed_40 sx_m0 ?_
    refine sv_getA (pc := 41) hG dX12_feed_41 f_12_7 lay_146 rfl cr_146_0 ?_
    refine sx_aload_n (pc := 44) dX12_feed_44 sx_m0 ?_
    refine sv_getI (pc := 45) hG dX12_feed_45 f_12_910 lay_146 rfl ?_
    refine sx_lload_n (pc := 48) dX12_feed_48 sx_m1 ?_
    refine sx_bipush (pc := 49) (v := 8) dX12_feed_49 (by decide) ?_
    refine sx_iload (pc := 51) dX12_feed_51 sx_m2 ?_
    refine sx_imul (pc := 53) dX12_feed_53 ?_
    refine sx_lshr (pc := 54) dX12_feed_54 ?_
    refine sx_l2i (pc := 55) dX12_feed_55 ?_
    refine sx_i2b (pc := 56) dX12_feed_56 ?_
    obtain ⟨g2, h⟩ := sx_grd h
    obtain ⟨V3, hV3⟩ : ∃ z : sv_V, z = sv_I V 147 (V.1 146 1).toNatClampNeg (((l2 >>> (((8 : Int32) * l4).toInt64 &&& 63)).toInt32).toInt8.toInt32).toInt8.toInt32 := ⟨_, rfl⟩
    have h := sx_letE hV3 h
    refine sv_bast (pc := 57) hG dX12_feed_57 lay_147 g2 hV3 ?_
    refine sx_aload_n (pc := 58) dX12_feed_58 sx_m0 ?_
    refine sx_dup (pc := 59) dX12_feed_59 rfl ?_
    refine sv_getI (pc := 60) hG dX12_feed_60 f_12_910 lay_146 rfl ?_
    refine sx_iconst (pc := 63) (v := 1) dX12_feed_63 (by decide) ?_
    refine sx_iadd (pc := 64) dX12_feed_64 ?_
    obtain ⟨V4, hV4⟩ : ∃ z : sv_V, z = sv_I V3 146 1 ((V3.1 146 1) + (1 : Int32)) := ⟨_, rfl⟩
    have h := sx_letE hV4 h
    refine sv_putI (pc := 65) hG dX12_feed_65 f_12_910 lay_146 rfl hV4 ?_
    obtain ⟨x5, hx5⟩ : ∃ z : Int32, z = l4 + (-1) := ⟨_, rfl⟩
    have h := sx_letE hx5 h
    refine sx_iinc (pc := 68) (v := x5) (lo' := [(4, .int x5), (0, .ref 146), (2, .long l2)]) dX12_feed_68 sx_m2 (by rw [hx5]; rfl) (by decide) rfl ?_
    refine sx_goto (pc := 71) (tgt := 35) dX12_feed_71 (by decide) ?_
    refine sx_wk (sx_s1 sx_m1 (sx_s1 sx_m2 (sx_s1 sx_m0 sx_s0))) ?_
    exact hk35 _ _ _ h
theorem tL_X12_feed_35 {g : sx_G} (hG : sx_Go g) {P : Option Value → sv_V → Prop} {r : Int32} {Vr : sv_V} (hP : P (some (.int r)) Vr) {N : Nat}   : ∀ (n : Nat) (l2 : Int64) (l4 : Int32) (V : sv_V), sx_lp3 (B_X12_feed_35 N ) n l2 l4 V = some (r, Vr) → sv_N g qX12_feed 1 35 [(0, .ref 146), (2, .long l2), (4, .int l4)] [] V P :=
  sx_lp3_ind (fun k0 ih _ _ V h => tB_X12_feed_35 hG hP ih h)
def F_X12_feed (N : Nat) (l1 : Int32) (l2 : Int64) (V : sv_V) : Option (Int32 × sv_V) := (F_X12_in l1.toInt64 (1 : Int64) (8 : Int64) V).bind (fun (x8, V6) => if x8 = 0 then (some ((-2 : Int32), V6)) else (if ((V6.1 146 1) + l1) ≤ (12000 : Int32) then (sx_let (l1 - (1 : Int32)) (fun x11 => sx_lp3 (B_X12_feed_35 N ) N l2 x11 V6)) else (some ((-4 : Int32), V6))))
set_option maxRecDepth 20000 in
theorem t_X12_feed {g : sx_G} (hG : sx_Go g) {P : Option Value → sv_V → Prop} {r : Int32} {Vr : sv_V} (hP : P (some (.int r)) Vr) {N : Nat} {l1 : Int32} {l2 : Int64} {V : sv_V} (h : F_X12_feed N l1 l2 V = some (r, Vr)) : sv_N g qX12_feed 1 0 [(0, .ref 146), (1, .int l1), (2, .long l2)] [] V P := by
  unfold F_X12_feed at h
  refine sx_iload_n (pc := 0) dX12_feed_0 sx_m1 ?_
  refine sx_i2l (pc := 1) dX12_feed_1 ?_
  refine sx_lconst (pc := 2) (v := 1) dX12_feed_2 rfl ?_
  refine sx_ldc2 (pc := 3) dX12_feed_3 k_X12_380 ?_
  obtain ⟨⟨x8, V6⟩, g7, h⟩ := sx_bnd h
  refine sv_cS (pc := 6) (y := qX12_in) (o := (some (.int x8))) (as := [.long l1.toInt64, .long (1 : Int64), .long (8 : Int64)]) (V1 := V6) dX12_feed_6 l_X12_263 y0X12_in ysX12_in rfl (Nat.le_of_ble_eq_true rfl) (by decide) (Nat.le_of_ble_eq_true rfl) rfl rfl rfl (t_X12_in hG ⟨rfl, rfl⟩ g7) ?_
  refine sx_if_ne (pc := 9) (tgt := 15) dX12_feed_9 (by decide) (fun c9 => ?_) (fun c9 => ?_)
  · have h := sx_neg c9 h
    refine sx_aload_n (pc := 15) dX12_feed_15 sx_m0 ?_
    refine sv_getI (pc := 16) hG dX12_feed_16 f_12_910 lay_146 rfl ?_
    refine sx_iload_n (pc := 19) dX12_feed_19 sx_m1 ?_
    refine sx_iadd (pc := 20) dX12_feed_20 ?_
    refine sx_sipush (pc := 21) (v := 12000) dX12_feed_21 (by decide) ?_
    refine sx_icmp_le (pc := 24) (tgt := 30) dX12_feed_24 (by decide) (fun c10 => ?_) (fun c10 => ?_)
    · have h := sx_pos c10 h
      refine sx_iload_n (pc := 30) dX12_feed_30 sx_m1 ?_
      refine sx_iconst (pc := 31) (v := 1) dX12_feed_31 (by decide) ?_
      refine sx_isub (pc := 32) dX12_feed_32 ?_
      refine sv_tI (fun x11 hx11 => ?_)
      have h := sx_letE hx11 h
      refine sx_istore (pc := 33) (lo' := [(4, .int x11), (0, .ref 146), (1, .int l1), (2, .long l2)]) dX12_feed_33 (by decide) rfl ?_
      refine sx_wk (sx_s1 sx_m1 (sx_s1 sx_m3 (sx_s1 sx_m0 sx_s0))) ?_
      exact tL_X12_feed_35 hG hP  N _ _ _ h
    · have h := sx_neg c10 h
      refine sx_bipush (pc := 27) (v := (-4)) dX12_feed_27 (by decide) ?_
      exact sv_iret (pc := 29) dX12_feed_29 rfl h hP
  · have h := sx_pos c9 h
    refine sx_bipush (pc := 12) (v := (-2)) dX12_feed_12 (by decide) ?_
    exact sv_iret (pc := 14) dX12_feed_14 rfl h hP
def ncX12_wipe : Nat := 53264733330825061904492508202
theorem kcX12_wipe : CK cX12_wipe ncX12_wipe 12 := ⟨by decide +kernel, by decide +kernel⟩
theorem dX12_wipe_0 : decode cX12_wipe 0 = .ok (.aload_n 0, 1) := dl_o42 kcX12_wipe (by decide +kernel)
theorem dX12_wipe_1 : decode cX12_wipe 1 = .ok (.getfield 910, 3) := dl_o180 kcX12_wipe (by decide +kernel)
theorem dX12_wipe_4 : decode cX12_wipe 4 = .ok (.istore_n 1, 1) := dl_o60 kcX12_wipe (by decide +kernel)
theorem dX12_wipe_5 : decode cX12_wipe 5 = .ok (.aload_n 0, 1) := dl_o42 kcX12_wipe (by decide +kernel)
theorem dX12_wipe_6 : decode cX12_wipe 6 = .ok (.iconst 0, 1) := dl_o3 kcX12_wipe (by decide +kernel)
theorem dX12_wipe_7 : decode cX12_wipe 7 = .ok (.putfield 910, 3) := dl_o181 kcX12_wipe (by decide +kernel)
theorem dX12_wipe_10 : decode cX12_wipe 10 = .ok (.iload_n 1, 1) := dl_o27 kcX12_wipe (by decide +kernel)
theorem dX12_wipe_11 : decode cX12_wipe 11 = .ok (.ireturn, 1) := dl_o172 kcX12_wipe (by decide +kernel)
def F_X12_wipe  (V : sv_V) : Option (Int32 × sv_V) := sx_let (V.1 146 1) (fun x1 => sx_let (sv_I V 146 1 (0 : Int32)) (fun V2 => some (x1, V2)))
set_option maxRecDepth 20000 in
theorem t_X12_wipe {g : sx_G} (hG : sx_Go g) {P : Option Value → sv_V → Prop} {r : Int32} {Vr : sv_V} (hP : P (some (.int r)) Vr)  {V : sv_V} (h : F_X12_wipe  V = some (r, Vr)) : sv_N g qX12_wipe 0 0 [(0, .ref 146)] [] V P := by
  unfold F_X12_wipe at h
  refine sx_aload_n (pc := 0) dX12_wipe_0 sx_m0 ?_
  refine sv_getI (pc := 1) hG dX12_wipe_1 f_12_910 lay_146 rfl ?_
  refine sv_tI (fun x1 hx1 => ?_)
  have h := sx_letE hx1 h
  refine sx_istore_n (pc := 4) (lo' := [(1, .int x1), (0, .ref 146)]) dX12_wipe_4 (by decide) rfl ?_
  refine sx_aload_n (pc := 5) dX12_wipe_5 sx_m1 ?_
  refine sx_iconst (pc := 6) (v := 0) dX12_wipe_6 (by decide) ?_
  obtain ⟨V2, hV2⟩ : ∃ z : sv_V, z = sv_I V 146 1 (0 : Int32) := ⟨_, rfl⟩
  have h := sx_letE hV2 h
  refine sv_putI (pc := 7) hG dX12_wipe_7 f_12_910 lay_146 rfl hV2 ?_
  refine sx_iload_n (pc := 10) dX12_wipe_10 sx_m0 ?_
  exact sv_iret (pc := 11) dX12_wipe_11 rfl h hP
def ncX12_font : Nat := 392521188666557360482283946213884173766531459541404548418502586888987181801391291113682293151944209511695050451515546594616756253389410657090796278659729524468758449086634495914440474213155233617117042679350048124010185650800197034120941864961418284366181886398207351843290358133802
theorem kcX12_font : CK cX12_font ncX12_font 117 := ⟨by decide +kernel, by decide +kernel⟩
theorem dX12_font_0 : decode cX12_font 0 = .ok (.aload_n 0, 1) := dl_o42 kcX12_font (by decide +kernel)
theorem dX12_font_1 : decode cX12_font 1 = .ok (.getfield 759, 3) := dl_o180 kcX12_font (by decide +kernel)
theorem dX12_font_4 : decode cX12_font 4 = .ok (.ifCond .ne 6, 3) := dl_o154 kcX12_font 6 (by decide +kernel) (by decide +kernel)
theorem dX12_font_7 : decode cX12_font 7 = .ok (.bipush (-3), 2) := dl_o16 kcX12_font 253 (by decide +kernel) (by decide +kernel)
theorem dX12_font_9 : decode cX12_font 9 = .ok (.ireturn, 1) := dl_o172 kcX12_font (by decide +kernel)
theorem dX12_font_10 : decode cX12_font 10 = .ok (.iload_n 1, 1) := dl_o27 kcX12_font (by decide +kernel)
theorem dX12_font_11 : decode cX12_font 11 = .ok (.tableswitch 103 0 9 #[53, 58, 63, 68, 73, 78, 83, 88, 93, 98], 53) := by decide +kernel
theorem dX12_font_64 : decode cX12_font 64 = .ok (.aload_n 0, 1) := dl_o42 kcX12_font (by decide +kernel)
theorem dX12_font_65 : decode cX12_font 65 = .ok (.getfield 302, 3) := dl_o180 kcX12_font (by decide +kernel)
theorem dX12_font_68 : decode cX12_font 68 = .ok (.ireturn, 1) := dl_o172 kcX12_font (by decide +kernel)
theorem dX12_font_69 : decode cX12_font 69 = .ok (.aload_n 0, 1) := dl_o42 kcX12_font (by decide +kernel)
theorem dX12_font_70 : decode cX12_font 70 = .ok (.getfield 260, 3) := dl_o180 kcX12_font (by decide +kernel)
theorem dX12_font_73 : decode cX12_font 73 = .ok (.ireturn, 1) := dl_o172 kcX12_font (by decide +kernel)
theorem dX12_font_74 : decode cX12_font 74 = .ok (.aload_n 0, 1) := dl_o42 kcX12_font (by decide +kernel)
theorem dX12_font_75 : decode cX12_font 75 = .ok (.getfield 254, 3) := dl_o180 kcX12_font (by decide +kernel)
theorem dX12_font_78 : decode cX12_font 78 = .ok (.ireturn, 1) := dl_o172 kcX12_font (by decide +kernel)
theorem dX12_font_79 : decode cX12_font 79 = .ok (.aload_n 0, 1) := dl_o42 kcX12_font (by decide +kernel)
theorem dX12_font_80 : decode cX12_font 80 = .ok (.getfield 271, 3) := dl_o180 kcX12_font (by decide +kernel)
theorem dX12_font_83 : decode cX12_font 83 = .ok (.ireturn, 1) := dl_o172 kcX12_font (by decide +kernel)
theorem dX12_font_84 : decode cX12_font 84 = .ok (.aload_n 0, 1) := dl_o42 kcX12_font (by decide +kernel)
theorem dX12_font_85 : decode cX12_font 85 = .ok (.getfield 216, 3) := dl_o180 kcX12_font (by decide +kernel)
theorem dX12_font_88 : decode cX12_font 88 = .ok (.ireturn, 1) := dl_o172 kcX12_font (by decide +kernel)
theorem dX12_font_89 : decode cX12_font 89 = .ok (.aload_n 0, 1) := dl_o42 kcX12_font (by decide +kernel)
theorem dX12_font_90 : decode cX12_font 90 = .ok (.getfield 387, 3) := dl_o180 kcX12_font (by decide +kernel)
theorem dX12_font_93 : decode cX12_font 93 = .ok (.ireturn, 1) := dl_o172 kcX12_font (by decide +kernel)
theorem dX12_font_94 : decode cX12_font 94 = .ok (.aload_n 0, 1) := dl_o42 kcX12_font (by decide +kernel)
theorem dX12_font_95 : decode cX12_font 95 = .ok (.getfield 405, 3) := dl_o180 kcX12_font (by decide +kernel)
theorem dX12_font_98 : decode cX12_font 98 = .ok (.ireturn, 1) := dl_o172 kcX12_font (by decide +kernel)
theorem dX12_font_99 : decode cX12_font 99 = .ok (.aload_n 0, 1) := dl_o42 kcX12_font (by decide +kernel)
theorem dX12_font_100 : decode cX12_font 100 = .ok (.getfield 294, 3) := dl_o180 kcX12_font (by decide +kernel)
theorem dX12_font_103 : decode cX12_font 103 = .ok (.ireturn, 1) := dl_o172 kcX12_font (by decide +kernel)
theorem dX12_font_104 : decode cX12_font 104 = .ok (.aload_n 0, 1) := dl_o42 kcX12_font (by decide +kernel)
theorem dX12_font_105 : decode cX12_font 105 = .ok (.getfield 399, 3) := dl_o180 kcX12_font (by decide +kernel)
theorem dX12_font_108 : decode cX12_font 108 = .ok (.ireturn, 1) := dl_o172 kcX12_font (by decide +kernel)
theorem dX12_font_109 : decode cX12_font 109 = .ok (.aload_n 0, 1) := dl_o42 kcX12_font (by decide +kernel)
theorem dX12_font_110 : decode cX12_font 110 = .ok (.getfield 206, 3) := dl_o180 kcX12_font (by decide +kernel)
theorem dX12_font_113 : decode cX12_font 113 = .ok (.ireturn, 1) := dl_o172 kcX12_font (by decide +kernel)
theorem dX12_font_114 : decode cX12_font 114 = .ok (.bipush (-2), 2) := dl_o16 kcX12_font 254 (by decide +kernel) (by decide +kernel)
theorem dX12_font_116 : decode cX12_font 116 = .ok (.ireturn, 1) := dl_o172 kcX12_font (by decide +kernel)
def F_X12_font (l1 : Int32) (V : sv_V) : Option (Int32 × sv_V) := if (V.1 146 4) = 0 then (some ((-3 : Int32), V)) else (if l1 = 0 then (some (V.1 146 10, V)) else (if l1 = 1 then (some (V.1 146 12, V)) else (if l1 = 2 then (some (V.1 146 20, V)) else (if l1 = 3 then (some (V.1 146 11, V)) else (if l1 = 4 then (some (V.1 146 5, V)) else (if l1 = 5 then (some (V.1 146 22, V)) else (if l1 = 6 then (some (V.1 146 24, V)) else (if l1 = 7 then (some (V.1 146 25, V)) else (if l1 = 8 then (some (V.1 146 23, V)) else (if l1 = 9 then (some (V.1 146 3, V)) else (some ((-2 : Int32), V))))))))))))
set_option maxRecDepth 20000 in
theorem t_X12_font {g : sx_G} (hG : sx_Go g) {P : Option Value → sv_V → Prop} {r : Int32} {Vr : sv_V} (hP : P (some (.int r)) Vr) {l1 : Int32} {V : sv_V} (h : F_X12_font l1 V = some (r, Vr)) : sv_N g qX12_font 0 0 [(0, .ref 146), (1, .int l1)] [] V P := by
  unfold F_X12_font at h
  refine sx_aload_n (pc := 0) dX12_font_0 sx_m0 ?_
  refine sv_getZ (pc := 1) hG dX12_font_1 f_12_759 lay_146 rfl ?_
  refine sx_if_ne (pc := 4) (tgt := 10) dX12_font_4 (by decide) (fun c1 => ?_) (fun c1 => ?_)
  · have h := sx_neg c1 h
    refine sx_iload_n (pc := 10) dX12_font_10 sx_m1 ?_
    by_cases c2 : l1 = 0
    · have h := sx_pos c2 h
      refine sx_tabI (pc := 11) (off := 53) (tgt := 64) dX12_font_11 (by rw [c2]; decide) (by rw [c2]; decide) (by rw [c2]; rfl) (by decide) ?_
      refine sx_aload_n (pc := 64) dX12_font_64 sx_m0 ?_
      refine sv_getI (pc := 65) hG dX12_font_65 f_12_302 lay_146 rfl ?_
      exact sv_iret (pc := 68) dX12_font_68 rfl h hP
    have h := sx_neg c2 h
    by_cases c3 : l1 = 1
    · have h := sx_pos c3 h
      refine sx_tabI (pc := 11) (off := 58) (tgt := 69) dX12_font_11 (by rw [c3]; decide) (by rw [c3]; decide) (by rw [c3]; rfl) (by decide) ?_
      refine sx_aload_n (pc := 69) dX12_font_69 sx_m0 ?_
      refine sv_getI (pc := 70) hG dX12_font_70 f_12_260 lay_146 rfl ?_
      exact sv_iret (pc := 73) dX12_font_73 rfl h hP
    have h := sx_neg c3 h
    by_cases c4 : l1 = 2
    · have h := sx_pos c4 h
      refine sx_tabI (pc := 11) (off := 63) (tgt := 74) dX12_font_11 (by rw [c4]; decide) (by rw [c4]; decide) (by rw [c4]; rfl) (by decide) ?_
      refine sx_aload_n (pc := 74) dX12_font_74 sx_m0 ?_
      refine sv_getI (pc := 75) hG dX12_font_75 f_12_254 lay_146 rfl ?_
      exact sv_iret (pc := 78) dX12_font_78 rfl h hP
    have h := sx_neg c4 h
    by_cases c5 : l1 = 3
    · have h := sx_pos c5 h
      refine sx_tabI (pc := 11) (off := 68) (tgt := 79) dX12_font_11 (by rw [c5]; decide) (by rw [c5]; decide) (by rw [c5]; rfl) (by decide) ?_
      refine sx_aload_n (pc := 79) dX12_font_79 sx_m0 ?_
      refine sv_getI (pc := 80) hG dX12_font_80 f_12_271 lay_146 rfl ?_
      exact sv_iret (pc := 83) dX12_font_83 rfl h hP
    have h := sx_neg c5 h
    by_cases c6 : l1 = 4
    · have h := sx_pos c6 h
      refine sx_tabI (pc := 11) (off := 73) (tgt := 84) dX12_font_11 (by rw [c6]; decide) (by rw [c6]; decide) (by rw [c6]; rfl) (by decide) ?_
      refine sx_aload_n (pc := 84) dX12_font_84 sx_m0 ?_
      refine sv_getI (pc := 85) hG dX12_font_85 f_12_216 lay_146 rfl ?_
      exact sv_iret (pc := 88) dX12_font_88 rfl h hP
    have h := sx_neg c6 h
    by_cases c7 : l1 = 5
    · have h := sx_pos c7 h
      refine sx_tabI (pc := 11) (off := 78) (tgt := 89) dX12_font_11 (by rw [c7]; decide) (by rw [c7]; decide) (by rw [c7]; rfl) (by decide) ?_
      refine sx_aload_n (pc := 89) dX12_font_89 sx_m0 ?_
      refine sv_getI (pc := 90) hG dX12_font_90 f_12_387 lay_146 rfl ?_
      exact sv_iret (pc := 93) dX12_font_93 rfl h hP
    have h := sx_neg c7 h
    by_cases c8 : l1 = 6
    · have h := sx_pos c8 h
      refine sx_tabI (pc := 11) (off := 83) (tgt := 94) dX12_font_11 (by rw [c8]; decide) (by rw [c8]; decide) (by rw [c8]; rfl) (by decide) ?_
      refine sx_aload_n (pc := 94) dX12_font_94 sx_m0 ?_
      refine sv_getI (pc := 95) hG dX12_font_95 f_12_405 lay_146 rfl ?_
      exact sv_iret (pc := 98) dX12_font_98 rfl h hP
    have h := sx_neg c8 h
    by_cases c9 : l1 = 7
    · have h := sx_pos c9 h
      refine sx_tabI (pc := 11) (off := 88) (tgt := 99) dX12_font_11 (by rw [c9]; decide) (by rw [c9]; decide) (by rw [c9]; rfl) (by decide) ?_
      refine sx_aload_n (pc := 99) dX12_font_99 sx_m0 ?_
      refine sv_getI (pc := 100) hG dX12_font_100 f_12_294 lay_146 rfl ?_
      exact sv_iret (pc := 103) dX12_font_103 rfl h hP
    have h := sx_neg c9 h
    by_cases c10 : l1 = 8
    · have h := sx_pos c10 h
      refine sx_tabI (pc := 11) (off := 93) (tgt := 104) dX12_font_11 (by rw [c10]; decide) (by rw [c10]; decide) (by rw [c10]; rfl) (by decide) ?_
      refine sx_aload_n (pc := 104) dX12_font_104 sx_m0 ?_
      refine sv_getI (pc := 105) hG dX12_font_105 f_12_399 lay_146 rfl ?_
      exact sv_iret (pc := 108) dX12_font_108 rfl h hP
    have h := sx_neg c10 h
    by_cases c11 : l1 = 9
    · have h := sx_pos c11 h
      refine sx_tabI (pc := 11) (off := 98) (tgt := 109) dX12_font_11 (by rw [c11]; decide) (by rw [c11]; decide) (by rw [c11]; rfl) (by decide) ?_
      refine sx_aload_n (pc := 109) dX12_font_109 sx_m0 ?_
      refine sv_getI (pc := 110) hG dX12_font_110 f_12_206 lay_146 rfl ?_
      exact sv_iret (pc := 113) dX12_font_113 rfl h hP
    have h := sx_neg c11 h
    refine sx_tabO (pc := 11) (tgt := 114) dX12_font_11 (by have ec2 := lv_neT (a := 0) c2 rfl; have ec3 := lv_neT (a := 1) c3 rfl; have ec4 := lv_neT (a := 2) c4 rfl; have ec5 := lv_neT (a := 3) c5 rfl; have ec6 := lv_neT (a := 4) c6 rfl; have ec7 := lv_neT (a := 5) c7 rfl; have ec8 := lv_neT (a := 6) c8 rfl; have ec9 := lv_neT (a := 7) c9 rfl; have ec10 := lv_neT (a := 8) c10 rfl; have ec11 := lv_neT (a := 9) c11 rfl; omega) (by decide) ?_
    refine sx_bipush (pc := 114) (v := (-2)) dX12_font_114 (by decide) ?_
    exact sv_iret (pc := 116) dX12_font_116 rfl h hP
  · have h := sx_pos c1 h
    refine sx_bipush (pc := 7) (v := (-3)) dX12_font_7 (by decide) ?_
    exact sv_iret (pc := 9) dX12_font_9 rfl h hP
def ncX12_table : Nat := 4112358253583984419760755106486064920626641341565635696065026485641334613149770732693519856368923982863464880211783066609760460817852902514615529922025523919797806522000642147750557857503127667682074483560200642508504572209837098
theorem kcX12_table : CK cX12_table ncX12_table 95 := ⟨by decide +kernel, by decide +kernel⟩
theorem dX12_table_0 : decode cX12_table 0 = .ok (.aload_n 0, 1) := dl_o42 kcX12_table (by decide +kernel)
theorem dX12_table_1 : decode cX12_table 1 = .ok (.getfield 759, 3) := dl_o180 kcX12_table (by decide +kernel)
theorem dX12_table_4 : decode cX12_table 4 = .ok (.ifCond .ne 7, 3) := dl_o154 kcX12_table 7 (by decide +kernel) (by decide +kernel)
theorem dX12_table_7 : decode cX12_table 7 = .ok (.ldc2_w 916, 3) := dl_o20 kcX12_table (by decide +kernel)
theorem dX12_table_10 : decode cX12_table 10 = .ok (.lreturn, 1) := dl_o173 kcX12_table (by decide +kernel)
theorem dX12_table_11 : decode cX12_table 11 = .ok (.iload_n 1, 1) := dl_o27 kcX12_table (by decide +kernel)
theorem dX12_table_12 : decode cX12_table 12 = .ok (.i2l, 1) := dl_o133 kcX12_table (by decide +kernel)
theorem dX12_table_13 : decode cX12_table 13 = .ok (.lconst 0, 1) := dl_o9 kcX12_table (by decide +kernel)
theorem dX12_table_14 : decode cX12_table 14 = .ok (.aload_n 0, 1) := dl_o42 kcX12_table (by decide +kernel)
theorem dX12_table_15 : decode cX12_table 15 = .ok (.getfield 216, 3) := dl_o180 kcX12_table (by decide +kernel)
theorem dX12_table_18 : decode cX12_table 18 = .ok (.iconst 1, 1) := dl_o4 kcX12_table (by decide +kernel)
theorem dX12_table_19 : decode cX12_table 19 = .ok (.isub, 1) := dl_o100 kcX12_table (by decide +kernel)
theorem dX12_table_20 : decode cX12_table 20 = .ok (.i2l, 1) := dl_o133 kcX12_table (by decide +kernel)
theorem dX12_table_21 : decode cX12_table 21 = .ok (.invokestatic 263, 3) := dl_o184 kcX12_table (by decide +kernel)
theorem dX12_table_24 : decode cX12_table 24 = .ok (.ifCond .ne 7, 3) := dl_o154 kcX12_table 7 (by decide +kernel) (by decide +kernel)
theorem dX12_table_27 : decode cX12_table 27 = .ok (.ldc2_w 918, 3) := dl_o20 kcX12_table (by decide +kernel)
theorem dX12_table_30 : decode cX12_table 30 = .ok (.lreturn, 1) := dl_o173 kcX12_table (by decide +kernel)
theorem dX12_table_31 : decode cX12_table 31 = .ok (.iload_n 2, 1) := dl_o28 kcX12_table (by decide +kernel)
theorem dX12_table_32 : decode cX12_table 32 = .ok (.ifCond .ne 17, 3) := dl_o154 kcX12_table 17 (by decide +kernel) (by decide +kernel)
theorem dX12_table_35 : decode cX12_table 35 = .ok (.aload_n 0, 1) := dl_o42 kcX12_table (by decide +kernel)
theorem dX12_table_36 : decode cX12_table 36 = .ok (.getfield 16, 3) := dl_o180 kcX12_table (by decide +kernel)
theorem dX12_table_39 : decode cX12_table 39 = .ok (.iload_n 1, 1) := dl_o27 kcX12_table (by decide +kernel)
theorem dX12_table_40 : decode cX12_table 40 = .ok (.iaload, 1) := dl_o46 kcX12_table (by decide +kernel)
theorem dX12_table_41 : decode cX12_table 41 = .ok (.i2l, 1) := dl_o133 kcX12_table (by decide +kernel)
theorem dX12_table_42 : decode cX12_table 42 = .ok (.ldc2_w 226, 3) := dl_o20 kcX12_table (by decide +kernel)
theorem dX12_table_45 : decode cX12_table 45 = .ok (.land, 1) := dl_o127 kcX12_table (by decide +kernel)
theorem dX12_table_46 : decode cX12_table 46 = .ok (.goto 48, 3) := dl_o167 kcX12_table 48 (by decide +kernel) (by decide +kernel)
theorem dX12_table_49 : decode cX12_table 49 = .ok (.iload_n 2, 1) := dl_o28 kcX12_table (by decide +kernel)
theorem dX12_table_50 : decode cX12_table 50 = .ok (.iconst 1, 1) := dl_o4 kcX12_table (by decide +kernel)
theorem dX12_table_51 : decode cX12_table 51 = .ok (.if_icmp .ne 12, 3) := dl_o160 kcX12_table 12 (by decide +kernel) (by decide +kernel)
theorem dX12_table_54 : decode cX12_table 54 = .ok (.aload_n 0, 1) := dl_o42 kcX12_table (by decide +kernel)
theorem dX12_table_55 : decode cX12_table 55 = .ok (.getfield 20, 3) := dl_o180 kcX12_table (by decide +kernel)
theorem dX12_table_58 : decode cX12_table 58 = .ok (.iload_n 1, 1) := dl_o27 kcX12_table (by decide +kernel)
theorem dX12_table_59 : decode cX12_table 59 = .ok (.laload, 1) := dl_o47 kcX12_table (by decide +kernel)
theorem dX12_table_60 : decode cX12_table 60 = .ok (.goto 34, 3) := dl_o167 kcX12_table 34 (by decide +kernel) (by decide +kernel)
theorem dX12_table_63 : decode cX12_table 63 = .ok (.iload_n 2, 1) := dl_o28 kcX12_table (by decide +kernel)
theorem dX12_table_64 : decode cX12_table 64 = .ok (.iconst 2, 1) := dl_o5 kcX12_table (by decide +kernel)
theorem dX12_table_65 : decode cX12_table 65 = .ok (.if_icmp .ne 12, 3) := dl_o160 kcX12_table 12 (by decide +kernel) (by decide +kernel)
theorem dX12_table_68 : decode cX12_table 68 = .ok (.aload_n 0, 1) := dl_o42 kcX12_table (by decide +kernel)
theorem dX12_table_69 : decode cX12_table 69 = .ok (.getfield 24, 3) := dl_o180 kcX12_table (by decide +kernel)
theorem dX12_table_72 : decode cX12_table 72 = .ok (.iload_n 1, 1) := dl_o27 kcX12_table (by decide +kernel)
theorem dX12_table_73 : decode cX12_table 73 = .ok (.laload, 1) := dl_o47 kcX12_table (by decide +kernel)
theorem dX12_table_74 : decode cX12_table 74 = .ok (.goto 20, 3) := dl_o167 kcX12_table 20 (by decide +kernel) (by decide +kernel)
theorem dX12_table_77 : decode cX12_table 77 = .ok (.iload_n 2, 1) := dl_o28 kcX12_table (by decide +kernel)
theorem dX12_table_78 : decode cX12_table 78 = .ok (.iconst 3, 1) := dl_o6 kcX12_table (by decide +kernel)
theorem dX12_table_79 : decode cX12_table 79 = .ok (.if_icmp .ne 12, 3) := dl_o160 kcX12_table 12 (by decide +kernel) (by decide +kernel)
theorem dX12_table_82 : decode cX12_table 82 = .ok (.aload_n 0, 1) := dl_o42 kcX12_table (by decide +kernel)
theorem dX12_table_83 : decode cX12_table 83 = .ok (.getfield 27, 3) := dl_o180 kcX12_table (by decide +kernel)
theorem dX12_table_86 : decode cX12_table 86 = .ok (.iload_n 1, 1) := dl_o27 kcX12_table (by decide +kernel)
theorem dX12_table_87 : decode cX12_table 87 = .ok (.laload, 1) := dl_o47 kcX12_table (by decide +kernel)
theorem dX12_table_88 : decode cX12_table 88 = .ok (.goto 6, 3) := dl_o167 kcX12_table 6 (by decide +kernel) (by decide +kernel)
theorem dX12_table_91 : decode cX12_table 91 = .ok (.ldc2_w 920, 3) := dl_o20 kcX12_table (by decide +kernel)
theorem dX12_table_94 : decode cX12_table 94 = .ok (.lreturn, 1) := dl_o173 kcX12_table (by decide +kernel)
def F_X12_table (l1 : Int32) (l2 : Int32) (V : sv_V) : Option (Int64 × sv_V) := if (V.1 146 4) = 0 then (some ((-3 : Int64), V)) else ((F_X12_in l1.toInt64 (0 : Int64) (((V.1 146 5) - (1 : Int32)).toInt64) V).bind (fun (x4, V2) => if x4 = 0 then (some ((-1 : Int64), V2)) else (if l2 = 0 then (if sx_in l1 16 = true then some (((V2.1 149 l1.toNatClampNeg).toInt64) &&& (4294967295 : Int64), V2) else none) else (if l2 = (1 : Int32) then (if sx_in l1 16 = true then some (V2.2.1 150 l1.toNatClampNeg, V2) else none) else (if l2 = (2 : Int32) then (if sx_in l1 16 = true then some (V2.2.1 151 l1.toNatClampNeg, V2) else none) else (if l2 = (3 : Int32) then (if sx_in l1 16 = true then some (V2.2.1 152 l1.toNatClampNeg, V2) else none) else (some ((-2 : Int64), V2))))))))
set_option maxRecDepth 20000 in
theorem t_X12_table {g : sx_G} (hG : sx_Go g) {P : Option Value → sv_V → Prop} {r : Int64} {Vr : sv_V} (hP : P (some (.long r)) Vr) {l1 : Int32} {l2 : Int32} {V : sv_V} (h : F_X12_table l1 l2 V = some (r, Vr)) : sv_N g qX12_table 1 0 [(0, .ref 146), (1, .int l1), (2, .int l2)] [] V P := by
  unfold F_X12_table at h
  refine sx_aload_n (pc := 0) dX12_table_0 sx_m0 ?_
  refine sv_getZ (pc := 1) hG dX12_table_1 f_12_759 lay_146 rfl ?_
  refine sx_if_ne (pc := 4) (tgt := 11) dX12_table_4 (by decide) (fun c1 => ?_) (fun c1 => ?_)
  · have h := sx_neg c1 h
    refine sx_iload_n (pc := 11) dX12_table_11 sx_m1 ?_
    refine sx_i2l (pc := 12) dX12_table_12 ?_
    refine sx_lconst (pc := 13) (v := 0) dX12_table_13 rfl ?_
    refine sx_aload_n (pc := 14) dX12_table_14 sx_m0 ?_
    refine sv_getI (pc := 15) hG dX12_table_15 f_12_216 lay_146 rfl ?_
    refine sx_iconst (pc := 18) (v := 1) dX12_table_18 (by decide) ?_
    refine sx_isub (pc := 19) dX12_table_19 ?_
    refine sx_i2l (pc := 20) dX12_table_20 ?_
    obtain ⟨⟨x4, V2⟩, g3, h⟩ := sx_bnd h
    refine sv_cS (pc := 21) (y := qX12_in) (o := (some (.int x4))) (as := [.long l1.toInt64, .long (0 : Int64), .long (((V.1 146 5) - (1 : Int32)).toInt64)]) (V1 := V2) dX12_table_21 l_X12_263 y0X12_in ysX12_in rfl (Nat.le_of_ble_eq_true rfl) (by decide) (Nat.le_of_ble_eq_true rfl) rfl rfl rfl (t_X12_in hG ⟨rfl, rfl⟩ g3) ?_
    refine sx_if_ne (pc := 24) (tgt := 31) dX12_table_24 (by decide) (fun c5 => ?_) (fun c5 => ?_)
    · have h := sx_neg c5 h
      refine sx_iload_n (pc := 31) dX12_table_31 sx_m2 ?_
      refine sx_if_ne (pc := 32) (tgt := 49) dX12_table_32 (by decide) (fun c6 => ?_) (fun c6 => ?_)
      · have h := sx_neg c6 h
        refine sx_iload_n (pc := 49) dX12_table_49 sx_m2 ?_
        refine sx_iconst (pc := 50) (v := 1) dX12_table_50 (by decide) ?_
        refine sx_icmp_ne (pc := 51) (tgt := 63) dX12_table_51 (by decide) (fun c7 => ?_) (fun c7 => ?_)
        · have h := sx_neg c7 h
          refine sx_iload_n (pc := 63) dX12_table_63 sx_m2 ?_
          refine sx_iconst (pc := 64) (v := 2) dX12_table_64 (by decide) ?_
          refine sx_icmp_ne (pc := 65) (tgt := 77) dX12_table_65 (by decide) (fun c8 => ?_) (fun c8 => ?_)
          · have h := sx_neg c8 h
            refine sx_iload_n (pc := 77) dX12_table_77 sx_m2 ?_
            refine sx_iconst (pc := 78) (v := 3) dX12_table_78 (by decide) ?_
            refine sx_icmp_ne (pc := 79) (tgt := 91) dX12_table_79 (by decide) (fun c9 => ?_) (fun c9 => ?_)
            · have h := sx_neg c9 h
              refine sx_ldc2 (pc := 91) dX12_table_91 k_X12_920 ?_
              exact sv_lret (pc := 94) dX12_table_94 rfl h hP
            · have h := sx_pos c9 h
              refine sx_aload_n (pc := 82) dX12_table_82 sx_m0 ?_
              refine sv_getA (pc := 83) hG dX12_table_83 f_12_27 lay_146 rfl cr_146_9 ?_
              refine sx_iload_n (pc := 86) dX12_table_86 sx_m1 ?_
              obtain ⟨g10, h⟩ := sx_grd h
              refine sv_lald (pc := 87) hG dX12_table_87 lay_152 g10 ?_
              refine sx_goto (pc := 88) (tgt := 94) dX12_table_88 (by decide) ?_
              exact sv_lret (pc := 94) dX12_table_94 rfl h hP
          · have h := sx_pos c8 h
            refine sx_aload_n (pc := 68) dX12_table_68 sx_m0 ?_
            refine sv_getA (pc := 69) hG dX12_table_69 f_12_24 lay_146 rfl cr_146_8 ?_
            refine sx_iload_n (pc := 72) dX12_table_72 sx_m1 ?_
            obtain ⟨g11, h⟩ := sx_grd h
            refine sv_lald (pc := 73) hG dX12_table_73 lay_151 g11 ?_
            refine sx_goto (pc := 74) (tgt := 94) dX12_table_74 (by decide) ?_
            exact sv_lret (pc := 94) dX12_table_94 rfl h hP
        · have h := sx_pos c7 h
          refine sx_aload_n (pc := 54) dX12_table_54 sx_m0 ?_
          refine sv_getA (pc := 55) hG dX12_table_55 f_12_20 lay_146 rfl cr_146_7 ?_
          refine sx_iload_n (pc := 58) dX12_table_58 sx_m1 ?_
          obtain ⟨g12, h⟩ := sx_grd h
          refine sv_lald (pc := 59) hG dX12_table_59 lay_150 g12 ?_
          refine sx_goto (pc := 60) (tgt := 94) dX12_table_60 (by decide) ?_
          exact sv_lret (pc := 94) dX12_table_94 rfl h hP
      · have h := sx_pos c6 h
        refine sx_aload_n (pc := 35) dX12_table_35 sx_m0 ?_
        refine sv_getA (pc := 36) hG dX12_table_36 f_12_16 lay_146 rfl cr_146_6 ?_
        refine sx_iload_n (pc := 39) dX12_table_39 sx_m1 ?_
        obtain ⟨g13, h⟩ := sx_grd h
        refine sv_iald (pc := 40) hG dX12_table_40 lay_149 g13 ?_
        refine sx_i2l (pc := 41) dX12_table_41 ?_
        refine sx_ldc2 (pc := 42) dX12_table_42 k_X12_226 ?_
        refine sx_land (pc := 45) dX12_table_45 ?_
        refine sx_goto (pc := 46) (tgt := 94) dX12_table_46 (by decide) ?_
        exact sv_lret (pc := 94) dX12_table_94 rfl h hP
    · have h := sx_pos c5 h
      refine sx_ldc2 (pc := 27) dX12_table_27 k_X12_918 ?_
      exact sv_lret (pc := 30) dX12_table_30 rfl h hP
  · have h := sx_pos c1 h
    refine sx_ldc2 (pc := 7) dX12_table_7 k_X12_916 ?_
    exact sv_lret (pc := 10) dX12_table_10 rfl h hP
def ncX12_glyphOf : Nat := 20031155116437945746678358052305641189663703554440763823805042833128283065988138
theorem kcX12_glyphOf : CK cX12_glyphOf ncX12_glyphOf 33 := ⟨by decide +kernel, by decide +kernel⟩
theorem dX12_glyphOf_0 : decode cX12_glyphOf 0 = .ok (.aload_n 0, 1) := dl_o42 kcX12_glyphOf (by decide +kernel)
theorem dX12_glyphOf_1 : decode cX12_glyphOf 1 = .ok (.getfield 759, 3) := dl_o180 kcX12_glyphOf (by decide +kernel)
theorem dX12_glyphOf_4 : decode cX12_glyphOf 4 = .ok (.ifCond .ne 6, 3) := dl_o154 kcX12_glyphOf 6 (by decide +kernel) (by decide +kernel)
theorem dX12_glyphOf_7 : decode cX12_glyphOf 7 = .ok (.bipush (-3), 2) := dl_o16 kcX12_glyphOf 253 (by decide +kernel) (by decide +kernel)
theorem dX12_glyphOf_9 : decode cX12_glyphOf 9 = .ok (.ireturn, 1) := dl_o172 kcX12_glyphOf (by decide +kernel)
theorem dX12_glyphOf_10 : decode cX12_glyphOf 10 = .ok (.iload_n 1, 1) := dl_o27 kcX12_glyphOf (by decide +kernel)
theorem dX12_glyphOf_11 : decode cX12_glyphOf 11 = .ok (.i2l, 1) := dl_o133 kcX12_glyphOf (by decide +kernel)
theorem dX12_glyphOf_12 : decode cX12_glyphOf 12 = .ok (.lconst 0, 1) := dl_o9 kcX12_glyphOf (by decide +kernel)
theorem dX12_glyphOf_13 : decode cX12_glyphOf 13 = .ok (.ldc2_w 894, 3) := dl_o20 kcX12_glyphOf (by decide +kernel)
theorem dX12_glyphOf_16 : decode cX12_glyphOf 16 = .ok (.invokestatic 263, 3) := dl_o184 kcX12_glyphOf (by decide +kernel)
theorem dX12_glyphOf_19 : decode cX12_glyphOf 19 = .ok (.ifCond .eq 11, 3) := dl_o153 kcX12_glyphOf 11 (by decide +kernel) (by decide +kernel)
theorem dX12_glyphOf_22 : decode cX12_glyphOf 22 = .ok (.aload_n 0, 1) := dl_o42 kcX12_glyphOf (by decide +kernel)
theorem dX12_glyphOf_23 : decode cX12_glyphOf 23 = .ok (.iload_n 1, 1) := dl_o27 kcX12_glyphOf (by decide +kernel)
theorem dX12_glyphOf_24 : decode cX12_glyphOf 24 = .ok (.invokevirtual 902, 3) := dl_o182 kcX12_glyphOf (by decide +kernel)
theorem dX12_glyphOf_27 : decode cX12_glyphOf 27 = .ok (.goto 5, 3) := dl_o167 kcX12_glyphOf 5 (by decide +kernel) (by decide +kernel)
theorem dX12_glyphOf_30 : decode cX12_glyphOf 30 = .ok (.bipush (-2), 2) := dl_o16 kcX12_glyphOf 254 (by decide +kernel) (by decide +kernel)
theorem dX12_glyphOf_32 : decode cX12_glyphOf 32 = .ok (.ireturn, 1) := dl_o172 kcX12_glyphOf (by decide +kernel)
def F_X12_glyphOf (N : Nat) (l1 : Int32) (V : sv_V) : Option (Int32 × sv_V) := if (V.1 146 4) = 0 then (some ((-3 : Int32), V)) else ((F_X12_in l1.toInt64 (0 : Int64) (1114111 : Int64) V).bind (fun (x4, V2) => if x4 = 0 then (some ((-2 : Int32), V2)) else ((F_X12_glyphAt N l1 V2).bind (fun (x8, V6) => some (x8, V6)))))
set_option maxRecDepth 20000 in
theorem t_X12_glyphOf {g : sx_G} (hG : sx_Go g) {P : Option Value → sv_V → Prop} {r : Int32} {Vr : sv_V} (hP : P (some (.int r)) Vr) {N : Nat} {l1 : Int32} {V : sv_V} (h : F_X12_glyphOf N l1 V = some (r, Vr)) : sv_N g qX12_glyphOf 5 0 [(0, .ref 146), (1, .int l1)] [] V P := by
  unfold F_X12_glyphOf at h
  refine sx_aload_n (pc := 0) dX12_glyphOf_0 sx_m0 ?_
  refine sv_getZ (pc := 1) hG dX12_glyphOf_1 f_12_759 lay_146 rfl ?_
  refine sx_if_ne (pc := 4) (tgt := 10) dX12_glyphOf_4 (by decide) (fun c1 => ?_) (fun c1 => ?_)
  · have h := sx_neg c1 h
    refine sx_iload_n (pc := 10) dX12_glyphOf_10 sx_m1 ?_
    refine sx_i2l (pc := 11) dX12_glyphOf_11 ?_
    refine sx_lconst (pc := 12) (v := 0) dX12_glyphOf_12 rfl ?_
    refine sx_ldc2 (pc := 13) dX12_glyphOf_13 k_X12_894 ?_
    obtain ⟨⟨x4, V2⟩, g3, h⟩ := sx_bnd h
    refine sv_cS (pc := 16) (y := qX12_in) (o := (some (.int x4))) (as := [.long l1.toInt64, .long (0 : Int64), .long (1114111 : Int64)]) (V1 := V2) dX12_glyphOf_16 l_X12_263 y0X12_in ysX12_in rfl (Nat.le_of_ble_eq_true rfl) (by decide) (Nat.le_of_ble_eq_true rfl) rfl rfl rfl (t_X12_in hG ⟨rfl, rfl⟩ g3) ?_
    refine sx_if_eq (pc := 19) (tgt := 30) dX12_glyphOf_19 (by decide) (fun c5 => ?_) (fun c5 => ?_)
    · have h := sx_pos c5 h
      refine sx_bipush (pc := 30) (v := (-2)) dX12_glyphOf_30 (by decide) ?_
      exact sv_iret (pc := 32) dX12_glyphOf_32 rfl h hP
    · have h := sx_neg c5 h
      refine sx_aload_n (pc := 22) dX12_glyphOf_22 sx_m0 ?_
      refine sx_iload_n (pc := 23) dX12_glyphOf_23 sx_m1 ?_
      obtain ⟨⟨x8, V6⟩, g7, h⟩ := sx_bnd h
      refine sv_cV (pc := 24) (y := qX12_glyphAt) (o := (some (.int x8))) (as := [.int l1]) (V1 := V6) hG dX12_glyphOf_24 l_X12_902 y0X12_glyphAt yvX12_glyphAt rfl (Nat.le_of_ble_eq_true rfl) lay_146 kr_12 (by decide) (Nat.le_of_ble_eq_true rfl) rfl rfl rfl (t_X12_glyphAt hG ⟨rfl, rfl⟩ g7) ?_
      refine sx_goto (pc := 27) (tgt := 32) dX12_glyphOf_27 (by decide) ?_
      exact sv_iret (pc := 32) dX12_glyphOf_32 rfl h hP
  · have h := sx_pos c1 h
    refine sx_bipush (pc := 7) (v := (-3)) dX12_glyphOf_7 (by decide) ?_
    exact sv_iret (pc := 9) dX12_glyphOf_9 rfl h hP
def ncX12_kern : Nat := 29108948865310542649932713494812326402809121120194646445294970549634730189845929014461764704747559891027206157096017571457709098
theorem kcX12_kern : CK cX12_kern ncX12_kern 53 := ⟨by decide +kernel, by decide +kernel⟩
theorem dX12_kern_0 : decode cX12_kern 0 = .ok (.aload_n 0, 1) := dl_o42 kcX12_kern (by decide +kernel)
theorem dX12_kern_1 : decode cX12_kern 1 = .ok (.getfield 759, 3) := dl_o180 kcX12_kern (by decide +kernel)
theorem dX12_kern_4 : decode cX12_kern 4 = .ok (.ifCond .ne 6, 3) := dl_o154 kcX12_kern 6 (by decide +kernel) (by decide +kernel)
theorem dX12_kern_7 : decode cX12_kern 7 = .ok (.bipush (-3), 2) := dl_o16 kcX12_kern 253 (by decide +kernel) (by decide +kernel)
theorem dX12_kern_9 : decode cX12_kern 9 = .ok (.ireturn, 1) := dl_o172 kcX12_kern (by decide +kernel)
theorem dX12_kern_10 : decode cX12_kern 10 = .ok (.iload_n 1, 1) := dl_o27 kcX12_kern (by decide +kernel)
theorem dX12_kern_11 : decode cX12_kern 11 = .ok (.i2l, 1) := dl_o133 kcX12_kern (by decide +kernel)
theorem dX12_kern_12 : decode cX12_kern 12 = .ok (.lconst 0, 1) := dl_o9 kcX12_kern (by decide +kernel)
theorem dX12_kern_13 : decode cX12_kern 13 = .ok (.aload_n 0, 1) := dl_o42 kcX12_kern (by decide +kernel)
theorem dX12_kern_14 : decode cX12_kern 14 = .ok (.getfield 260, 3) := dl_o180 kcX12_kern (by decide +kernel)
theorem dX12_kern_17 : decode cX12_kern 17 = .ok (.iconst 1, 1) := dl_o4 kcX12_kern (by decide +kernel)
theorem dX12_kern_18 : decode cX12_kern 18 = .ok (.isub, 1) := dl_o100 kcX12_kern (by decide +kernel)
theorem dX12_kern_19 : decode cX12_kern 19 = .ok (.i2l, 1) := dl_o133 kcX12_kern (by decide +kernel)
theorem dX12_kern_20 : decode cX12_kern 20 = .ok (.invokestatic 263, 3) := dl_o184 kcX12_kern (by decide +kernel)
theorem dX12_kern_23 : decode cX12_kern 23 = .ok (.ifCond .eq 28, 3) := dl_o153 kcX12_kern 28 (by decide +kernel) (by decide +kernel)
theorem dX12_kern_26 : decode cX12_kern 26 = .ok (.iload_n 2, 1) := dl_o28 kcX12_kern (by decide +kernel)
theorem dX12_kern_27 : decode cX12_kern 27 = .ok (.i2l, 1) := dl_o133 kcX12_kern (by decide +kernel)
theorem dX12_kern_28 : decode cX12_kern 28 = .ok (.lconst 0, 1) := dl_o9 kcX12_kern (by decide +kernel)
theorem dX12_kern_29 : decode cX12_kern 29 = .ok (.aload_n 0, 1) := dl_o42 kcX12_kern (by decide +kernel)
theorem dX12_kern_30 : decode cX12_kern 30 = .ok (.getfield 260, 3) := dl_o180 kcX12_kern (by decide +kernel)
theorem dX12_kern_33 : decode cX12_kern 33 = .ok (.iconst 1, 1) := dl_o4 kcX12_kern (by decide +kernel)
theorem dX12_kern_34 : decode cX12_kern 34 = .ok (.isub, 1) := dl_o100 kcX12_kern (by decide +kernel)
theorem dX12_kern_35 : decode cX12_kern 35 = .ok (.i2l, 1) := dl_o133 kcX12_kern (by decide +kernel)
theorem dX12_kern_36 : decode cX12_kern 36 = .ok (.invokestatic 263, 3) := dl_o184 kcX12_kern (by decide +kernel)
theorem dX12_kern_39 : decode cX12_kern 39 = .ok (.ifCond .eq 12, 3) := dl_o153 kcX12_kern 12 (by decide +kernel) (by decide +kernel)
theorem dX12_kern_42 : decode cX12_kern 42 = .ok (.aload_n 0, 1) := dl_o42 kcX12_kern (by decide +kernel)
theorem dX12_kern_43 : decode cX12_kern 43 = .ok (.iload_n 1, 1) := dl_o27 kcX12_kern (by decide +kernel)
theorem dX12_kern_44 : decode cX12_kern 44 = .ok (.iload_n 2, 1) := dl_o28 kcX12_kern (by decide +kernel)
theorem dX12_kern_45 : decode cX12_kern 45 = .ok (.invokevirtual 905, 3) := dl_o182 kcX12_kern (by decide +kernel)
theorem dX12_kern_48 : decode cX12_kern 48 = .ok (.goto 4, 3) := dl_o167 kcX12_kern 4 (by decide +kernel) (by decide +kernel)
theorem dX12_kern_51 : decode cX12_kern 51 = .ok (.iconst (-1), 1) := dl_o2 kcX12_kern (by decide +kernel)
theorem dX12_kern_52 : decode cX12_kern 52 = .ok (.ireturn, 1) := dl_o172 kcX12_kern (by decide +kernel)
def F_X12_kern (N : Nat) (l1 : Int32) (l2 : Int32) (V : sv_V) : Option (Int32 × sv_V) := if (V.1 146 4) = 0 then (some ((-3 : Int32), V)) else ((F_X12_in l1.toInt64 (0 : Int64) (((V.1 146 12) - (1 : Int32)).toInt64) V).bind (fun (x4, V2) => if x4 = 0 then (some ((-1 : Int32), V2)) else ((F_X12_in l2.toInt64 (0 : Int64) (((V2.1 146 12) - (1 : Int32)).toInt64) V2).bind (fun (x8, V6) => if x8 = 0 then (some ((-1 : Int32), V6)) else ((F_X12_kernOf N l1 l2 V6).bind (fun (x12, V10) => some (x12, V10)))))))
set_option maxRecDepth 20000 in
theorem t_X12_kern {g : sx_G} (hG : sx_Go g) {P : Option Value → sv_V → Prop} {r : Int32} {Vr : sv_V} (hP : P (some (.int r)) Vr) {N : Nat} {l1 : Int32} {l2 : Int32} {V : sv_V} (h : F_X12_kern N l1 l2 V = some (r, Vr)) : sv_N g qX12_kern 4 0 [(0, .ref 146), (1, .int l1), (2, .int l2)] [] V P := by
  unfold F_X12_kern at h
  refine sx_aload_n (pc := 0) dX12_kern_0 sx_m0 ?_
  refine sv_getZ (pc := 1) hG dX12_kern_1 f_12_759 lay_146 rfl ?_
  refine sx_if_ne (pc := 4) (tgt := 10) dX12_kern_4 (by decide) (fun c1 => ?_) (fun c1 => ?_)
  · have h := sx_neg c1 h
    refine sx_iload_n (pc := 10) dX12_kern_10 sx_m1 ?_
    refine sx_i2l (pc := 11) dX12_kern_11 ?_
    refine sx_lconst (pc := 12) (v := 0) dX12_kern_12 rfl ?_
    refine sx_aload_n (pc := 13) dX12_kern_13 sx_m0 ?_
    refine sv_getI (pc := 14) hG dX12_kern_14 f_12_260 lay_146 rfl ?_
    refine sx_iconst (pc := 17) (v := 1) dX12_kern_17 (by decide) ?_
    refine sx_isub (pc := 18) dX12_kern_18 ?_
    refine sx_i2l (pc := 19) dX12_kern_19 ?_
    obtain ⟨⟨x4, V2⟩, g3, h⟩ := sx_bnd h
    refine sv_cS (pc := 20) (y := qX12_in) (o := (some (.int x4))) (as := [.long l1.toInt64, .long (0 : Int64), .long (((V.1 146 12) - (1 : Int32)).toInt64)]) (V1 := V2) dX12_kern_20 l_X12_263 y0X12_in ysX12_in rfl (Nat.le_of_ble_eq_true rfl) (by decide) (Nat.le_of_ble_eq_true rfl) rfl rfl rfl (t_X12_in hG ⟨rfl, rfl⟩ g3) ?_
    refine sx_if_eq (pc := 23) (tgt := 51) dX12_kern_23 (by decide) (fun c5 => ?_) (fun c5 => ?_)
    · have h := sx_pos c5 h
      refine sx_iconst (pc := 51) (v := (-1)) dX12_kern_51 (by decide) ?_
      exact sv_iret (pc := 52) dX12_kern_52 rfl h hP
    · have h := sx_neg c5 h
      refine sx_iload_n (pc := 26) dX12_kern_26 sx_m2 ?_
      refine sx_i2l (pc := 27) dX12_kern_27 ?_
      refine sx_lconst (pc := 28) (v := 0) dX12_kern_28 rfl ?_
      refine sx_aload_n (pc := 29) dX12_kern_29 sx_m0 ?_
      refine sv_getI (pc := 30) hG dX12_kern_30 f_12_260 lay_146 rfl ?_
      refine sx_iconst (pc := 33) (v := 1) dX12_kern_33 (by decide) ?_
      refine sx_isub (pc := 34) dX12_kern_34 ?_
      refine sx_i2l (pc := 35) dX12_kern_35 ?_
      obtain ⟨⟨x8, V6⟩, g7, h⟩ := sx_bnd h
      refine sv_cS (pc := 36) (y := qX12_in) (o := (some (.int x8))) (as := [.long l2.toInt64, .long (0 : Int64), .long (((V2.1 146 12) - (1 : Int32)).toInt64)]) (V1 := V6) dX12_kern_36 l_X12_263 y0X12_in ysX12_in rfl (Nat.le_of_ble_eq_true rfl) (by decide) (Nat.le_of_ble_eq_true rfl) rfl rfl rfl (t_X12_in hG ⟨rfl, rfl⟩ g7) ?_
      refine sx_if_eq (pc := 39) (tgt := 51) dX12_kern_39 (by decide) (fun c9 => ?_) (fun c9 => ?_)
      · have h := sx_pos c9 h
        refine sx_iconst (pc := 51) (v := (-1)) dX12_kern_51 (by decide) ?_
        exact sv_iret (pc := 52) dX12_kern_52 rfl h hP
      · have h := sx_neg c9 h
        refine sx_aload_n (pc := 42) dX12_kern_42 sx_m0 ?_
        refine sx_iload_n (pc := 43) dX12_kern_43 sx_m1 ?_
        refine sx_iload_n (pc := 44) dX12_kern_44 sx_m2 ?_
        obtain ⟨⟨x12, V10⟩, g11, h⟩ := sx_bnd h
        refine sv_cV (pc := 45) (y := qX12_kernOf) (o := (some (.int x12))) (as := [.int l1, .int l2]) (V1 := V10) hG dX12_kern_45 l_X12_905 y0X12_kernOf yvX12_kernOf rfl (Nat.le_of_ble_eq_true rfl) lay_146 kr_12 (by decide) (Nat.le_of_ble_eq_true rfl) rfl rfl rfl (t_X12_kernOf hG ⟨rfl, rfl⟩ g11) ?_
        refine sx_goto (pc := 48) (tgt := 52) dX12_kern_48 (by decide) ?_
        exact sv_iret (pc := 52) dX12_kern_52 rfl h hP
  · have h := sx_pos c1 h
    refine sx_bipush (pc := 7) (v := (-3)) dX12_kern_7 (by decide) ?_
    exact sv_iret (pc := 9) dX12_kern_9 rfl h hP
def ncX12_point : Nat := 75168286670338103214085298216621731527884038583015394494739295912495597007063729107554915283828417061360910337279834389979682210005702025172252514151995336478359235787379329539484149843513981785454350544625616462034481947366132226429754671464887338
theorem kcX12_point : CK cX12_point ncX12_point 103 := ⟨by decide +kernel, by decide +kernel⟩
theorem dX12_point_0 : decode cX12_point 0 = .ok (.aload_n 0, 1) := dl_o42 kcX12_point (by decide +kernel)
theorem dX12_point_1 : decode cX12_point 1 = .ok (.getfield 764, 3) := dl_o180 kcX12_point (by decide +kernel)
theorem dX12_point_4 : decode cX12_point 4 = .ok (.ifCond .eq 19, 3) := dl_o153 kcX12_point 19 (by decide +kernel) (by decide +kernel)
theorem dX12_point_7 : decode cX12_point 7 = .ok (.iload_n 1, 1) := dl_o27 kcX12_point (by decide +kernel)
theorem dX12_point_8 : decode cX12_point 8 = .ok (.i2l, 1) := dl_o133 kcX12_point (by decide +kernel)
theorem dX12_point_9 : decode cX12_point 9 = .ok (.lconst 0, 1) := dl_o9 kcX12_point (by decide +kernel)
theorem dX12_point_10 : decode cX12_point 10 = .ok (.aload_n 0, 1) := dl_o42 kcX12_point (by decide +kernel)
theorem dX12_point_11 : decode cX12_point 11 = .ok (.getfield 823, 3) := dl_o180 kcX12_point (by decide +kernel)
theorem dX12_point_14 : decode cX12_point 14 = .ok (.iconst 1, 1) := dl_o4 kcX12_point (by decide +kernel)
theorem dX12_point_15 : decode cX12_point 15 = .ok (.isub, 1) := dl_o100 kcX12_point (by decide +kernel)
theorem dX12_point_16 : decode cX12_point 16 = .ok (.i2l, 1) := dl_o133 kcX12_point (by decide +kernel)
theorem dX12_point_17 : decode cX12_point 17 = .ok (.invokestatic 263, 3) := dl_o184 kcX12_point (by decide +kernel)
theorem dX12_point_20 : decode cX12_point 20 = .ok (.ifCond .ne 5, 3) := dl_o154 kcX12_point 5 (by decide +kernel) (by decide +kernel)
theorem dX12_point_23 : decode cX12_point 23 = .ok (.iconst 0, 1) := dl_o3 kcX12_point (by decide +kernel)
theorem dX12_point_24 : decode cX12_point 24 = .ok (.ireturn, 1) := dl_o172 kcX12_point (by decide +kernel)
theorem dX12_point_25 : decode cX12_point 25 = .ok (.iconst 0, 1) := dl_o3 kcX12_point (by decide +kernel)
theorem dX12_point_26 : decode cX12_point 26 = .ok (.istore_n 3, 1) := dl_o62 kcX12_point (by decide +kernel)
theorem dX12_point_27 : decode cX12_point 27 = .ok (.aload_n 0, 1) := dl_o42 kcX12_point (by decide +kernel)
theorem dX12_point_28 : decode cX12_point 28 = .ok (.getfield 176, 3) := dl_o180 kcX12_point (by decide +kernel)
theorem dX12_point_31 : decode cX12_point 31 = .ok (.iload_n 3, 1) := dl_o29 kcX12_point (by decide +kernel)
theorem dX12_point_32 : decode cX12_point 32 = .ok (.iaload, 1) := dl_o46 kcX12_point (by decide +kernel)
theorem dX12_point_33 : decode cX12_point 33 = .ok (.iload_n 1, 1) := dl_o27 kcX12_point (by decide +kernel)
theorem dX12_point_34 : decode cX12_point 34 = .ok (.if_icmp .ge 9, 3) := dl_o162 kcX12_point 9 (by decide +kernel) (by decide +kernel)
theorem dX12_point_37 : decode cX12_point 37 = .ok (.iinc 3 1, 3) := by decide +kernel
theorem dX12_point_40 : decode cX12_point 40 = .ok (.goto (-13), 3) := dl_o167 kcX12_point 65523 (by decide +kernel) (by decide +kernel)
theorem dX12_point_43 : decode cX12_point 43 = .ok (.iload_n 2, 1) := dl_o28 kcX12_point (by decide +kernel)
theorem dX12_point_44 : decode cX12_point 44 = .ok (.ifCond .ne 12, 3) := dl_o154 kcX12_point 12 (by decide +kernel) (by decide +kernel)
theorem dX12_point_47 : decode cX12_point 47 = .ok (.aload_n 0, 1) := dl_o42 kcX12_point (by decide +kernel)
theorem dX12_point_48 : decode cX12_point 48 = .ok (.getfield 167, 3) := dl_o180 kcX12_point (by decide +kernel)
theorem dX12_point_51 : decode cX12_point 51 = .ok (.iload_n 1, 1) := dl_o27 kcX12_point (by decide +kernel)
theorem dX12_point_52 : decode cX12_point 52 = .ok (.iaload, 1) := dl_o46 kcX12_point (by decide +kernel)
theorem dX12_point_53 : decode cX12_point 53 = .ok (.goto 49, 3) := dl_o167 kcX12_point 49 (by decide +kernel) (by decide +kernel)
theorem dX12_point_56 : decode cX12_point 56 = .ok (.iload_n 2, 1) := dl_o28 kcX12_point (by decide +kernel)
theorem dX12_point_57 : decode cX12_point 57 = .ok (.iconst 1, 1) := dl_o4 kcX12_point (by decide +kernel)
theorem dX12_point_58 : decode cX12_point 58 = .ok (.if_icmp .ne 12, 3) := dl_o160 kcX12_point 12 (by decide +kernel) (by decide +kernel)
theorem dX12_point_61 : decode cX12_point 61 = .ok (.aload_n 0, 1) := dl_o42 kcX12_point (by decide +kernel)
theorem dX12_point_62 : decode cX12_point 62 = .ok (.getfield 170, 3) := dl_o180 kcX12_point (by decide +kernel)
theorem dX12_point_65 : decode cX12_point 65 = .ok (.iload_n 1, 1) := dl_o27 kcX12_point (by decide +kernel)
theorem dX12_point_66 : decode cX12_point 66 = .ok (.iaload, 1) := dl_o46 kcX12_point (by decide +kernel)
theorem dX12_point_67 : decode cX12_point 67 = .ok (.goto 35, 3) := dl_o167 kcX12_point 35 (by decide +kernel) (by decide +kernel)
theorem dX12_point_70 : decode cX12_point 70 = .ok (.iload_n 2, 1) := dl_o28 kcX12_point (by decide +kernel)
theorem dX12_point_71 : decode cX12_point 71 = .ok (.iconst 2, 1) := dl_o5 kcX12_point (by decide +kernel)
theorem dX12_point_72 : decode cX12_point 72 = .ok (.if_icmp .ne 20, 3) := dl_o160 kcX12_point 20 (by decide +kernel) (by decide +kernel)
theorem dX12_point_75 : decode cX12_point 75 = .ok (.aload_n 0, 1) := dl_o42 kcX12_point (by decide +kernel)
theorem dX12_point_76 : decode cX12_point 76 = .ok (.getfield 173, 3) := dl_o180 kcX12_point (by decide +kernel)
theorem dX12_point_79 : decode cX12_point 79 = .ok (.iload_n 1, 1) := dl_o27 kcX12_point (by decide +kernel)
theorem dX12_point_80 : decode cX12_point 80 = .ok (.baload, 1) := dl_o51 kcX12_point (by decide +kernel)
theorem dX12_point_81 : decode cX12_point 81 = .ok (.ifCond .eq 7, 3) := dl_o153 kcX12_point 7 (by decide +kernel) (by decide +kernel)
theorem dX12_point_84 : decode cX12_point 84 = .ok (.iconst 1, 1) := dl_o4 kcX12_point (by decide +kernel)
theorem dX12_point_85 : decode cX12_point 85 = .ok (.goto 17, 3) := dl_o167 kcX12_point 17 (by decide +kernel) (by decide +kernel)
theorem dX12_point_88 : decode cX12_point 88 = .ok (.iconst 0, 1) := dl_o3 kcX12_point (by decide +kernel)
theorem dX12_point_89 : decode cX12_point 89 = .ok (.goto 13, 3) := dl_o167 kcX12_point 13 (by decide +kernel) (by decide +kernel)
theorem dX12_point_92 : decode cX12_point 92 = .ok (.iload_n 2, 1) := dl_o28 kcX12_point (by decide +kernel)
theorem dX12_point_93 : decode cX12_point 93 = .ok (.iconst 3, 1) := dl_o6 kcX12_point (by decide +kernel)
theorem dX12_point_94 : decode cX12_point 94 = .ok (.if_icmp .ne 7, 3) := dl_o160 kcX12_point 7 (by decide +kernel) (by decide +kernel)
theorem dX12_point_97 : decode cX12_point 97 = .ok (.iload_n 3, 1) := dl_o29 kcX12_point (by decide +kernel)
theorem dX12_point_98 : decode cX12_point 98 = .ok (.goto 4, 3) := dl_o167 kcX12_point 4 (by decide +kernel) (by decide +kernel)
theorem dX12_point_101 : decode cX12_point 101 = .ok (.iconst 0, 1) := dl_o3 kcX12_point (by decide +kernel)
theorem dX12_point_102 : decode cX12_point 102 = .ok (.ireturn, 1) := dl_o172 kcX12_point (by decide +kernel)
def B_X12_point_27 (N : Nat) (k27 : Int32 → Int32 → Int32 → sv_V → Option (Int32 × sv_V)) (l1 : Int32) (l2 : Int32) (l3 : Int32) (V : sv_V) : Option (Int32 × sv_V) := if sx_in l3 20 = true then if l1 ≤ (V.1 200 l3.toNatClampNeg) then (if l2 = 0 then (if sx_in l1 100 = true then some (V.1 197 l1.toNatClampNeg, V) else none) else (if l2 = (1 : Int32) then (if sx_in l1 100 = true then some (V.1 198 l1.toNatClampNeg, V) else none) else (if l2 = (2 : Int32) then (if sx_in l1 100 = true then if (V.1 199 l1.toNatClampNeg) = 0 then (some ((0 : Int32), V)) else (some ((1 : Int32), V)) else none) else (if l2 = (3 : Int32) then (some (l3, V)) else (some ((0 : Int32), V)))))) else (sx_let (l3 + 1) (fun x11 => k27 l1 l2 x11 V)) else none
set_option maxRecDepth 20000 in
theorem tB_X12_point_27 {g : sx_G} (hG : sx_Go g) {P : Option Value → sv_V → Prop} {r : Int32} {Vr : sv_V} (hP : P (some (.int r)) Vr) {N : Nat} {k27 : Int32 → Int32 → Int32 → sv_V → Option (Int32 × sv_V)} (hk27 : ∀ (l1 : Int32) (l2 : Int32) (l3 : Int32) (V : sv_V), k27 l1 l2 l3 V = some (r, Vr) → sv_N g qX12_point 1 27 [(0, .ref 146), (1, .int l1), (2, .int l2), (3, .int l3)] [] V P) {l1 : Int32} {l2 : Int32} {l3 : Int32} {V : sv_V} (h : B_X12_point_27 N k27 l1 l2 l3 V = some (r, Vr)) : sv_N g qX12_point 1 27 [(0, .ref 146), (1, .int l1), (2, .int l2), (3, .int l3)] [] V P := by
  unfold B_X12_point_27 at h
  refine sx_aload_n (pc := 27) dX12_point_27 sx_m0 ?_
  refine sv_getA (pc := 28) hG dX12_point_28 f_12_176 lay_146 rfl cr_146_133 ?_
  refine sx_iload_n (pc := 31) dX12_point_31 sx_m3 ?_
  obtain ⟨g1, h⟩ := sx_grd h
  refine sv_iald (pc := 32) hG dX12_point_32 lay_200 g1 ?_
  refine sx_iload_n (pc := 33) dX12_point_33 sx_m1 ?_
  refine sx_icmp_ge (pc := 34) (tgt := 43) dX12_point_34 (by decide) (fun c2 => ?_) (fun c2 => ?_)
  · have h := sx_pos c2 h
    refine sx_iload_n (pc := 43) dX12_point_43 sx_m2 ?_
    refine sx_if_ne (pc := 44) (tgt := 56) dX12_point_44 (by decide) (fun c3 => ?_) (fun c3 => ?_)
    · have h := sx_neg c3 h
      refine sx_iload_n (pc := 56) dX12_point_56 sx_m2 ?_
      refine sx_iconst (pc := 57) (v := 1) dX12_point_57 (by decide) ?_
      refine sx_icmp_ne (pc := 58) (tgt := 70) dX12_point_58 (by decide) (fun c4 => ?_) (fun c4 => ?_)
      · have h := sx_neg c4 h
        refine sx_iload_n (pc := 70) dX12_point_70 sx_m2 ?_
        refine sx_iconst (pc := 71) (v := 2) dX12_point_71 (by decide) ?_
        refine sx_icmp_ne (pc := 72) (tgt := 92) dX12_point_72 (by decide) (fun c5 => ?_) (fun c5 => ?_)
        · have h := sx_neg c5 h
          refine sx_iload_n (pc := 92) dX12_point_92 sx_m2 ?_
          refine sx_iconst (pc := 93) (v := 3) dX12_point_93 (by decide) ?_
          refine sx_icmp_ne (pc := 94) (tgt := 101) dX12_point_94 (by decide) (fun c6 => ?_) (fun c6 => ?_)
          · have h := sx_neg c6 h
            refine sx_iconst (pc := 101) (v := 0) dX12_point_101 (by decide) ?_
            exact sv_iret (pc := 102) dX12_point_102 rfl h hP
          · have h := sx_pos c6 h
            refine sx_iload_n (pc := 97) dX12_point_97 sx_m3 ?_
            refine sx_goto (pc := 98) (tgt := 102) dX12_point_98 (by decide) ?_
            exact sv_iret (pc := 102) dX12_point_102 rfl h hP
        · have h := sx_pos c5 h
          refine sx_aload_n (pc := 75) dX12_point_75 sx_m0 ?_
          refine sv_getA (pc := 76) hG dX12_point_76 f_12_173 lay_146 rfl cr_146_132 ?_
          refine sx_iload_n (pc := 79) dX12_point_79 sx_m1 ?_
          obtain ⟨g7, h⟩ := sx_grd h
          refine sv_zald (pc := 80) hG dX12_point_80 lay_199 g7 ?_
          refine sx_if_eq (pc := 81) (tgt := 88) dX12_point_81 (by decide) (fun c8 => ?_) (fun c8 => ?_)
          · have h := sx_pos c8 h
            refine sx_iconst (pc := 88) (v := 0) dX12_point_88 (by decide) ?_
            refine sx_goto (pc := 89) (tgt := 102) dX12_point_89 (by decide) ?_
            exact sv_iret (pc := 102) dX12_point_102 rfl h hP
          · have h := sx_neg c8 h
            refine sx_iconst (pc := 84) (v := 1) dX12_point_84 (by decide) ?_
            refine sx_goto (pc := 85) (tgt := 102) dX12_point_85 (by decide) ?_
            exact sv_iret (pc := 102) dX12_point_102 rfl h hP
      · have h := sx_pos c4 h
        refine sx_aload_n (pc := 61) dX12_point_61 sx_m0 ?_
        refine sv_getA (pc := 62) hG dX12_point_62 f_12_170 lay_146 rfl cr_146_131 ?_
        refine sx_iload_n (pc := 65) dX12_point_65 sx_m1 ?_
        obtain ⟨g9, h⟩ := sx_grd h
        refine sv_iald (pc := 66) hG dX12_point_66 lay_198 g9 ?_
        refine sx_goto (pc := 67) (tgt := 102) dX12_point_67 (by decide) ?_
        exact sv_iret (pc := 102) dX12_point_102 rfl h hP
    · have h := sx_pos c3 h
      refine sx_aload_n (pc := 47) dX12_point_47 sx_m0 ?_
      refine sv_getA (pc := 48) hG dX12_point_48 f_12_167 lay_146 rfl cr_146_130 ?_
      refine sx_iload_n (pc := 51) dX12_point_51 sx_m1 ?_
      obtain ⟨g10, h⟩ := sx_grd h
      refine sv_iald (pc := 52) hG dX12_point_52 lay_197 g10 ?_
      refine sx_goto (pc := 53) (tgt := 102) dX12_point_53 (by decide) ?_
      exact sv_iret (pc := 102) dX12_point_102 rfl h hP
  · have h := sx_neg c2 h
    obtain ⟨x11, hx11⟩ : ∃ z : Int32, z = l3 + 1 := ⟨_, rfl⟩
    have h := sx_letE hx11 h
    refine sx_iinc (pc := 37) (v := x11) (lo' := [(3, .int x11), (0, .ref 146), (1, .int l1), (2, .int l2)]) dX12_point_37 sx_m3 (by rw [hx11]; rfl) (by decide) rfl ?_
    refine sx_goto (pc := 40) (tgt := 27) dX12_point_40 (by decide) ?_
    refine sx_wk (sx_s1 sx_m1 (sx_s1 sx_m2 (sx_s1 sx_m3 (sx_s1 sx_m0 sx_s0)))) ?_
    exact hk27 _ _ _ _ h
theorem tL_X12_point_27 {g : sx_G} (hG : sx_Go g) {P : Option Value → sv_V → Prop} {r : Int32} {Vr : sv_V} (hP : P (some (.int r)) Vr) {N : Nat}   : ∀ (n : Nat) (l1 : Int32) (l2 : Int32) (l3 : Int32) (V : sv_V), sx_lp4 (B_X12_point_27 N ) n l1 l2 l3 V = some (r, Vr) → sv_N g qX12_point 1 27 [(0, .ref 146), (1, .int l1), (2, .int l2), (3, .int l3)] [] V P :=
  sx_lp4_ind (fun k0 ih _ _ _ V h => tB_X12_point_27 hG hP ih h)
def F_X12_point (N : Nat) (l1 : Int32) (l2 : Int32) (V : sv_V) : Option (Int32 × sv_V) := if (V.1 146 108) = 0 then (some ((0 : Int32), V)) else ((F_X12_in l1.toInt64 (0 : Int64) (((V.1 146 128) - (1 : Int32)).toInt64) V).bind (fun (x15, V13) => if x15 = 0 then (some ((0 : Int32), V13)) else (sx_lp4 (B_X12_point_27 N ) N l1 l2 (0 : Int32) V13)))
set_option maxRecDepth 20000 in
theorem t_X12_point {g : sx_G} (hG : sx_Go g) {P : Option Value → sv_V → Prop} {r : Int32} {Vr : sv_V} (hP : P (some (.int r)) Vr) {N : Nat} {l1 : Int32} {l2 : Int32} {V : sv_V} (h : F_X12_point N l1 l2 V = some (r, Vr)) : sv_N g qX12_point 1 0 [(0, .ref 146), (1, .int l1), (2, .int l2)] [] V P := by
  unfold F_X12_point at h
  refine sx_aload_n (pc := 0) dX12_point_0 sx_m0 ?_
  refine sv_getZ (pc := 1) hG dX12_point_1 f_12_764 lay_146 rfl ?_
  refine sx_if_eq (pc := 4) (tgt := 23) dX12_point_4 (by decide) (fun c12 => ?_) (fun c12 => ?_)
  · have h := sx_pos c12 h
    refine sx_iconst (pc := 23) (v := 0) dX12_point_23 (by decide) ?_
    exact sv_iret (pc := 24) dX12_point_24 rfl h hP
  · have h := sx_neg c12 h
    refine sx_iload_n (pc := 7) dX12_point_7 sx_m1 ?_
    refine sx_i2l (pc := 8) dX12_point_8 ?_
    refine sx_lconst (pc := 9) (v := 0) dX12_point_9 rfl ?_
    refine sx_aload_n (pc := 10) dX12_point_10 sx_m0 ?_
    refine sv_getI (pc := 11) hG dX12_point_11 f_12_823 lay_146 rfl ?_
    refine sx_iconst (pc := 14) (v := 1) dX12_point_14 (by decide) ?_
    refine sx_isub (pc := 15) dX12_point_15 ?_
    refine sx_i2l (pc := 16) dX12_point_16 ?_
    obtain ⟨⟨x15, V13⟩, g14, h⟩ := sx_bnd h
    refine sv_cS (pc := 17) (y := qX12_in) (o := (some (.int x15))) (as := [.long l1.toInt64, .long (0 : Int64), .long (((V.1 146 128) - (1 : Int32)).toInt64)]) (V1 := V13) dX12_point_17 l_X12_263 y0X12_in ysX12_in rfl (Nat.le_of_ble_eq_true rfl) (by decide) (Nat.le_of_ble_eq_true rfl) rfl rfl rfl (t_X12_in hG ⟨rfl, rfl⟩ g14) ?_
    refine sx_if_ne (pc := 20) (tgt := 25) dX12_point_20 (by decide) (fun c16 => ?_) (fun c16 => ?_)
    · have h := sx_neg c16 h
      refine sx_iconst (pc := 25) (v := 0) dX12_point_25 (by decide) ?_
      refine sx_istore_n (pc := 26) (lo' := [(3, .int (0 : Int32)), (0, .ref 146), (1, .int l1), (2, .int l2)]) dX12_point_26 (by decide) rfl ?_
      refine sx_wk (sx_s1 sx_m1 (sx_s1 sx_m2 (sx_s1 sx_m3 (sx_s1 sx_m0 sx_s0)))) ?_
      exact tL_X12_point_27 hG hP  N _ _ _ _ h
    · have h := sx_pos c16 h
      refine sx_iconst (pc := 23) (v := 0) dX12_point_23 (by decide) ?_
      exact sv_iret (pc := 24) dX12_point_24 rfl h hP
def ncX12_told : Nat := 5753846473016606785260954313228008151169031031387709263205907945460636787630581174279005152120112415783291534229504508307794963260490176789480163448729745507719839775757127874699626238744180855961850342001480646258932597977554489344272540937060968586520642184439047197044804397885090551690935496635534843034475549410017949609971367674389454515999191705146046506677934758742966103579772643425033997437745382611484497610158218089362134237047248955931
theorem kcX12_told : CK cX12_told ncX12_told 186 := ⟨by decide +kernel, by decide +kernel⟩
theorem dX12_told_0 : decode cX12_told 0 = .ok (.iload_n 1, 1) := dl_o27 kcX12_told (by decide +kernel)
theorem dX12_told_1 : decode cX12_told 1 = .ok (.tableswitch 183 0 9 #[55, 60, 65, 70, 75, 91, 107, 112, 145, 178], 55) := by decide +kernel
theorem dX12_told_56 : decode cX12_told 56 = .ok (.aload_n 0, 1) := dl_o42 kcX12_told (by decide +kernel)
theorem dX12_told_57 : decode cX12_told 57 = .ok (.getfield 756, 3) := dl_o180 kcX12_told (by decide +kernel)
theorem dX12_told_60 : decode cX12_told 60 = .ok (.ireturn, 1) := dl_o172 kcX12_told (by decide +kernel)
theorem dX12_told_61 : decode cX12_told 61 = .ok (.aload_n 0, 1) := dl_o42 kcX12_told (by decide +kernel)
theorem dX12_told_62 : decode cX12_told 62 = .ok (.getfield 750, 3) := dl_o180 kcX12_told (by decide +kernel)
theorem dX12_told_65 : decode cX12_told 65 = .ok (.ireturn, 1) := dl_o172 kcX12_told (by decide +kernel)
theorem dX12_told_66 : decode cX12_told 66 = .ok (.aload_n 0, 1) := dl_o42 kcX12_told (by decide +kernel)
theorem dX12_told_67 : decode cX12_told 67 = .ok (.getfield 753, 3) := dl_o180 kcX12_told (by decide +kernel)
theorem dX12_told_70 : decode cX12_told 70 = .ok (.ireturn, 1) := dl_o172 kcX12_told (by decide +kernel)
theorem dX12_told_71 : decode cX12_told 71 = .ok (.aload_n 0, 1) := dl_o42 kcX12_told (by decide +kernel)
theorem dX12_told_72 : decode cX12_told 72 = .ok (.getfield 127, 3) := dl_o180 kcX12_told (by decide +kernel)
theorem dX12_told_75 : decode cX12_told 75 = .ok (.ireturn, 1) := dl_o172 kcX12_told (by decide +kernel)
theorem dX12_told_76 : decode cX12_told 76 = .ok (.aload_n 0, 1) := dl_o42 kcX12_told (by decide +kernel)
theorem dX12_told_77 : decode cX12_told 77 = .ok (.getfield 764, 3) := dl_o180 kcX12_told (by decide +kernel)
theorem dX12_told_80 : decode cX12_told 80 = .ok (.ifCond .eq 10, 3) := dl_o153 kcX12_told 10 (by decide +kernel) (by decide +kernel)
theorem dX12_told_83 : decode cX12_told 83 = .ok (.aload_n 0, 1) := dl_o42 kcX12_told (by decide +kernel)
theorem dX12_told_84 : decode cX12_told 84 = .ok (.getfield 829, 3) := dl_o180 kcX12_told (by decide +kernel)
theorem dX12_told_87 : decode cX12_told 87 = .ok (.goto 4, 3) := dl_o167 kcX12_told 4 (by decide +kernel) (by decide +kernel)
theorem dX12_told_90 : decode cX12_told 90 = .ok (.iconst 0, 1) := dl_o3 kcX12_told (by decide +kernel)
theorem dX12_told_91 : decode cX12_told 91 = .ok (.ireturn, 1) := dl_o172 kcX12_told (by decide +kernel)
theorem dX12_told_92 : decode cX12_told 92 = .ok (.aload_n 0, 1) := dl_o42 kcX12_told (by decide +kernel)
theorem dX12_told_93 : decode cX12_told 93 = .ok (.getfield 764, 3) := dl_o180 kcX12_told (by decide +kernel)
theorem dX12_told_96 : decode cX12_told 96 = .ok (.ifCond .eq 10, 3) := dl_o153 kcX12_told 10 (by decide +kernel) (by decide +kernel)
theorem dX12_told_99 : decode cX12_told 99 = .ok (.aload_n 0, 1) := dl_o42 kcX12_told (by decide +kernel)
theorem dX12_told_100 : decode cX12_told 100 = .ok (.getfield 826, 3) := dl_o180 kcX12_told (by decide +kernel)
theorem dX12_told_103 : decode cX12_told 103 = .ok (.goto 4, 3) := dl_o167 kcX12_told 4 (by decide +kernel) (by decide +kernel)
theorem dX12_told_106 : decode cX12_told 106 = .ok (.iconst 0, 1) := dl_o3 kcX12_told (by decide +kernel)
theorem dX12_told_107 : decode cX12_told 107 = .ok (.ireturn, 1) := dl_o172 kcX12_told (by decide +kernel)
theorem dX12_told_108 : decode cX12_told 108 = .ok (.aload_n 0, 1) := dl_o42 kcX12_told (by decide +kernel)
theorem dX12_told_109 : decode cX12_told 109 = .ok (.getfield 621, 3) := dl_o180 kcX12_told (by decide +kernel)
theorem dX12_told_112 : decode cX12_told 112 = .ok (.ireturn, 1) := dl_o172 kcX12_told (by decide +kernel)
theorem dX12_told_113 : decode cX12_told 113 = .ok (.aload_n 0, 1) := dl_o42 kcX12_told (by decide +kernel)
theorem dX12_told_114 : decode cX12_told 114 = .ok (.getfield 767, 3) := dl_o180 kcX12_told (by decide +kernel)
theorem dX12_told_117 : decode cX12_told 117 = .ok (.ifCond .ne 7, 3) := dl_o154 kcX12_told 7 (by decide +kernel) (by decide +kernel)
theorem dX12_told_120 : decode cX12_told 120 = .ok (.iconst 0, 1) := dl_o3 kcX12_told (by decide +kernel)
theorem dX12_told_121 : decode cX12_told 121 = .ok (.goto 24, 3) := dl_o167 kcX12_told 24 (by decide +kernel) (by decide +kernel)
theorem dX12_told_124 : decode cX12_told 124 = .ok (.aload_n 0, 1) := dl_o42 kcX12_told (by decide +kernel)
theorem dX12_told_125 : decode cX12_told 125 = .ok (.getfield 764, 3) := dl_o180 kcX12_told (by decide +kernel)
theorem dX12_told_128 : decode cX12_told 128 = .ok (.ifCond .eq 10, 3) := dl_o153 kcX12_told 10 (by decide +kernel) (by decide +kernel)
theorem dX12_told_131 : decode cX12_told 131 = .ok (.aload_n 0, 1) := dl_o42 kcX12_told (by decide +kernel)
theorem dX12_told_132 : decode cX12_told 132 = .ok (.getfield 798, 3) := dl_o180 kcX12_told (by decide +kernel)
theorem dX12_told_135 : decode cX12_told 135 = .ok (.goto 10, 3) := dl_o167 kcX12_told 10 (by decide +kernel) (by decide +kernel)
theorem dX12_told_138 : decode cX12_told 138 = .ok (.aload_n 0, 1) := dl_o42 kcX12_told (by decide +kernel)
theorem dX12_told_139 : decode cX12_told 139 = .ok (.getfield 140, 3) := dl_o180 kcX12_told (by decide +kernel)
theorem dX12_told_142 : decode cX12_told 142 = .ok (.bipush 7, 2) := dl_o16 kcX12_told 7 (by decide +kernel) (by decide +kernel)
theorem dX12_told_144 : decode cX12_told 144 = .ok (.iaload, 1) := dl_o46 kcX12_told (by decide +kernel)
theorem dX12_told_145 : decode cX12_told 145 = .ok (.ireturn, 1) := dl_o172 kcX12_told (by decide +kernel)
theorem dX12_told_146 : decode cX12_told 146 = .ok (.aload_n 0, 1) := dl_o42 kcX12_told (by decide +kernel)
theorem dX12_told_147 : decode cX12_told 147 = .ok (.getfield 767, 3) := dl_o180 kcX12_told (by decide +kernel)
theorem dX12_told_150 : decode cX12_told 150 = .ok (.ifCond .ne 7, 3) := dl_o154 kcX12_told 7 (by decide +kernel) (by decide +kernel)
theorem dX12_told_153 : decode cX12_told 153 = .ok (.iconst 0, 1) := dl_o3 kcX12_told (by decide +kernel)
theorem dX12_told_154 : decode cX12_told 154 = .ok (.goto 24, 3) := dl_o167 kcX12_told 24 (by decide +kernel) (by decide +kernel)
theorem dX12_told_157 : decode cX12_told 157 = .ok (.aload_n 0, 1) := dl_o42 kcX12_told (by decide +kernel)
theorem dX12_told_158 : decode cX12_told 158 = .ok (.getfield 764, 3) := dl_o180 kcX12_told (by decide +kernel)
theorem dX12_told_161 : decode cX12_told 161 = .ok (.ifCond .eq 10, 3) := dl_o153 kcX12_told 10 (by decide +kernel) (by decide +kernel)
theorem dX12_told_164 : decode cX12_told 164 = .ok (.aload_n 0, 1) := dl_o42 kcX12_told (by decide +kernel)
theorem dX12_told_165 : decode cX12_told 165 = .ok (.getfield 801, 3) := dl_o180 kcX12_told (by decide +kernel)
theorem dX12_told_168 : decode cX12_told 168 = .ok (.goto 10, 3) := dl_o167 kcX12_told 10 (by decide +kernel) (by decide +kernel)
theorem dX12_told_171 : decode cX12_told 171 = .ok (.aload_n 0, 1) := dl_o42 kcX12_told (by decide +kernel)
theorem dX12_told_172 : decode cX12_told 172 = .ok (.getfield 140, 3) := dl_o180 kcX12_told (by decide +kernel)
theorem dX12_told_175 : decode cX12_told 175 = .ok (.bipush 8, 2) := dl_o16 kcX12_told 8 (by decide +kernel) (by decide +kernel)
theorem dX12_told_177 : decode cX12_told 177 = .ok (.iaload, 1) := dl_o46 kcX12_told (by decide +kernel)
theorem dX12_told_178 : decode cX12_told 178 = .ok (.ireturn, 1) := dl_o172 kcX12_told (by decide +kernel)
theorem dX12_told_179 : decode cX12_told 179 = .ok (.aload_n 0, 1) := dl_o42 kcX12_told (by decide +kernel)
theorem dX12_told_180 : decode cX12_told 180 = .ok (.getfield 424, 3) := dl_o180 kcX12_told (by decide +kernel)
theorem dX12_told_183 : decode cX12_told 183 = .ok (.ireturn, 1) := dl_o172 kcX12_told (by decide +kernel)
theorem dX12_told_184 : decode cX12_told 184 = .ok (.iconst 0, 1) := dl_o3 kcX12_told (by decide +kernel)
theorem dX12_told_185 : decode cX12_told 185 = .ok (.ireturn, 1) := dl_o172 kcX12_told (by decide +kernel)
def F_X12_told (l1 : Int32) (V : sv_V) : Option (Int32 × sv_V) := if l1 = 0 then (some (V.1 146 109, V)) else (if l1 = 1 then (some (V.1 146 110, V)) else (if l1 = 2 then (some (V.1 146 111, V)) else (if l1 = 3 then (some (V.1 146 112, V)) else (if l1 = 4 then (if (V.1 146 108) = 0 then (some ((0 : Int32), V)) else (some (V.1 146 134, V))) else (if l1 = 5 then (if (V.1 146 108) = 0 then (some ((0 : Int32), V)) else (some (V.1 146 129, V))) else (if l1 = 6 then (some (V.1 146 62, V)) else (if l1 = 7 then (if (V.1 146 107) = 0 then (some ((0 : Int32), V)) else (if (V.1 146 108) = 0 then (some (V.1 188 (7 : Int32).toNatClampNeg, V)) else (some (V.1 146 126, V)))) else (if l1 = 8 then (if (V.1 146 107) = 0 then (some ((0 : Int32), V)) else (if (V.1 146 108) = 0 then (some (V.1 188 (8 : Int32).toNatClampNeg, V)) else (some (V.1 146 127, V)))) else (if l1 = 9 then (some (V.1 146 57, V)) else (some ((0 : Int32), V)))))))))))
set_option maxRecDepth 20000 in
theorem t_X12_told {g : sx_G} (hG : sx_Go g) {P : Option Value → sv_V → Prop} {r : Int32} {Vr : sv_V} (hP : P (some (.int r)) Vr) {l1 : Int32} {V : sv_V} (h : F_X12_told l1 V = some (r, Vr)) : sv_N g qX12_told 0 0 [(0, .ref 146), (1, .int l1)] [] V P := by
  unfold F_X12_told at h
  refine sx_iload_n (pc := 0) dX12_told_0 sx_m1 ?_
  by_cases c1 : l1 = 0
  · have h := sx_pos c1 h
    refine sx_tabI (pc := 1) (off := 55) (tgt := 56) dX12_told_1 (by rw [c1]; decide) (by rw [c1]; decide) (by rw [c1]; rfl) (by decide) ?_
    refine sx_aload_n (pc := 56) dX12_told_56 sx_m0 ?_
    refine sv_getI (pc := 57) hG dX12_told_57 f_12_756 lay_146 rfl ?_
    exact sv_iret (pc := 60) dX12_told_60 rfl h hP
  have h := sx_neg c1 h
  by_cases c2 : l1 = 1
  · have h := sx_pos c2 h
    refine sx_tabI (pc := 1) (off := 60) (tgt := 61) dX12_told_1 (by rw [c2]; decide) (by rw [c2]; decide) (by rw [c2]; rfl) (by decide) ?_
    refine sx_aload_n (pc := 61) dX12_told_61 sx_m0 ?_
    refine sv_getI (pc := 62) hG dX12_told_62 f_12_750 lay_146 rfl ?_
    exact sv_iret (pc := 65) dX12_told_65 rfl h hP
  have h := sx_neg c2 h
  by_cases c3 : l1 = 2
  · have h := sx_pos c3 h
    refine sx_tabI (pc := 1) (off := 65) (tgt := 66) dX12_told_1 (by rw [c3]; decide) (by rw [c3]; decide) (by rw [c3]; rfl) (by decide) ?_
    refine sx_aload_n (pc := 66) dX12_told_66 sx_m0 ?_
    refine sv_getI (pc := 67) hG dX12_told_67 f_12_753 lay_146 rfl ?_
    exact sv_iret (pc := 70) dX12_told_70 rfl h hP
  have h := sx_neg c3 h
  by_cases c4 : l1 = 3
  · have h := sx_pos c4 h
    refine sx_tabI (pc := 1) (off := 70) (tgt := 71) dX12_told_1 (by rw [c4]; decide) (by rw [c4]; decide) (by rw [c4]; rfl) (by decide) ?_
    refine sx_aload_n (pc := 71) dX12_told_71 sx_m0 ?_
    refine sv_getI (pc := 72) hG dX12_told_72 f_12_127 lay_146 rfl ?_
    exact sv_iret (pc := 75) dX12_told_75 rfl h hP
  have h := sx_neg c4 h
  by_cases c5 : l1 = 4
  · have h := sx_pos c5 h
    refine sx_tabI (pc := 1) (off := 75) (tgt := 76) dX12_told_1 (by rw [c5]; decide) (by rw [c5]; decide) (by rw [c5]; rfl) (by decide) ?_
    refine sx_aload_n (pc := 76) dX12_told_76 sx_m0 ?_
    refine sv_getZ (pc := 77) hG dX12_told_77 f_12_764 lay_146 rfl ?_
    refine sx_if_eq (pc := 80) (tgt := 90) dX12_told_80 (by decide) (fun c6 => ?_) (fun c6 => ?_)
    · have h := sx_pos c6 h
      refine sx_iconst (pc := 90) (v := 0) dX12_told_90 (by decide) ?_
      exact sv_iret (pc := 91) dX12_told_91 rfl h hP
    · have h := sx_neg c6 h
      refine sx_aload_n (pc := 83) dX12_told_83 sx_m0 ?_
      refine sv_getI (pc := 84) hG dX12_told_84 f_12_829 lay_146 rfl ?_
      refine sx_goto (pc := 87) (tgt := 91) dX12_told_87 (by decide) ?_
      exact sv_iret (pc := 91) dX12_told_91 rfl h hP
  have h := sx_neg c5 h
  by_cases c7 : l1 = 5
  · have h := sx_pos c7 h
    refine sx_tabI (pc := 1) (off := 91) (tgt := 92) dX12_told_1 (by rw [c7]; decide) (by rw [c7]; decide) (by rw [c7]; rfl) (by decide) ?_
    refine sx_aload_n (pc := 92) dX12_told_92 sx_m0 ?_
    refine sv_getZ (pc := 93) hG dX12_told_93 f_12_764 lay_146 rfl ?_
    refine sx_if_eq (pc := 96) (tgt := 106) dX12_told_96 (by decide) (fun c8 => ?_) (fun c8 => ?_)
    · have h := sx_pos c8 h
      refine sx_iconst (pc := 106) (v := 0) dX12_told_106 (by decide) ?_
      exact sv_iret (pc := 107) dX12_told_107 rfl h hP
    · have h := sx_neg c8 h
      refine sx_aload_n (pc := 99) dX12_told_99 sx_m0 ?_
      refine sv_getI (pc := 100) hG dX12_told_100 f_12_826 lay_146 rfl ?_
      refine sx_goto (pc := 103) (tgt := 107) dX12_told_103 (by decide) ?_
      exact sv_iret (pc := 107) dX12_told_107 rfl h hP
  have h := sx_neg c7 h
  by_cases c9 : l1 = 6
  · have h := sx_pos c9 h
    refine sx_tabI (pc := 1) (off := 107) (tgt := 108) dX12_told_1 (by rw [c9]; decide) (by rw [c9]; decide) (by rw [c9]; rfl) (by decide) ?_
    refine sx_aload_n (pc := 108) dX12_told_108 sx_m0 ?_
    refine sv_getI (pc := 109) hG dX12_told_109 f_12_621 lay_146 rfl ?_
    exact sv_iret (pc := 112) dX12_told_112 rfl h hP
  have h := sx_neg c9 h
  by_cases c10 : l1 = 7
  · have h := sx_pos c10 h
    refine sx_tabI (pc := 1) (off := 112) (tgt := 113) dX12_told_1 (by rw [c10]; decide) (by rw [c10]; decide) (by rw [c10]; rfl) (by decide) ?_
    refine sx_aload_n (pc := 113) dX12_told_113 sx_m0 ?_
    refine sv_getZ (pc := 114) hG dX12_told_114 f_12_767 lay_146 rfl ?_
    refine sx_if_ne (pc := 117) (tgt := 124) dX12_told_117 (by decide) (fun c11 => ?_) (fun c11 => ?_)
    · have h := sx_neg c11 h
      refine sx_aload_n (pc := 124) dX12_told_124 sx_m0 ?_
      refine sv_getZ (pc := 125) hG dX12_told_125 f_12_764 lay_146 rfl ?_
      refine sx_if_eq (pc := 128) (tgt := 138) dX12_told_128 (by decide) (fun c12 => ?_) (fun c12 => ?_)
      · have h := sx_pos c12 h
        refine sx_aload_n (pc := 138) dX12_told_138 sx_m0 ?_
        refine sv_getA (pc := 139) hG dX12_told_139 f_12_140 lay_146 rfl cr_146_116 ?_
        refine sx_bipush (pc := 142) (v := 7) dX12_told_142 (by decide) ?_
        refine sv_iald (pc := 144) hG dX12_told_144 lay_188 (by decide) ?_
        exact sv_iret (pc := 145) dX12_told_145 rfl h hP
      · have h := sx_neg c12 h
        refine sx_aload_n (pc := 131) dX12_told_131 sx_m0 ?_
        refine sv_getI (pc := 132) hG dX12_told_132 f_12_798 lay_146 rfl ?_
        refine sx_goto (pc := 135) (tgt := 145) dX12_told_135 (by decide) ?_
        exact sv_iret (pc := 145) dX12_told_145 rfl h hP
    · have h := sx_pos c11 h
      refine sx_iconst (pc := 120) (v := 0) dX12_told_120 (by decide) ?_
      refine sx_goto (pc := 121) (tgt := 145) dX12_told_121 (by decide) ?_
      exact sv_iret (pc := 145) dX12_told_145 rfl h hP
  have h := sx_neg c10 h
  by_cases c13 : l1 = 8
  · have h := sx_pos c13 h
    refine sx_tabI (pc := 1) (off := 145) (tgt := 146) dX12_told_1 (by rw [c13]; decide) (by rw [c13]; decide) (by rw [c13]; rfl) (by decide) ?_
    refine sx_aload_n (pc := 146) dX12_told_146 sx_m0 ?_
    refine sv_getZ (pc := 147) hG dX12_told_147 f_12_767 lay_146 rfl ?_
    refine sx_if_ne (pc := 150) (tgt := 157) dX12_told_150 (by decide) (fun c14 => ?_) (fun c14 => ?_)
    · have h := sx_neg c14 h
      refine sx_aload_n (pc := 157) dX12_told_157 sx_m0 ?_
      refine sv_getZ (pc := 158) hG dX12_told_158 f_12_764 lay_146 rfl ?_
      refine sx_if_eq (pc := 161) (tgt := 171) dX12_told_161 (by decide) (fun c15 => ?_) (fun c15 => ?_)
      · have h := sx_pos c15 h
        refine sx_aload_n (pc := 171) dX12_told_171 sx_m0 ?_
        refine sv_getA (pc := 172) hG dX12_told_172 f_12_140 lay_146 rfl cr_146_116 ?_
        refine sx_bipush (pc := 175) (v := 8) dX12_told_175 (by decide) ?_
        refine sv_iald (pc := 177) hG dX12_told_177 lay_188 (by decide) ?_
        exact sv_iret (pc := 178) dX12_told_178 rfl h hP
      · have h := sx_neg c15 h
        refine sx_aload_n (pc := 164) dX12_told_164 sx_m0 ?_
        refine sv_getI (pc := 165) hG dX12_told_165 f_12_801 lay_146 rfl ?_
        refine sx_goto (pc := 168) (tgt := 178) dX12_told_168 (by decide) ?_
        exact sv_iret (pc := 178) dX12_told_178 rfl h hP
    · have h := sx_pos c14 h
      refine sx_iconst (pc := 153) (v := 0) dX12_told_153 (by decide) ?_
      refine sx_goto (pc := 154) (tgt := 178) dX12_told_154 (by decide) ?_
      exact sv_iret (pc := 178) dX12_told_178 rfl h hP
  have h := sx_neg c13 h
  by_cases c16 : l1 = 9
  · have h := sx_pos c16 h
    refine sx_tabI (pc := 1) (off := 178) (tgt := 179) dX12_told_1 (by rw [c16]; decide) (by rw [c16]; decide) (by rw [c16]; rfl) (by decide) ?_
    refine sx_aload_n (pc := 179) dX12_told_179 sx_m0 ?_
    refine sv_getI (pc := 180) hG dX12_told_180 f_12_424 lay_146 rfl ?_
    exact sv_iret (pc := 183) dX12_told_183 rfl h hP
  have h := sx_neg c16 h
  refine sx_tabO (pc := 1) (tgt := 184) dX12_told_1 (by have ec1 := lv_neT (a := 0) c1 rfl; have ec2 := lv_neT (a := 1) c2 rfl; have ec3 := lv_neT (a := 2) c3 rfl; have ec4 := lv_neT (a := 3) c4 rfl; have ec5 := lv_neT (a := 4) c5 rfl; have ec7 := lv_neT (a := 5) c7 rfl; have ec9 := lv_neT (a := 6) c9 rfl; have ec10 := lv_neT (a := 7) c10 rfl; have ec13 := lv_neT (a := 8) c13 rfl; have ec16 := lv_neT (a := 9) c16 rfl; omega) (by decide) ?_
  refine sx_iconst (pc := 184) (v := 0) dX12_told_184 (by decide) ?_
  exact sv_iret (pc := 185) dX12_told_185 rfl h hP
def ncX12_held : Nat := 25578442505576626487990694180095693384941801098574788473531961631945484663889533754447715382915724093443659472446173036004467589758340783899882929545973560914670918108345857709500585962773542212613931321699994914005635625862338587783334833689991851051580680179512491311476971916983710762
theorem kcX12_held : CK cX12_held ncX12_held 119 := ⟨by decide +kernel, by decide +kernel⟩
theorem dX12_held_0 : decode cX12_held 0 = .ok (.aload_n 0, 1) := dl_o42 kcX12_held (by decide +kernel)
theorem dX12_held_1 : decode cX12_held 1 = .ok (.getfield 767, 3) := dl_o180 kcX12_held (by decide +kernel)
theorem dX12_held_4 : decode cX12_held 4 = .ok (.ifCond .ne 5, 3) := dl_o154 kcX12_held 5 (by decide +kernel) (by decide +kernel)
theorem dX12_held_7 : decode cX12_held 7 = .ok (.iconst 0, 1) := dl_o3 kcX12_held (by decide +kernel)
theorem dX12_held_8 : decode cX12_held 8 = .ok (.ireturn, 1) := dl_o172 kcX12_held (by decide +kernel)
theorem dX12_held_9 : decode cX12_held 9 = .ok (.iload_n 1, 1) := dl_o27 kcX12_held (by decide +kernel)
theorem dX12_held_10 : decode cX12_held 10 = .ok (.ifCond .ne 30, 3) := dl_o154 kcX12_held 30 (by decide +kernel) (by decide +kernel)
theorem dX12_held_13 : decode cX12_held 13 = .ok (.iload_n 2, 1) := dl_o28 kcX12_held (by decide +kernel)
theorem dX12_held_14 : decode cX12_held 14 = .ok (.i2l, 1) := dl_o133 kcX12_held (by decide +kernel)
theorem dX12_held_15 : decode cX12_held 15 = .ok (.lconst 0, 1) := dl_o9 kcX12_held (by decide +kernel)
theorem dX12_held_16 : decode cX12_held 16 = .ok (.aload_n 0, 1) := dl_o42 kcX12_held (by decide +kernel)
theorem dX12_held_17 : decode cX12_held 17 = .ok (.getfield 294, 3) := dl_o180 kcX12_held (by decide +kernel)
theorem dX12_held_20 : decode cX12_held 20 = .ok (.iconst 1, 1) := dl_o4 kcX12_held (by decide +kernel)
theorem dX12_held_21 : decode cX12_held 21 = .ok (.isub, 1) := dl_o100 kcX12_held (by decide +kernel)
theorem dX12_held_22 : decode cX12_held 22 = .ok (.i2l, 1) := dl_o133 kcX12_held (by decide +kernel)
theorem dX12_held_23 : decode cX12_held 23 = .ok (.invokestatic 263, 3) := dl_o184 kcX12_held (by decide +kernel)
theorem dX12_held_26 : decode cX12_held 26 = .ok (.ifCond .eq 12, 3) := dl_o153 kcX12_held 12 (by decide +kernel) (by decide +kernel)
theorem dX12_held_29 : decode cX12_held 29 = .ok (.aload_n 0, 1) := dl_o42 kcX12_held (by decide +kernel)
theorem dX12_held_30 : decode cX12_held 30 = .ok (.getfield 131, 3) := dl_o180 kcX12_held (by decide +kernel)
theorem dX12_held_33 : decode cX12_held 33 = .ok (.iload_n 2, 1) := dl_o28 kcX12_held (by decide +kernel)
theorem dX12_held_34 : decode cX12_held 34 = .ok (.iaload, 1) := dl_o46 kcX12_held (by decide +kernel)
theorem dX12_held_35 : decode cX12_held 35 = .ok (.goto 4, 3) := dl_o167 kcX12_held 4 (by decide +kernel) (by decide +kernel)
theorem dX12_held_38 : decode cX12_held 38 = .ok (.iconst 0, 1) := dl_o3 kcX12_held (by decide +kernel)
theorem dX12_held_39 : decode cX12_held 39 = .ok (.ireturn, 1) := dl_o172 kcX12_held (by decide +kernel)
theorem dX12_held_40 : decode cX12_held 40 = .ok (.iload_n 1, 1) := dl_o27 kcX12_held (by decide +kernel)
theorem dX12_held_41 : decode cX12_held 41 = .ok (.iconst 1, 1) := dl_o4 kcX12_held (by decide +kernel)
theorem dX12_held_42 : decode cX12_held 42 = .ok (.if_icmp .ne 30, 3) := dl_o160 kcX12_held 30 (by decide +kernel) (by decide +kernel)
theorem dX12_held_45 : decode cX12_held 45 = .ok (.iload_n 2, 1) := dl_o28 kcX12_held (by decide +kernel)
theorem dX12_held_46 : decode cX12_held 46 = .ok (.i2l, 1) := dl_o133 kcX12_held (by decide +kernel)
theorem dX12_held_47 : decode cX12_held 47 = .ok (.lconst 0, 1) := dl_o9 kcX12_held (by decide +kernel)
theorem dX12_held_48 : decode cX12_held 48 = .ok (.aload_n 0, 1) := dl_o42 kcX12_held (by decide +kernel)
theorem dX12_held_49 : decode cX12_held 49 = .ok (.getfield 319, 3) := dl_o180 kcX12_held (by decide +kernel)
theorem dX12_held_52 : decode cX12_held 52 = .ok (.iconst 1, 1) := dl_o4 kcX12_held (by decide +kernel)
theorem dX12_held_53 : decode cX12_held 53 = .ok (.isub, 1) := dl_o100 kcX12_held (by decide +kernel)
theorem dX12_held_54 : decode cX12_held 54 = .ok (.i2l, 1) := dl_o133 kcX12_held (by decide +kernel)
theorem dX12_held_55 : decode cX12_held 55 = .ok (.invokestatic 263, 3) := dl_o184 kcX12_held (by decide +kernel)
theorem dX12_held_58 : decode cX12_held 58 = .ok (.ifCond .eq 12, 3) := dl_o153 kcX12_held 12 (by decide +kernel) (by decide +kernel)
theorem dX12_held_61 : decode cX12_held 61 = .ok (.aload_n 0, 1) := dl_o42 kcX12_held (by decide +kernel)
theorem dX12_held_62 : decode cX12_held 62 = .ok (.getfield 134, 3) := dl_o180 kcX12_held (by decide +kernel)
theorem dX12_held_65 : decode cX12_held 65 = .ok (.iload_n 2, 1) := dl_o28 kcX12_held (by decide +kernel)
theorem dX12_held_66 : decode cX12_held 66 = .ok (.iaload, 1) := dl_o46 kcX12_held (by decide +kernel)
theorem dX12_held_67 : decode cX12_held 67 = .ok (.goto 4, 3) := dl_o167 kcX12_held 4 (by decide +kernel) (by decide +kernel)
theorem dX12_held_70 : decode cX12_held 70 = .ok (.iconst 0, 1) := dl_o3 kcX12_held (by decide +kernel)
theorem dX12_held_71 : decode cX12_held 71 = .ok (.ireturn, 1) := dl_o172 kcX12_held (by decide +kernel)
theorem dX12_held_72 : decode cX12_held 72 = .ok (.iload_n 1, 1) := dl_o27 kcX12_held (by decide +kernel)
theorem dX12_held_73 : decode cX12_held 73 = .ok (.i2l, 1) := dl_o133 kcX12_held (by decide +kernel)
theorem dX12_held_74 : decode cX12_held 74 = .ok (.ldc2_w 336, 3) := dl_o20 kcX12_held (by decide +kernel)
theorem dX12_held_77 : decode cX12_held 77 = .ok (.ldc2_w 922, 3) := dl_o20 kcX12_held (by decide +kernel)
theorem dX12_held_80 : decode cX12_held 80 = .ok (.invokestatic 263, 3) := dl_o184 kcX12_held (by decide +kernel)
theorem dX12_held_83 : decode cX12_held 83 = .ok (.ifCond .eq 34, 3) := dl_o153 kcX12_held 34 (by decide +kernel) (by decide +kernel)
theorem dX12_held_86 : decode cX12_held 86 = .ok (.iload_n 2, 1) := dl_o28 kcX12_held (by decide +kernel)
theorem dX12_held_87 : decode cX12_held 87 = .ok (.i2l, 1) := dl_o133 kcX12_held (by decide +kernel)
theorem dX12_held_88 : decode cX12_held 88 = .ok (.lconst 0, 1) := dl_o9 kcX12_held (by decide +kernel)
theorem dX12_held_89 : decode cX12_held 89 = .ok (.aload_n 0, 1) := dl_o42 kcX12_held (by decide +kernel)
theorem dX12_held_90 : decode cX12_held 90 = .ok (.getfield 316, 3) := dl_o180 kcX12_held (by decide +kernel)
theorem dX12_held_93 : decode cX12_held 93 = .ok (.iconst 1, 1) := dl_o4 kcX12_held (by decide +kernel)
theorem dX12_held_94 : decode cX12_held 94 = .ok (.isub, 1) := dl_o100 kcX12_held (by decide +kernel)
theorem dX12_held_95 : decode cX12_held 95 = .ok (.i2l, 1) := dl_o133 kcX12_held (by decide +kernel)
theorem dX12_held_96 : decode cX12_held 96 = .ok (.invokestatic 263, 3) := dl_o184 kcX12_held (by decide +kernel)
theorem dX12_held_99 : decode cX12_held 99 = .ok (.ifCond .eq 18, 3) := dl_o153 kcX12_held 18 (by decide +kernel) (by decide +kernel)
theorem dX12_held_102 : decode cX12_held 102 = .ok (.aload_n 0, 1) := dl_o42 kcX12_held (by decide +kernel)
theorem dX12_held_103 : decode cX12_held 103 = .ok (.getfield 137, 3) := dl_o180 kcX12_held (by decide +kernel)
theorem dX12_held_106 : decode cX12_held 106 = .ok (.iconst 4, 1) := dl_o7 kcX12_held (by decide +kernel)
theorem dX12_held_107 : decode cX12_held 107 = .ok (.iload_n 2, 1) := dl_o28 kcX12_held (by decide +kernel)
theorem dX12_held_108 : decode cX12_held 108 = .ok (.imul, 1) := dl_o104 kcX12_held (by decide +kernel)
theorem dX12_held_109 : decode cX12_held 109 = .ok (.iload_n 1, 1) := dl_o27 kcX12_held (by decide +kernel)
theorem dX12_held_110 : decode cX12_held 110 = .ok (.iadd, 1) := dl_o96 kcX12_held (by decide +kernel)
theorem dX12_held_111 : decode cX12_held 111 = .ok (.iconst 2, 1) := dl_o5 kcX12_held (by decide +kernel)
theorem dX12_held_112 : decode cX12_held 112 = .ok (.isub, 1) := dl_o100 kcX12_held (by decide +kernel)
theorem dX12_held_113 : decode cX12_held 113 = .ok (.iaload, 1) := dl_o46 kcX12_held (by decide +kernel)
theorem dX12_held_114 : decode cX12_held 114 = .ok (.goto 4, 3) := dl_o167 kcX12_held 4 (by decide +kernel) (by decide +kernel)
theorem dX12_held_117 : decode cX12_held 117 = .ok (.iconst 0, 1) := dl_o3 kcX12_held (by decide +kernel)
theorem dX12_held_118 : decode cX12_held 118 = .ok (.ireturn, 1) := dl_o172 kcX12_held (by decide +kernel)
def F_X12_held (l1 : Int32) (l2 : Int32) (V : sv_V) : Option (Int32 × sv_V) := if (V.1 146 107) = 0 then (some ((0 : Int32), V)) else (if l1 = 0 then ((F_X12_in l2.toInt64 (0 : Int64) (((V.1 146 25) - (1 : Int32)).toInt64) V).bind (fun (x20, V18) => if x20 = 0 then (some ((0 : Int32), V18)) else (if sx_in l2 256 = true then some (V18.1 185 l2.toNatClampNeg, V18) else none))) else (if l1 = (1 : Int32) then ((F_X12_in l2.toInt64 (0 : Int64) (((V.1 146 15) - (1 : Int32)).toInt64) V).bind (fun (x15, V13) => if x15 = 0 then (some ((0 : Int32), V13)) else (if sx_in l2 64 = true then some (V13.1 186 l2.toNatClampNeg, V13) else none))) else ((F_X12_in l1.toInt64 (2 : Int64) (5 : Int64) V).bind (fun (x6, V4) => if x6 = 0 then (some ((0 : Int32), V4)) else ((F_X12_in l2.toInt64 (0 : Int64) (((V4.1 146 14) - (1 : Int32)).toInt64) V4).bind (fun (x10, V8) => if x10 = 0 then (some ((0 : Int32), V8)) else (if sx_in ((((4 : Int32) * l2) + l1) - (2 : Int32)) 256 = true then some (V8.1 187 ((((4 : Int32) * l2) + l1) - (2 : Int32)).toNatClampNeg, V8) else none)))))))
set_option maxRecDepth 20000 in
theorem t_X12_held {g : sx_G} (hG : sx_Go g) {P : Option Value → sv_V → Prop} {r : Int32} {Vr : sv_V} (hP : P (some (.int r)) Vr) {l1 : Int32} {l2 : Int32} {V : sv_V} (h : F_X12_held l1 l2 V = some (r, Vr)) : sv_N g qX12_held 1 0 [(0, .ref 146), (1, .int l1), (2, .int l2)] [] V P := by
  unfold F_X12_held at h
  refine sx_aload_n (pc := 0) dX12_held_0 sx_m0 ?_
  refine sv_getZ (pc := 1) hG dX12_held_1 f_12_767 lay_146 rfl ?_
  refine sx_if_ne (pc := 4) (tgt := 9) dX12_held_4 (by decide) (fun c1 => ?_) (fun c1 => ?_)
  · have h := sx_neg c1 h
    refine sx_iload_n (pc := 9) dX12_held_9 sx_m1 ?_
    refine sx_if_ne (pc := 10) (tgt := 40) dX12_held_10 (by decide) (fun c2 => ?_) (fun c2 => ?_)
    · have h := sx_neg c2 h
      refine sx_iload_n (pc := 40) dX12_held_40 sx_m1 ?_
      refine sx_iconst (pc := 41) (v := 1) dX12_held_41 (by decide) ?_
      refine sx_icmp_ne (pc := 42) (tgt := 72) dX12_held_42 (by decide) (fun c3 => ?_) (fun c3 => ?_)
      · have h := sx_neg c3 h
        refine sx_iload_n (pc := 72) dX12_held_72 sx_m1 ?_
        refine sx_i2l (pc := 73) dX12_held_73 ?_
        refine sx_ldc2 (pc := 74) dX12_held_74 k_X12_336 ?_
        refine sx_ldc2 (pc := 77) dX12_held_77 k_X12_922 ?_
        obtain ⟨⟨x6, V4⟩, g5, h⟩ := sx_bnd h
        refine sv_cS (pc := 80) (y := qX12_in) (o := (some (.int x6))) (as := [.long l1.toInt64, .long (2 : Int64), .long (5 : Int64)]) (V1 := V4) dX12_held_80 l_X12_263 y0X12_in ysX12_in rfl (Nat.le_of_ble_eq_true rfl) (by decide) (Nat.le_of_ble_eq_true rfl) rfl rfl rfl (t_X12_in hG ⟨rfl, rfl⟩ g5) ?_
        refine sx_if_eq (pc := 83) (tgt := 117) dX12_held_83 (by decide) (fun c7 => ?_) (fun c7 => ?_)
        · have h := sx_pos c7 h
          refine sx_iconst (pc := 117) (v := 0) dX12_held_117 (by decide) ?_
          exact sv_iret (pc := 118) dX12_held_118 rfl h hP
        · have h := sx_neg c7 h
          refine sx_iload_n (pc := 86) dX12_held_86 sx_m2 ?_
          refine sx_i2l (pc := 87) dX12_held_87 ?_
          refine sx_lconst (pc := 88) (v := 0) dX12_held_88 rfl ?_
          refine sx_aload_n (pc := 89) dX12_held_89 sx_m0 ?_
          refine sv_getI (pc := 90) hG dX12_held_90 f_12_316 lay_146 rfl ?_
          refine sx_iconst (pc := 93) (v := 1) dX12_held_93 (by decide) ?_
          refine sx_isub (pc := 94) dX12_held_94 ?_
          refine sx_i2l (pc := 95) dX12_held_95 ?_
          obtain ⟨⟨x10, V8⟩, g9, h⟩ := sx_bnd h
          refine sv_cS (pc := 96) (y := qX12_in) (o := (some (.int x10))) (as := [.long l2.toInt64, .long (0 : Int64), .long (((V4.1 146 14) - (1 : Int32)).toInt64)]) (V1 := V8) dX12_held_96 l_X12_263 y0X12_in ysX12_in rfl (Nat.le_of_ble_eq_true rfl) (by decide) (Nat.le_of_ble_eq_true rfl) rfl rfl rfl (t_X12_in hG ⟨rfl, rfl⟩ g9) ?_
          refine sx_if_eq (pc := 99) (tgt := 117) dX12_held_99 (by decide) (fun c11 => ?_) (fun c11 => ?_)
          · have h := sx_pos c11 h
            refine sx_iconst (pc := 117) (v := 0) dX12_held_117 (by decide) ?_
            exact sv_iret (pc := 118) dX12_held_118 rfl h hP
          · have h := sx_neg c11 h
            refine sx_aload_n (pc := 102) dX12_held_102 sx_m0 ?_
            refine sv_getA (pc := 103) hG dX12_held_103 f_12_137 lay_146 rfl cr_146_115 ?_
            refine sx_iconst (pc := 106) (v := 4) dX12_held_106 (by decide) ?_
            refine sx_iload_n (pc := 107) dX12_held_107 sx_m2 ?_
            refine sx_imul (pc := 108) dX12_held_108 ?_
            refine sx_iload_n (pc := 109) dX12_held_109 sx_m1 ?_
            refine sx_iadd (pc := 110) dX12_held_110 ?_
            refine sx_iconst (pc := 111) (v := 2) dX12_held_111 (by decide) ?_
            refine sx_isub (pc := 112) dX12_held_112 ?_
            obtain ⟨g12, h⟩ := sx_grd h
            refine sv_iald (pc := 113) hG dX12_held_113 lay_187 g12 ?_
            refine sx_goto (pc := 114) (tgt := 118) dX12_held_114 (by decide) ?_
            exact sv_iret (pc := 118) dX12_held_118 rfl h hP
      · have h := sx_pos c3 h
        refine sx_iload_n (pc := 45) dX12_held_45 sx_m2 ?_
        refine sx_i2l (pc := 46) dX12_held_46 ?_
        refine sx_lconst (pc := 47) (v := 0) dX12_held_47 rfl ?_
        refine sx_aload_n (pc := 48) dX12_held_48 sx_m0 ?_
        refine sv_getI (pc := 49) hG dX12_held_49 f_12_319 lay_146 rfl ?_
        refine sx_iconst (pc := 52) (v := 1) dX12_held_52 (by decide) ?_
        refine sx_isub (pc := 53) dX12_held_53 ?_
        refine sx_i2l (pc := 54) dX12_held_54 ?_
        obtain ⟨⟨x15, V13⟩, g14, h⟩ := sx_bnd h
        refine sv_cS (pc := 55) (y := qX12_in) (o := (some (.int x15))) (as := [.long l2.toInt64, .long (0 : Int64), .long (((V.1 146 15) - (1 : Int32)).toInt64)]) (V1 := V13) dX12_held_55 l_X12_263 y0X12_in ysX12_in rfl (Nat.le_of_ble_eq_true rfl) (by decide) (Nat.le_of_ble_eq_true rfl) rfl rfl rfl (t_X12_in hG ⟨rfl, rfl⟩ g14) ?_
        refine sx_if_eq (pc := 58) (tgt := 70) dX12_held_58 (by decide) (fun c16 => ?_) (fun c16 => ?_)
        · have h := sx_pos c16 h
          refine sx_iconst (pc := 70) (v := 0) dX12_held_70 (by decide) ?_
          exact sv_iret (pc := 71) dX12_held_71 rfl h hP
        · have h := sx_neg c16 h
          refine sx_aload_n (pc := 61) dX12_held_61 sx_m0 ?_
          refine sv_getA (pc := 62) hG dX12_held_62 f_12_134 lay_146 rfl cr_146_114 ?_
          refine sx_iload_n (pc := 65) dX12_held_65 sx_m2 ?_
          obtain ⟨g17, h⟩ := sx_grd h
          refine sv_iald (pc := 66) hG dX12_held_66 lay_186 g17 ?_
          refine sx_goto (pc := 67) (tgt := 71) dX12_held_67 (by decide) ?_
          exact sv_iret (pc := 71) dX12_held_71 rfl h hP
    · have h := sx_pos c2 h
      refine sx_iload_n (pc := 13) dX12_held_13 sx_m2 ?_
      refine sx_i2l (pc := 14) dX12_held_14 ?_
      refine sx_lconst (pc := 15) (v := 0) dX12_held_15 rfl ?_
      refine sx_aload_n (pc := 16) dX12_held_16 sx_m0 ?_
      refine sv_getI (pc := 17) hG dX12_held_17 f_12_294 lay_146 rfl ?_
      refine sx_iconst (pc := 20) (v := 1) dX12_held_20 (by decide) ?_
      refine sx_isub (pc := 21) dX12_held_21 ?_
      refine sx_i2l (pc := 22) dX12_held_22 ?_
      obtain ⟨⟨x20, V18⟩, g19, h⟩ := sx_bnd h
      refine sv_cS (pc := 23) (y := qX12_in) (o := (some (.int x20))) (as := [.long l2.toInt64, .long (0 : Int64), .long (((V.1 146 25) - (1 : Int32)).toInt64)]) (V1 := V18) dX12_held_23 l_X12_263 y0X12_in ysX12_in rfl (Nat.le_of_ble_eq_true rfl) (by decide) (Nat.le_of_ble_eq_true rfl) rfl rfl rfl (t_X12_in hG ⟨rfl, rfl⟩ g19) ?_
      refine sx_if_eq (pc := 26) (tgt := 38) dX12_held_26 (by decide) (fun c21 => ?_) (fun c21 => ?_)
      · have h := sx_pos c21 h
        refine sx_iconst (pc := 38) (v := 0) dX12_held_38 (by decide) ?_
        exact sv_iret (pc := 39) dX12_held_39 rfl h hP
      · have h := sx_neg c21 h
        refine sx_aload_n (pc := 29) dX12_held_29 sx_m0 ?_
        refine sv_getA (pc := 30) hG dX12_held_30 f_12_131 lay_146 rfl cr_146_113 ?_
        refine sx_iload_n (pc := 33) dX12_held_33 sx_m2 ?_
        obtain ⟨g22, h⟩ := sx_grd h
        refine sv_iald (pc := 34) hG dX12_held_34 lay_185 g22 ?_
        refine sx_goto (pc := 35) (tgt := 39) dX12_held_35 (by decide) ?_
        exact sv_iret (pc := 39) dX12_held_39 rfl h hP
  · have h := sx_pos c1 h
    refine sx_iconst (pc := 7) (v := 0) dX12_held_7 (by decide) ?_
    exact sv_iret (pc := 8) dX12_held_8 rfl h hP
def ncJ9_floorDiv_f86c9 : Nat := 1194112345982288563863062010510161367938735854153505204701129641667928094
theorem kcJ9_floorDiv_f86c9 : CK cJ9_floorDiv_f86c9 ncJ9_floorDiv_f86c9 30 := ⟨by decide +kernel, by decide +kernel⟩
theorem dJ9_floorDiv_f86c9_0 : decode cJ9_floorDiv_f86c9 0 = .ok (.lload_n 0, 1) := dl_o30 kcJ9_floorDiv_f86c9 (by decide +kernel)
theorem dJ9_floorDiv_f86c9_1 : decode cJ9_floorDiv_f86c9 1 = .ok (.lload_n 2, 1) := dl_o32 kcJ9_floorDiv_f86c9 (by decide +kernel)
theorem dJ9_floorDiv_f86c9_2 : decode cJ9_floorDiv_f86c9 2 = .ok (.ldiv, 1) := dl_o109 kcJ9_floorDiv_f86c9 (by decide +kernel)
theorem dJ9_floorDiv_f86c9_3 : decode cJ9_floorDiv_f86c9 3 = .ok (.lstore 4, 2) := dl_o55 kcJ9_floorDiv_f86c9 (by decide +kernel)
theorem dJ9_floorDiv_f86c9_5 : decode cJ9_floorDiv_f86c9 5 = .ok (.lload_n 0, 1) := dl_o30 kcJ9_floorDiv_f86c9 (by decide +kernel)
theorem dJ9_floorDiv_f86c9_6 : decode cJ9_floorDiv_f86c9 6 = .ok (.lload_n 2, 1) := dl_o32 kcJ9_floorDiv_f86c9 (by decide +kernel)
theorem dJ9_floorDiv_f86c9_7 : decode cJ9_floorDiv_f86c9 7 = .ok (.lxor, 1) := dl_o131 kcJ9_floorDiv_f86c9 (by decide +kernel)
theorem dJ9_floorDiv_f86c9_8 : decode cJ9_floorDiv_f86c9 8 = .ok (.lconst 0, 1) := dl_o9 kcJ9_floorDiv_f86c9 (by decide +kernel)
theorem dJ9_floorDiv_f86c9_9 : decode cJ9_floorDiv_f86c9 9 = .ok (.lcmp, 1) := dl_o148 kcJ9_floorDiv_f86c9 (by decide +kernel)
theorem dJ9_floorDiv_f86c9_10 : decode cJ9_floorDiv_f86c9 10 = .ok (.ifCond .ge 17, 3) := dl_o156 kcJ9_floorDiv_f86c9 17 (by decide +kernel) (by decide +kernel)
theorem dJ9_floorDiv_f86c9_13 : decode cJ9_floorDiv_f86c9 13 = .ok (.lload 4, 2) := dl_o22 kcJ9_floorDiv_f86c9 (by decide +kernel)
theorem dJ9_floorDiv_f86c9_15 : decode cJ9_floorDiv_f86c9 15 = .ok (.lload_n 2, 1) := dl_o32 kcJ9_floorDiv_f86c9 (by decide +kernel)
theorem dJ9_floorDiv_f86c9_16 : decode cJ9_floorDiv_f86c9 16 = .ok (.lmul, 1) := dl_o105 kcJ9_floorDiv_f86c9 (by decide +kernel)
theorem dJ9_floorDiv_f86c9_17 : decode cJ9_floorDiv_f86c9 17 = .ok (.lload_n 0, 1) := dl_o30 kcJ9_floorDiv_f86c9 (by decide +kernel)
theorem dJ9_floorDiv_f86c9_18 : decode cJ9_floorDiv_f86c9 18 = .ok (.lcmp, 1) := dl_o148 kcJ9_floorDiv_f86c9 (by decide +kernel)
theorem dJ9_floorDiv_f86c9_19 : decode cJ9_floorDiv_f86c9 19 = .ok (.ifCond .eq 8, 3) := dl_o153 kcJ9_floorDiv_f86c9 8 (by decide +kernel) (by decide +kernel)
theorem dJ9_floorDiv_f86c9_22 : decode cJ9_floorDiv_f86c9 22 = .ok (.lload 4, 2) := dl_o22 kcJ9_floorDiv_f86c9 (by decide +kernel)
theorem dJ9_floorDiv_f86c9_24 : decode cJ9_floorDiv_f86c9 24 = .ok (.lconst 1, 1) := dl_o10 kcJ9_floorDiv_f86c9 (by decide +kernel)
theorem dJ9_floorDiv_f86c9_25 : decode cJ9_floorDiv_f86c9 25 = .ok (.lsub, 1) := dl_o101 kcJ9_floorDiv_f86c9 (by decide +kernel)
theorem dJ9_floorDiv_f86c9_26 : decode cJ9_floorDiv_f86c9 26 = .ok (.lreturn, 1) := dl_o173 kcJ9_floorDiv_f86c9 (by decide +kernel)
theorem dJ9_floorDiv_f86c9_27 : decode cJ9_floorDiv_f86c9 27 = .ok (.lload 4, 2) := dl_o22 kcJ9_floorDiv_f86c9 (by decide +kernel)
theorem dJ9_floorDiv_f86c9_29 : decode cJ9_floorDiv_f86c9 29 = .ok (.lreturn, 1) := dl_o173 kcJ9_floorDiv_f86c9 (by decide +kernel)
def F_J9_floorDiv_f86c9 (l0 : Int64) (l2 : Int64) (V : sv_V) : Option (Int64 × sv_V) := if ¬ l2 = 0 then sx_let (l0 / l2) (fun x2 => if 0 ≤ (lg_cmp (l0 ^^^ l2) (0 : Int64)) then (some (x2, V)) else (if (lg_cmp (x2 * l2) l0) = 0 then (some (x2, V)) else (some (x2 - (1 : Int64), V)))) else none
set_option maxRecDepth 20000 in
theorem t_J9_floorDiv_f86c9 {g : sx_G} (hG : sx_Go g) {P : Option Value → sv_V → Prop} {r : Int64} {Vr : sv_V} (hP : P (some (.long r)) Vr) {l0 : Int64} {l2 : Int64} {V : sv_V} (h : F_J9_floorDiv_f86c9 l0 l2 V = some (r, Vr)) : sv_N g qJ9_floorDiv_f86c9 0 0 [(0, .long l0), (2, .long l2)] [] V P := by
  unfold F_J9_floorDiv_f86c9 at h
  refine sx_lload_n (pc := 0) dJ9_floorDiv_f86c9_0 sx_m0 ?_
  refine sx_lload_n (pc := 1) dJ9_floorDiv_f86c9_1 sx_m1 ?_
  obtain ⟨g1, h⟩ := sx_grd h
  refine sx_ldiv (pc := 2) dJ9_floorDiv_f86c9_2 g1 ?_
  refine sv_tJ (fun x2 hx2 => ?_)
  have h := sx_letE hx2 h
  refine sx_lstore (pc := 3) (lo' := [(4, .long x2), (0, .long l0), (2, .long l2)]) dJ9_floorDiv_f86c9_3 (by decide) rfl ?_
  refine sx_lload_n (pc := 5) dJ9_floorDiv_f86c9_5 sx_m1 ?_
  refine sx_lload_n (pc := 6) dJ9_floorDiv_f86c9_6 sx_m2 ?_
  refine sx_lxor (pc := 7) dJ9_floorDiv_f86c9_7 ?_
  refine sx_lconst (pc := 8) (v := 0) dJ9_floorDiv_f86c9_8 rfl ?_
  refine sx_lcmp (pc := 9) dJ9_floorDiv_f86c9_9 ?_
  refine sx_if_ge (pc := 10) (tgt := 27) dJ9_floorDiv_f86c9_10 (by decide) (fun c3 => ?_) (fun c3 => ?_)
  · have h := sx_pos c3 h
    refine sx_lload (pc := 27) dJ9_floorDiv_f86c9_27 sx_m0 ?_
    exact sv_lret (pc := 29) dJ9_floorDiv_f86c9_29 rfl h hP
  · have h := sx_neg c3 h
    refine sx_lload (pc := 13) dJ9_floorDiv_f86c9_13 sx_m0 ?_
    refine sx_lload_n (pc := 15) dJ9_floorDiv_f86c9_15 sx_m2 ?_
    refine sx_lmul (pc := 16) dJ9_floorDiv_f86c9_16 ?_
    refine sx_lload_n (pc := 17) dJ9_floorDiv_f86c9_17 sx_m1 ?_
    refine sx_lcmp (pc := 18) dJ9_floorDiv_f86c9_18 ?_
    refine sx_if_eq (pc := 19) (tgt := 27) dJ9_floorDiv_f86c9_19 (by decide) (fun c4 => ?_) (fun c4 => ?_)
    · have h := sx_pos c4 h
      refine sx_lload (pc := 27) dJ9_floorDiv_f86c9_27 sx_m0 ?_
      exact sv_lret (pc := 29) dJ9_floorDiv_f86c9_29 rfl h hP
    · have h := sx_neg c4 h
      refine sx_lload (pc := 22) dJ9_floorDiv_f86c9_22 sx_m0 ?_
      refine sx_lconst (pc := 24) (v := 1) dJ9_floorDiv_f86c9_24 rfl ?_
      refine sx_lsub (pc := 25) dJ9_floorDiv_f86c9_25 ?_
      exact sv_lret (pc := 26) dJ9_floorDiv_f86c9_26 rfl h hP
def ncJ9_abs_067f4 : Nat := 13715761504054694666121499642142
theorem kcJ9_abs_067f4 : CK cJ9_abs_067f4 ncJ9_abs_067f4 13 := ⟨by decide +kernel, by decide +kernel⟩
theorem dJ9_abs_067f4_0 : decode cJ9_abs_067f4 0 = .ok (.lload_n 0, 1) := dl_o30 kcJ9_abs_067f4 (by decide +kernel)
theorem dJ9_abs_067f4_1 : decode cJ9_abs_067f4 1 = .ok (.lconst 0, 1) := dl_o9 kcJ9_abs_067f4 (by decide +kernel)
theorem dJ9_abs_067f4_2 : decode cJ9_abs_067f4 2 = .ok (.lcmp, 1) := dl_o148 kcJ9_abs_067f4 (by decide +kernel)
theorem dJ9_abs_067f4_3 : decode cJ9_abs_067f4 3 = .ok (.ifCond .ge 8, 3) := dl_o156 kcJ9_abs_067f4 8 (by decide +kernel) (by decide +kernel)
theorem dJ9_abs_067f4_6 : decode cJ9_abs_067f4 6 = .ok (.lload_n 0, 1) := dl_o30 kcJ9_abs_067f4 (by decide +kernel)
theorem dJ9_abs_067f4_7 : decode cJ9_abs_067f4 7 = .ok (.lneg, 1) := dl_o117 kcJ9_abs_067f4 (by decide +kernel)
theorem dJ9_abs_067f4_8 : decode cJ9_abs_067f4 8 = .ok (.goto 4, 3) := dl_o167 kcJ9_abs_067f4 4 (by decide +kernel) (by decide +kernel)
theorem dJ9_abs_067f4_11 : decode cJ9_abs_067f4 11 = .ok (.lload_n 0, 1) := dl_o30 kcJ9_abs_067f4 (by decide +kernel)
theorem dJ9_abs_067f4_12 : decode cJ9_abs_067f4 12 = .ok (.lreturn, 1) := dl_o173 kcJ9_abs_067f4 (by decide +kernel)
def F_J9_abs_067f4 (l0 : Int64) (V : sv_V) : Option (Int64 × sv_V) := if 0 ≤ (lg_cmp l0 (0 : Int64)) then (some (l0, V)) else (some (-l0, V))
set_option maxRecDepth 20000 in
theorem t_J9_abs_067f4 {g : sx_G} (hG : sx_Go g) {P : Option Value → sv_V → Prop} {r : Int64} {Vr : sv_V} (hP : P (some (.long r)) Vr) {l0 : Int64} {V : sv_V} (h : F_J9_abs_067f4 l0 V = some (r, Vr)) : sv_N g qJ9_abs_067f4 0 0 [(0, .long l0)] [] V P := by
  unfold F_J9_abs_067f4 at h
  refine sx_lload_n (pc := 0) dJ9_abs_067f4_0 sx_m0 ?_
  refine sx_lconst (pc := 1) (v := 0) dJ9_abs_067f4_1 rfl ?_
  refine sx_lcmp (pc := 2) dJ9_abs_067f4_2 ?_
  refine sx_if_ge (pc := 3) (tgt := 11) dJ9_abs_067f4_3 (by decide) (fun c1 => ?_) (fun c1 => ?_)
  · have h := sx_pos c1 h
    refine sx_lload_n (pc := 11) dJ9_abs_067f4_11 sx_m0 ?_
    exact sv_lret (pc := 12) dJ9_abs_067f4_12 rfl h hP
  · have h := sx_neg c1 h
    refine sx_lload_n (pc := 6) dJ9_abs_067f4_6 sx_m0 ?_
    refine sx_lneg (pc := 7) dJ9_abs_067f4_7 ?_
    refine sx_goto (pc := 8) (tgt := 12) dJ9_abs_067f4_8 (by decide) ?_
    exact sv_lret (pc := 12) dJ9_abs_067f4_12 rfl h hP
def ncJ9_max_7cf53 : Nat := 208062818702764931796769562
theorem kcJ9_max_7cf53 : CK cJ9_max_7cf53 ncJ9_max_7cf53 11 := ⟨by decide +kernel, by decide +kernel⟩
theorem dJ9_max_7cf53_0 : decode cJ9_max_7cf53 0 = .ok (.iload_n 0, 1) := dl_o26 kcJ9_max_7cf53 (by decide +kernel)
theorem dJ9_max_7cf53_1 : decode cJ9_max_7cf53 1 = .ok (.iload_n 1, 1) := dl_o27 kcJ9_max_7cf53 (by decide +kernel)
theorem dJ9_max_7cf53_2 : decode cJ9_max_7cf53 2 = .ok (.if_icmp .lt 7, 3) := dl_o161 kcJ9_max_7cf53 7 (by decide +kernel) (by decide +kernel)
theorem dJ9_max_7cf53_5 : decode cJ9_max_7cf53 5 = .ok (.iload_n 0, 1) := dl_o26 kcJ9_max_7cf53 (by decide +kernel)
theorem dJ9_max_7cf53_6 : decode cJ9_max_7cf53 6 = .ok (.goto 4, 3) := dl_o167 kcJ9_max_7cf53 4 (by decide +kernel) (by decide +kernel)
theorem dJ9_max_7cf53_9 : decode cJ9_max_7cf53 9 = .ok (.iload_n 1, 1) := dl_o27 kcJ9_max_7cf53 (by decide +kernel)
theorem dJ9_max_7cf53_10 : decode cJ9_max_7cf53 10 = .ok (.ireturn, 1) := dl_o172 kcJ9_max_7cf53 (by decide +kernel)
def F_J9_max_7cf53 (l0 : Int32) (l1 : Int32) (V : sv_V) : Option (Int32 × sv_V) := if l0 < l1 then (some (l1, V)) else (some (l0, V))
set_option maxRecDepth 20000 in
theorem t_J9_max_7cf53 {g : sx_G} (hG : sx_Go g) {P : Option Value → sv_V → Prop} {r : Int32} {Vr : sv_V} (hP : P (some (.int r)) Vr) {l0 : Int32} {l1 : Int32} {V : sv_V} (h : F_J9_max_7cf53 l0 l1 V = some (r, Vr)) : sv_N g qJ9_max_7cf53 0 0 [(0, .int l0), (1, .int l1)] [] V P := by
  unfold F_J9_max_7cf53 at h
  refine sx_iload_n (pc := 0) dJ9_max_7cf53_0 sx_m0 ?_
  refine sx_iload_n (pc := 1) dJ9_max_7cf53_1 sx_m1 ?_
  refine sx_icmp_lt (pc := 2) (tgt := 9) dJ9_max_7cf53_2 (by decide) (fun c1 => ?_) (fun c1 => ?_)
  · have h := sx_pos c1 h
    refine sx_iload_n (pc := 9) dJ9_max_7cf53_9 sx_m1 ?_
    exact sv_iret (pc := 10) dJ9_max_7cf53_10 rfl h hP
  · have h := sx_neg c1 h
    refine sx_iload_n (pc := 5) dJ9_max_7cf53_5 sx_m0 ?_
    refine sx_goto (pc := 6) (tgt := 10) dJ9_max_7cf53_6 (by decide) ?_
    exact sv_iret (pc := 10) dJ9_max_7cf53_10 rfl h hP
def ncJ9_max_f86c9 : Nat := 53579611226828366654385430558
theorem kcJ9_max_f86c9 : CK cJ9_max_f86c9 ncJ9_max_f86c9 12 := ⟨by decide +kernel, by decide +kernel⟩
theorem dJ9_max_f86c9_0 : decode cJ9_max_f86c9 0 = .ok (.lload_n 0, 1) := dl_o30 kcJ9_max_f86c9 (by decide +kernel)
theorem dJ9_max_f86c9_1 : decode cJ9_max_f86c9 1 = .ok (.lload_n 2, 1) := dl_o32 kcJ9_max_f86c9 (by decide +kernel)
theorem dJ9_max_f86c9_2 : decode cJ9_max_f86c9 2 = .ok (.lcmp, 1) := dl_o148 kcJ9_max_f86c9 (by decide +kernel)
theorem dJ9_max_f86c9_3 : decode cJ9_max_f86c9 3 = .ok (.ifCond .lt 7, 3) := dl_o155 kcJ9_max_f86c9 7 (by decide +kernel) (by decide +kernel)
theorem dJ9_max_f86c9_6 : decode cJ9_max_f86c9 6 = .ok (.lload_n 0, 1) := dl_o30 kcJ9_max_f86c9 (by decide +kernel)
theorem dJ9_max_f86c9_7 : decode cJ9_max_f86c9 7 = .ok (.goto 4, 3) := dl_o167 kcJ9_max_f86c9 4 (by decide +kernel) (by decide +kernel)
theorem dJ9_max_f86c9_10 : decode cJ9_max_f86c9 10 = .ok (.lload_n 2, 1) := dl_o32 kcJ9_max_f86c9 (by decide +kernel)
theorem dJ9_max_f86c9_11 : decode cJ9_max_f86c9 11 = .ok (.lreturn, 1) := dl_o173 kcJ9_max_f86c9 (by decide +kernel)
def F_J9_max_f86c9 (l0 : Int64) (l2 : Int64) (V : sv_V) : Option (Int64 × sv_V) := if (lg_cmp l0 l2) < 0 then (some (l2, V)) else (some (l0, V))
set_option maxRecDepth 20000 in
theorem t_J9_max_f86c9 {g : sx_G} (hG : sx_Go g) {P : Option Value → sv_V → Prop} {r : Int64} {Vr : sv_V} (hP : P (some (.long r)) Vr) {l0 : Int64} {l2 : Int64} {V : sv_V} (h : F_J9_max_f86c9 l0 l2 V = some (r, Vr)) : sv_N g qJ9_max_f86c9 0 0 [(0, .long l0), (2, .long l2)] [] V P := by
  unfold F_J9_max_f86c9 at h
  refine sx_lload_n (pc := 0) dJ9_max_f86c9_0 sx_m0 ?_
  refine sx_lload_n (pc := 1) dJ9_max_f86c9_1 sx_m1 ?_
  refine sx_lcmp (pc := 2) dJ9_max_f86c9_2 ?_
  refine sx_if_lt (pc := 3) (tgt := 10) dJ9_max_f86c9_3 (by decide) (fun c1 => ?_) (fun c1 => ?_)
  · have h := sx_pos c1 h
    refine sx_lload_n (pc := 10) dJ9_max_f86c9_10 sx_m1 ?_
    exact sv_lret (pc := 11) dJ9_max_f86c9_11 rfl h hP
  · have h := sx_neg c1 h
    refine sx_lload_n (pc := 6) dJ9_max_f86c9_6 sx_m0 ?_
    refine sx_goto (pc := 7) (tgt := 11) dJ9_max_f86c9_7 (by decide) ?_
    exact sv_lret (pc := 11) dJ9_max_f86c9_11 rfl h hP
def ncJ9_min_7cf53 : Nat := 208062818702764931796900634
theorem kcJ9_min_7cf53 : CK cJ9_min_7cf53 ncJ9_min_7cf53 11 := ⟨by decide +kernel, by decide +kernel⟩
theorem dJ9_min_7cf53_0 : decode cJ9_min_7cf53 0 = .ok (.iload_n 0, 1) := dl_o26 kcJ9_min_7cf53 (by decide +kernel)
theorem dJ9_min_7cf53_1 : decode cJ9_min_7cf53 1 = .ok (.iload_n 1, 1) := dl_o27 kcJ9_min_7cf53 (by decide +kernel)
theorem dJ9_min_7cf53_2 : decode cJ9_min_7cf53 2 = .ok (.if_icmp .gt 7, 3) := dl_o163 kcJ9_min_7cf53 7 (by decide +kernel) (by decide +kernel)
theorem dJ9_min_7cf53_5 : decode cJ9_min_7cf53 5 = .ok (.iload_n 0, 1) := dl_o26 kcJ9_min_7cf53 (by decide +kernel)
theorem dJ9_min_7cf53_6 : decode cJ9_min_7cf53 6 = .ok (.goto 4, 3) := dl_o167 kcJ9_min_7cf53 4 (by decide +kernel) (by decide +kernel)
theorem dJ9_min_7cf53_9 : decode cJ9_min_7cf53 9 = .ok (.iload_n 1, 1) := dl_o27 kcJ9_min_7cf53 (by decide +kernel)
theorem dJ9_min_7cf53_10 : decode cJ9_min_7cf53 10 = .ok (.ireturn, 1) := dl_o172 kcJ9_min_7cf53 (by decide +kernel)
def F_J9_min_7cf53 (l0 : Int32) (l1 : Int32) (V : sv_V) : Option (Int32 × sv_V) := if l1 < l0 then (some (l1, V)) else (some (l0, V))
set_option maxRecDepth 20000 in
theorem t_J9_min_7cf53 {g : sx_G} (hG : sx_Go g) {P : Option Value → sv_V → Prop} {r : Int32} {Vr : sv_V} (hP : P (some (.int r)) Vr) {l0 : Int32} {l1 : Int32} {V : sv_V} (h : F_J9_min_7cf53 l0 l1 V = some (r, Vr)) : sv_N g qJ9_min_7cf53 0 0 [(0, .int l0), (1, .int l1)] [] V P := by
  unfold F_J9_min_7cf53 at h
  refine sx_iload_n (pc := 0) dJ9_min_7cf53_0 sx_m0 ?_
  refine sx_iload_n (pc := 1) dJ9_min_7cf53_1 sx_m1 ?_
  refine sx_icmp_gt (pc := 2) (tgt := 9) dJ9_min_7cf53_2 (by decide) (fun c1 => ?_) (fun c1 => ?_)
  · have h := sx_pos c1 h
    refine sx_iload_n (pc := 9) dJ9_min_7cf53_9 sx_m1 ?_
    exact sv_iret (pc := 10) dJ9_min_7cf53_10 rfl h hP
  · have h := sx_neg c1 h
    refine sx_iload_n (pc := 5) dJ9_min_7cf53_5 sx_m0 ?_
    refine sx_goto (pc := 6) (tgt := 10) dJ9_min_7cf53_6 (by decide) ?_
    exact sv_iret (pc := 10) dJ9_min_7cf53_10 rfl h hP
def ncJ9_min_f86c9 : Nat := 53579611226828366654418984990
theorem kcJ9_min_f86c9 : CK cJ9_min_f86c9 ncJ9_min_f86c9 12 := ⟨by decide +kernel, by decide +kernel⟩
theorem dJ9_min_f86c9_0 : decode cJ9_min_f86c9 0 = .ok (.lload_n 0, 1) := dl_o30 kcJ9_min_f86c9 (by decide +kernel)
theorem dJ9_min_f86c9_1 : decode cJ9_min_f86c9 1 = .ok (.lload_n 2, 1) := dl_o32 kcJ9_min_f86c9 (by decide +kernel)
theorem dJ9_min_f86c9_2 : decode cJ9_min_f86c9 2 = .ok (.lcmp, 1) := dl_o148 kcJ9_min_f86c9 (by decide +kernel)
theorem dJ9_min_f86c9_3 : decode cJ9_min_f86c9 3 = .ok (.ifCond .gt 7, 3) := dl_o157 kcJ9_min_f86c9 7 (by decide +kernel) (by decide +kernel)
theorem dJ9_min_f86c9_6 : decode cJ9_min_f86c9 6 = .ok (.lload_n 0, 1) := dl_o30 kcJ9_min_f86c9 (by decide +kernel)
theorem dJ9_min_f86c9_7 : decode cJ9_min_f86c9 7 = .ok (.goto 4, 3) := dl_o167 kcJ9_min_f86c9 4 (by decide +kernel) (by decide +kernel)
theorem dJ9_min_f86c9_10 : decode cJ9_min_f86c9 10 = .ok (.lload_n 2, 1) := dl_o32 kcJ9_min_f86c9 (by decide +kernel)
theorem dJ9_min_f86c9_11 : decode cJ9_min_f86c9 11 = .ok (.lreturn, 1) := dl_o173 kcJ9_min_f86c9 (by decide +kernel)
def F_J9_min_f86c9 (l0 : Int64) (l2 : Int64) (V : sv_V) : Option (Int64 × sv_V) := if 0 < (lg_cmp l0 l2) then (some (l2, V)) else (some (l0, V))
set_option maxRecDepth 20000 in
theorem t_J9_min_f86c9 {g : sx_G} (hG : sx_Go g) {P : Option Value → sv_V → Prop} {r : Int64} {Vr : sv_V} (hP : P (some (.long r)) Vr) {l0 : Int64} {l2 : Int64} {V : sv_V} (h : F_J9_min_f86c9 l0 l2 V = some (r, Vr)) : sv_N g qJ9_min_f86c9 0 0 [(0, .long l0), (2, .long l2)] [] V P := by
  unfold F_J9_min_f86c9 at h
  refine sx_lload_n (pc := 0) dJ9_min_f86c9_0 sx_m0 ?_
  refine sx_lload_n (pc := 1) dJ9_min_f86c9_1 sx_m1 ?_
  refine sx_lcmp (pc := 2) dJ9_min_f86c9_2 ?_
  refine sx_if_gt (pc := 3) (tgt := 10) dJ9_min_f86c9_3 (by decide) (fun c1 => ?_) (fun c1 => ?_)
  · have h := sx_pos c1 h
    refine sx_lload_n (pc := 10) dJ9_min_f86c9_10 sx_m1 ?_
    exact sv_lret (pc := 11) dJ9_min_f86c9_11 rfl h hP
  · have h := sx_neg c1 h
    refine sx_lload_n (pc := 6) dJ9_min_f86c9_6 sx_m0 ?_
    refine sx_goto (pc := 7) (tgt := 11) dJ9_min_f86c9_7 (by decide) ?_
    exact sv_lret (pc := 11) dJ9_min_f86c9_11 rfl h hP
def ncJ7_fill_53178 : Nat := 260084484793771837089383454476700660118993838423299
theorem kcJ7_fill_53178 : CK cJ7_fill_53178 ncJ7_fill_53178 21 := ⟨by decide +kernel, by decide +kernel⟩
theorem dJ7_fill_53178_0 : decode cJ7_fill_53178 0 = .ok (.iconst 0, 1) := dl_o3 kcJ7_fill_53178 (by decide +kernel)
theorem dJ7_fill_53178_1 : decode cJ7_fill_53178 1 = .ok (.istore_n 2, 1) := dl_o61 kcJ7_fill_53178 (by decide +kernel)
theorem dJ7_fill_53178_2 : decode cJ7_fill_53178 2 = .ok (.aload_n 0, 1) := dl_o42 kcJ7_fill_53178 (by decide +kernel)
theorem dJ7_fill_53178_3 : decode cJ7_fill_53178 3 = .ok (.arraylength, 1) := dl_o190 kcJ7_fill_53178 (by decide +kernel)
theorem dJ7_fill_53178_4 : decode cJ7_fill_53178 4 = .ok (.istore_n 3, 1) := dl_o62 kcJ7_fill_53178 (by decide +kernel)
theorem dJ7_fill_53178_5 : decode cJ7_fill_53178 5 = .ok (.iload_n 2, 1) := dl_o28 kcJ7_fill_53178 (by decide +kernel)
theorem dJ7_fill_53178_6 : decode cJ7_fill_53178 6 = .ok (.iload_n 3, 1) := dl_o29 kcJ7_fill_53178 (by decide +kernel)
theorem dJ7_fill_53178_7 : decode cJ7_fill_53178 7 = .ok (.if_icmp .ge 13, 3) := dl_o162 kcJ7_fill_53178 13 (by decide +kernel) (by decide +kernel)
theorem dJ7_fill_53178_10 : decode cJ7_fill_53178 10 = .ok (.aload_n 0, 1) := dl_o42 kcJ7_fill_53178 (by decide +kernel)
theorem dJ7_fill_53178_11 : decode cJ7_fill_53178 11 = .ok (.iload_n 2, 1) := dl_o28 kcJ7_fill_53178 (by decide +kernel)
theorem dJ7_fill_53178_12 : decode cJ7_fill_53178 12 = .ok (.iload_n 1, 1) := dl_o27 kcJ7_fill_53178 (by decide +kernel)
theorem dJ7_fill_53178_13 : decode cJ7_fill_53178 13 = .ok (.iastore, 1) := dl_o79 kcJ7_fill_53178 (by decide +kernel)
theorem dJ7_fill_53178_14 : decode cJ7_fill_53178 14 = .ok (.iinc 2 1, 3) := by decide +kernel
theorem dJ7_fill_53178_17 : decode cJ7_fill_53178 17 = .ok (.goto (-12), 3) := dl_o167 kcJ7_fill_53178 65524 (by decide +kernel) (by decide +kernel)
theorem dJ7_fill_53178_20 : decode cJ7_fill_53178 20 = .ok (.return_, 1) := dl_o177 kcJ7_fill_53178 (by decide +kernel)
def B_J7_fill_53178_5 (N : Nat) (k5 : Nat → Int32 → Int32 → Int32 → sv_V → Option sv_V) (l0 : Nat) (l1 : Int32) (l2 : Int32) (l3 : Int32) (V : sv_V) : Option sv_V := if l3 ≤ l2 then (some V) else ((sv_len 0 l0).bind (fun n2 => if sx_in l2 n2 = true then sx_let (sv_I V l0 l2.toNatClampNeg l1) (fun V5 => sx_let (l2 + 1) (fun x6 => k5 l0 l1 x6 l3 V5)) else none))
set_option maxRecDepth 20000 in
theorem tB_J7_fill_53178_5 {g : sx_G} (hG : sx_Go g) {P : Option Value → sv_V → Prop} {Vr : sv_V} (hP : P none Vr) {N : Nat} {k5 : Nat → Int32 → Int32 → Int32 → sv_V → Option sv_V} (hk5 : ∀ (l0 : Nat) (l1 : Int32) (l2 : Int32) (l3 : Int32) (V : sv_V), k5 l0 l1 l2 l3 V = some Vr → sv_N g qJ7_fill_53178 0 5 [(0, .ref l0), (1, .int l1), (2, .int l2), (3, .int l3)] [] V P) {l0 : Nat} {l1 : Int32} {l2 : Int32} {l3 : Int32} {V : sv_V} (h : B_J7_fill_53178_5 N k5 l0 l1 l2 l3 V = some Vr) : sv_N g qJ7_fill_53178 0 5 [(0, .ref l0), (1, .int l1), (2, .int l2), (3, .int l3)] [] V P := by
  unfold B_J7_fill_53178_5 at h
  refine sx_iload_n (pc := 5) dJ7_fill_53178_5 sx_m2 ?_
  refine sx_iload_n (pc := 6) dJ7_fill_53178_6 sx_m3 ?_
  refine sx_icmp_ge (pc := 7) (tgt := 20) dJ7_fill_53178_7 (by decide) (fun c1 => ?_) (fun c1 => ?_)
  · have h := sx_pos c1 h
    exact sv_vret (pc := 20) dJ7_fill_53178_20 rfl h hP
  · have h := sx_neg c1 h
    refine sx_aload_n (pc := 10) dJ7_fill_53178_10 sx_m0 ?_
    refine sx_iload_n (pc := 11) dJ7_fill_53178_11 sx_m2 ?_
    refine sx_iload_n (pc := 12) dJ7_fill_53178_12 sx_m1 ?_
    obtain ⟨n2, g3, h⟩ := sx_bnd h
    obtain ⟨g4, h⟩ := sx_grd h
    obtain ⟨V5, hV5⟩ : ∃ z : sv_V, z = sv_I V l0 l2.toNatClampNeg l1 := ⟨_, rfl⟩
    have h := sx_letE hV5 h
    refine sv_iast (pc := 13) hG dJ7_fill_53178_13 (sv_len_e g3) g4 hV5 ?_
    obtain ⟨x6, hx6⟩ : ∃ z : Int32, z = l2 + 1 := ⟨_, rfl⟩
    have h := sx_letE hx6 h
    refine sx_iinc (pc := 14) (v := x6) (lo' := [(2, .int x6), (0, .ref l0), (1, .int l1), (3, .int l3)]) dJ7_fill_53178_14 sx_m2 (by rw [hx6]; rfl) (by decide) rfl ?_
    refine sx_goto (pc := 17) (tgt := 5) dJ7_fill_53178_17 (by decide) ?_
    refine sx_wk (sx_s1 sx_m1 (sx_s1 sx_m2 (sx_s1 sx_m0 (sx_s1 sx_m3 sx_s0)))) ?_
    exact hk5 _ _ _ _ _ h
theorem tL_J7_fill_53178_5 {g : sx_G} (hG : sx_Go g) {P : Option Value → sv_V → Prop} {Vr : sv_V} (hP : P none Vr) {N : Nat}   : ∀ (n : Nat) (l0 : Nat) (l1 : Int32) (l2 : Int32) (l3 : Int32) (V : sv_V), sx_lp5 (B_J7_fill_53178_5 N ) n l0 l1 l2 l3 V = some Vr → sv_N g qJ7_fill_53178 0 5 [(0, .ref l0), (1, .int l1), (2, .int l2), (3, .int l3)] [] V P :=
  sx_lp5_ind (fun k0 ih _ _ _ _ V h => tB_J7_fill_53178_5 hG hP ih h)
def F_J7_fill_53178 (N : Nat) (l0 : Nat) (l1 : Int32) (V : sv_V) : Option sv_V := (sv_len 0 l0).bind (fun n7 => sx_let (Int32.ofNat n7) (fun x9 => sx_lp5 (B_J7_fill_53178_5 N ) N l0 l1 (0 : Int32) x9 V))
set_option maxRecDepth 20000 in
theorem t_J7_fill_53178 {g : sx_G} (hG : sx_Go g) {P : Option Value → sv_V → Prop} {Vr : sv_V} (hP : P none Vr) {N : Nat} {l0 : Nat} {l1 : Int32} {V : sv_V} (h : F_J7_fill_53178 N l0 l1 V = some Vr) : sv_N g qJ7_fill_53178 0 0 [(0, .ref l0), (1, .int l1)] [] V P := by
  unfold F_J7_fill_53178 at h
  refine sx_iconst (pc := 0) (v := 0) dJ7_fill_53178_0 (by decide) ?_
  refine sx_istore_n (pc := 1) (lo' := [(2, .int (0 : Int32)), (0, .ref l0), (1, .int l1)]) dJ7_fill_53178_1 (by decide) rfl ?_
  refine sx_aload_n (pc := 2) dJ7_fill_53178_2 sx_m1 ?_
  obtain ⟨n7, g8, h⟩ := sx_bnd h
  refine sv_alen (pc := 3) hG dJ7_fill_53178_3 (by decide) (sv_len_e g8) ?_
  refine sv_tI (fun x9 hx9 => ?_)
  have h := sx_letE hx9 h
  refine sx_istore_n (pc := 4) (lo' := [(3, .int x9), (2, .int (0 : Int32)), (0, .ref l0), (1, .int l1)]) dJ7_fill_53178_4 (by decide) rfl ?_
  refine sx_wk (sx_s1 sx_m2 (sx_s1 sx_m3 (sx_s1 sx_m1 (sx_s1 sx_m0 sx_s0)))) ?_
  exact tL_J7_fill_53178_5 hG hP  N _ _ _ _ _ h
def ncJ7_fill_031fb : Nat := 260084484793771837190795502494959012238730094853379
theorem kcJ7_fill_031fb : CK cJ7_fill_031fb ncJ7_fill_031fb 21 := ⟨by decide +kernel, by decide +kernel⟩
theorem dJ7_fill_031fb_0 : decode cJ7_fill_031fb 0 = .ok (.iconst 0, 1) := dl_o3 kcJ7_fill_031fb (by decide +kernel)
theorem dJ7_fill_031fb_1 : decode cJ7_fill_031fb 1 = .ok (.istore_n 2, 1) := dl_o61 kcJ7_fill_031fb (by decide +kernel)
theorem dJ7_fill_031fb_2 : decode cJ7_fill_031fb 2 = .ok (.aload_n 0, 1) := dl_o42 kcJ7_fill_031fb (by decide +kernel)
theorem dJ7_fill_031fb_3 : decode cJ7_fill_031fb 3 = .ok (.arraylength, 1) := dl_o190 kcJ7_fill_031fb (by decide +kernel)
theorem dJ7_fill_031fb_4 : decode cJ7_fill_031fb 4 = .ok (.istore_n 3, 1) := dl_o62 kcJ7_fill_031fb (by decide +kernel)
theorem dJ7_fill_031fb_5 : decode cJ7_fill_031fb 5 = .ok (.iload_n 2, 1) := dl_o28 kcJ7_fill_031fb (by decide +kernel)
theorem dJ7_fill_031fb_6 : decode cJ7_fill_031fb 6 = .ok (.iload_n 3, 1) := dl_o29 kcJ7_fill_031fb (by decide +kernel)
theorem dJ7_fill_031fb_7 : decode cJ7_fill_031fb 7 = .ok (.if_icmp .ge 13, 3) := dl_o162 kcJ7_fill_031fb 13 (by decide +kernel) (by decide +kernel)
theorem dJ7_fill_031fb_10 : decode cJ7_fill_031fb 10 = .ok (.aload_n 0, 1) := dl_o42 kcJ7_fill_031fb (by decide +kernel)
theorem dJ7_fill_031fb_11 : decode cJ7_fill_031fb 11 = .ok (.iload_n 2, 1) := dl_o28 kcJ7_fill_031fb (by decide +kernel)
theorem dJ7_fill_031fb_12 : decode cJ7_fill_031fb 12 = .ok (.iload_n 1, 1) := dl_o27 kcJ7_fill_031fb (by decide +kernel)
theorem dJ7_fill_031fb_13 : decode cJ7_fill_031fb 13 = .ok (.bastore, 1) := dl_o84 kcJ7_fill_031fb (by decide +kernel)
theorem dJ7_fill_031fb_14 : decode cJ7_fill_031fb 14 = .ok (.iinc 2 1, 3) := by decide +kernel
theorem dJ7_fill_031fb_17 : decode cJ7_fill_031fb 17 = .ok (.goto (-12), 3) := dl_o167 kcJ7_fill_031fb 65524 (by decide +kernel) (by decide +kernel)
theorem dJ7_fill_031fb_20 : decode cJ7_fill_031fb 20 = .ok (.return_, 1) := dl_o177 kcJ7_fill_031fb (by decide +kernel)
def B_J7_fill_031fb_5 (N : Nat) (k5 : Nat → Int32 → Int32 → Int32 → sv_V → Option sv_V) (l0 : Nat) (l1 : Int32) (l2 : Int32) (l3 : Int32) (V : sv_V) : Option sv_V := if l3 ≤ l2 then (some V) else ((sv_len 1 l0).bind (fun n2 => if sx_in l2 n2 = true then sx_let (sv_I V l0 l2.toNatClampNeg l1.toInt8.toInt32) (fun V5 => sx_let (l2 + 1) (fun x6 => k5 l0 l1 x6 l3 V5)) else none))
set_option maxRecDepth 20000 in
theorem tB_J7_fill_031fb_5 {g : sx_G} (hG : sx_Go g) {P : Option Value → sv_V → Prop} {Vr : sv_V} (hP : P none Vr) {N : Nat} {k5 : Nat → Int32 → Int32 → Int32 → sv_V → Option sv_V} (hk5 : ∀ (l0 : Nat) (l1 : Int32) (l2 : Int32) (l3 : Int32) (V : sv_V), k5 l0 l1 l2 l3 V = some Vr → sv_N g qJ7_fill_031fb 0 5 [(0, .ref l0), (1, .int l1), (2, .int l2), (3, .int l3)] [] V P) {l0 : Nat} {l1 : Int32} {l2 : Int32} {l3 : Int32} {V : sv_V} (h : B_J7_fill_031fb_5 N k5 l0 l1 l2 l3 V = some Vr) : sv_N g qJ7_fill_031fb 0 5 [(0, .ref l0), (1, .int l1), (2, .int l2), (3, .int l3)] [] V P := by
  unfold B_J7_fill_031fb_5 at h
  refine sx_iload_n (pc := 5) dJ7_fill_031fb_5 sx_m2 ?_
  refine sx_iload_n (pc := 6) dJ7_fill_031fb_6 sx_m3 ?_
  refine sx_icmp_ge (pc := 7) (tgt := 20) dJ7_fill_031fb_7 (by decide) (fun c1 => ?_) (fun c1 => ?_)
  · have h := sx_pos c1 h
    exact sv_vret (pc := 20) dJ7_fill_031fb_20 rfl h hP
  · have h := sx_neg c1 h
    refine sx_aload_n (pc := 10) dJ7_fill_031fb_10 sx_m0 ?_
    refine sx_iload_n (pc := 11) dJ7_fill_031fb_11 sx_m2 ?_
    refine sx_iload_n (pc := 12) dJ7_fill_031fb_12 sx_m1 ?_
    obtain ⟨n2, g3, h⟩ := sx_bnd h
    obtain ⟨g4, h⟩ := sx_grd h
    obtain ⟨V5, hV5⟩ : ∃ z : sv_V, z = sv_I V l0 l2.toNatClampNeg l1.toInt8.toInt32 := ⟨_, rfl⟩
    have h := sx_letE hV5 h
    refine sv_bast (pc := 13) hG dJ7_fill_031fb_13 (sv_len_e g3) g4 hV5 ?_
    obtain ⟨x6, hx6⟩ : ∃ z : Int32, z = l2 + 1 := ⟨_, rfl⟩
    have h := sx_letE hx6 h
    refine sx_iinc (pc := 14) (v := x6) (lo' := [(2, .int x6), (0, .ref l0), (1, .int l1), (3, .int l3)]) dJ7_fill_031fb_14 sx_m2 (by rw [hx6]; rfl) (by decide) rfl ?_
    refine sx_goto (pc := 17) (tgt := 5) dJ7_fill_031fb_17 (by decide) ?_
    refine sx_wk (sx_s1 sx_m1 (sx_s1 sx_m2 (sx_s1 sx_m0 (sx_s1 sx_m3 sx_s0)))) ?_
    exact hk5 _ _ _ _ _ h
theorem tL_J7_fill_031fb_5 {g : sx_G} (hG : sx_Go g) {P : Option Value → sv_V → Prop} {Vr : sv_V} (hP : P none Vr) {N : Nat}   : ∀ (n : Nat) (l0 : Nat) (l1 : Int32) (l2 : Int32) (l3 : Int32) (V : sv_V), sx_lp5 (B_J7_fill_031fb_5 N ) n l0 l1 l2 l3 V = some Vr → sv_N g qJ7_fill_031fb 0 5 [(0, .ref l0), (1, .int l1), (2, .int l2), (3, .int l3)] [] V P :=
  sx_lp5_ind (fun k0 ih _ _ _ _ V h => tB_J7_fill_031fb_5 hG hP ih h)
def F_J7_fill_031fb (N : Nat) (l0 : Nat) (l1 : Int32) (V : sv_V) : Option sv_V := (sv_len 1 l0).bind (fun n7 => sx_let (Int32.ofNat n7) (fun x9 => sx_lp5 (B_J7_fill_031fb_5 N ) N l0 l1 (0 : Int32) x9 V))
set_option maxRecDepth 20000 in
theorem t_J7_fill_031fb {g : sx_G} (hG : sx_Go g) {P : Option Value → sv_V → Prop} {Vr : sv_V} (hP : P none Vr) {N : Nat} {l0 : Nat} {l1 : Int32} {V : sv_V} (h : F_J7_fill_031fb N l0 l1 V = some Vr) : sv_N g qJ7_fill_031fb 0 0 [(0, .ref l0), (1, .int l1)] [] V P := by
  unfold F_J7_fill_031fb at h
  refine sx_iconst (pc := 0) (v := 0) dJ7_fill_031fb_0 (by decide) ?_
  refine sx_istore_n (pc := 1) (lo' := [(2, .int (0 : Int32)), (0, .ref l0), (1, .int l1)]) dJ7_fill_031fb_1 (by decide) rfl ?_
  refine sx_aload_n (pc := 2) dJ7_fill_031fb_2 sx_m1 ?_
  obtain ⟨n7, g8, h⟩ := sx_bnd h
  refine sv_alen (pc := 3) hG dJ7_fill_031fb_3 (by decide) (sv_len_e g8) ?_
  refine sv_tI (fun x9 hx9 => ?_)
  have h := sx_letE hx9 h
  refine sx_istore_n (pc := 4) (lo' := [(3, .int x9), (2, .int (0 : Int32)), (0, .ref l0), (1, .int l1)]) dJ7_fill_031fb_4 (by decide) rfl ?_
  refine sx_wk (sx_s1 sx_m2 (sx_s1 sx_m3 (sx_s1 sx_m1 (sx_s1 sx_m0 sx_s0)))) ?_
  exact tL_J7_fill_031fb_5 hG hP  N _ _ _ _ _ h
def ncX0_forgetAll : Nat := 3951239305899480584047953799177753891902108714
theorem kcX0_forgetAll : CK cX0_forgetAll ncX0_forgetAll 19 := ⟨by decide +kernel, by decide +kernel⟩
theorem dX0_forgetAll_0 : decode cX0_forgetAll 0 = .ok (.aload_n 0, 1) := dl_o42 kcX0_forgetAll (by decide +kernel)
theorem dX0_forgetAll_1 : decode cX0_forgetAll 1 = .ok (.getfield 18, 3) := dl_o180 kcX0_forgetAll (by decide +kernel)
theorem dX0_forgetAll_4 : decode cX0_forgetAll 4 = .ok (.iconst (-1), 1) := dl_o2 kcX0_forgetAll (by decide +kernel)
theorem dX0_forgetAll_5 : decode cX0_forgetAll 5 = .ok (.invokestatic 36, 3) := dl_o184 kcX0_forgetAll (by decide +kernel)
theorem dX0_forgetAll_8 : decode cX0_forgetAll 8 = .ok (.aload_n 0, 1) := dl_o42 kcX0_forgetAll (by decide +kernel)
theorem dX0_forgetAll_9 : decode cX0_forgetAll 9 = .ok (.iconst 0, 1) := dl_o3 kcX0_forgetAll (by decide +kernel)
theorem dX0_forgetAll_10 : decode cX0_forgetAll 10 = .ok (.putfield 42, 3) := dl_o181 kcX0_forgetAll (by decide +kernel)
theorem dX0_forgetAll_13 : decode cX0_forgetAll 13 = .ok (.aload_n 0, 1) := dl_o42 kcX0_forgetAll (by decide +kernel)
theorem dX0_forgetAll_14 : decode cX0_forgetAll 14 = .ok (.iconst 0, 1) := dl_o3 kcX0_forgetAll (by decide +kernel)
theorem dX0_forgetAll_15 : decode cX0_forgetAll 15 = .ok (.putfield 46, 3) := dl_o181 kcX0_forgetAll (by decide +kernel)
theorem dX0_forgetAll_18 : decode cX0_forgetAll 18 = .ok (.return_, 1) := dl_o177 kcX0_forgetAll (by decide +kernel)
def F_X0_forgetAll (N : Nat)  (V : sv_V) : Option sv_V := (F_J7_fill_53178 N 76 (-1 : Int32) V).bind (fun V1 => sx_let (sv_I V1 73 3 (0 : Int32)) (fun V3 => sx_let (sv_I V3 73 9 (0 : Int32)) (fun V4 => some V4)))
set_option maxRecDepth 20000 in
theorem t_X0_forgetAll {g : sx_G} (hG : sx_Go g) {P : Option Value → sv_V → Prop} {Vr : sv_V} (hP : P none Vr) {N : Nat}  {V : sv_V} (h : F_X0_forgetAll N  V = some Vr) : sv_N g qX0_forgetAll 1 0 [(0, .ref 73)] [] V P := by
  unfold F_X0_forgetAll at h
  refine sx_aload_n (pc := 0) dX0_forgetAll_0 sx_m0 ?_
  refine sv_getA (pc := 1) hG dX0_forgetAll_1 f_0_18 lay_73 rfl cr_73_2 ?_
  refine sx_iconst (pc := 4) (v := (-1)) dX0_forgetAll_4 (by decide) ?_
  obtain ⟨V1, g2, h⟩ := sx_bnd h
  refine sv_cS (pc := 5) (y := qJ7_fill_53178) (o := none) (as := [.ref 76, .int (-1 : Int32)]) (V1 := V1) dX0_forgetAll_5 l_X0_36 y0J7_fill_53178 ysJ7_fill_53178 rfl (Nat.le_of_ble_eq_true rfl) (by decide) (Nat.le_of_ble_eq_true rfl) rfl rfl rfl (t_J7_fill_53178 hG ⟨rfl, rfl⟩ g2) ?_
  refine sx_aload_n (pc := 8) dX0_forgetAll_8 sx_m0 ?_
  refine sx_iconst (pc := 9) (v := 0) dX0_forgetAll_9 (by decide) ?_
  obtain ⟨V3, hV3⟩ : ∃ z : sv_V, z = sv_I V1 73 3 (0 : Int32) := ⟨_, rfl⟩
  have h := sx_letE hV3 h
  refine sv_putI (pc := 10) hG dX0_forgetAll_10 f_0_42 lay_73 rfl hV3 ?_
  refine sx_aload_n (pc := 13) dX0_forgetAll_13 sx_m0 ?_
  refine sx_iconst (pc := 14) (v := 0) dX0_forgetAll_14 (by decide) ?_
  obtain ⟨V4, hV4⟩ : ∃ z : sv_V, z = sv_I V3 73 9 (0 : Int32) := ⟨_, rfl⟩
  have h := sx_letE hV4 h
  refine sv_putI (pc := 15) hG dX0_forgetAll_15 f_0_46 lay_73 rfl hV4 ?_
  exact sv_vret (pc := 18) dX0_forgetAll_18 rfl h hP
def ncX1_renew : Nat := 3949148615024170298741979515888023088655571754
theorem kcX1_renew : CK cX1_renew ncX1_renew 19 := ⟨by decide +kernel, by decide +kernel⟩
theorem dX1_renew_0 : decode cX1_renew 0 = .ok (.aload_n 0, 1) := dl_o42 kcX1_renew (by decide +kernel)
theorem dX1_renew_1 : decode cX1_renew 1 = .ok (.iload_n 1, 1) := dl_o27 kcX1_renew (by decide +kernel)
theorem dX1_renew_2 : decode cX1_renew 2 = .ok (.putfield 15, 3) := dl_o181 kcX1_renew (by decide +kernel)
theorem dX1_renew_5 : decode cX1_renew 5 = .ok (.aload_n 0, 1) := dl_o42 kcX1_renew (by decide +kernel)
theorem dX1_renew_6 : decode cX1_renew 6 = .ok (.iload_n 2, 1) := dl_o28 kcX1_renew (by decide +kernel)
theorem dX1_renew_7 : decode cX1_renew 7 = .ok (.putfield 19, 3) := dl_o181 kcX1_renew (by decide +kernel)
theorem dX1_renew_10 : decode cX1_renew 10 = .ok (.aload_n 0, 1) := dl_o42 kcX1_renew (by decide +kernel)
theorem dX1_renew_11 : decode cX1_renew 11 = .ok (.getfield 11, 3) := dl_o180 kcX1_renew (by decide +kernel)
theorem dX1_renew_14 : decode cX1_renew 14 = .ok (.iconst 0, 1) := dl_o3 kcX1_renew (by decide +kernel)
theorem dX1_renew_15 : decode cX1_renew 15 = .ok (.invokestatic 22, 3) := dl_o184 kcX1_renew (by decide +kernel)
theorem dX1_renew_18 : decode cX1_renew 18 = .ok (.return_, 1) := dl_o177 kcX1_renew (by decide +kernel)
def F_X1_renew (N : Nat) (l1 : Int32) (l2 : Int32) (V : sv_V) : Option sv_V := sx_let (sv_I V 143 1 l1) (fun V1 => sx_let (sv_I V1 143 2 l2) (fun V2 => (F_J7_fill_031fb N 144 (0 : Int32) V2).bind (fun V3 => some V3)))
set_option maxRecDepth 20000 in
theorem t_X1_renew {g : sx_G} (hG : sx_Go g) {P : Option Value → sv_V → Prop} {Vr : sv_V} (hP : P none Vr) {N : Nat} {l1 : Int32} {l2 : Int32} {V : sv_V} (h : F_X1_renew N l1 l2 V = some Vr) : sv_N g qX1_renew 1 0 [(0, .ref 143), (1, .int l1), (2, .int l2)] [] V P := by
  unfold F_X1_renew at h
  refine sx_aload_n (pc := 0) dX1_renew_0 sx_m0 ?_
  refine sx_iload_n (pc := 1) dX1_renew_1 sx_m1 ?_
  obtain ⟨V1, hV1⟩ : ∃ z : sv_V, z = sv_I V 143 1 l1 := ⟨_, rfl⟩
  have h := sx_letE hV1 h
  refine sv_putI (pc := 2) hG dX1_renew_2 f_1_15 lay_143 rfl hV1 ?_
  refine sx_aload_n (pc := 5) dX1_renew_5 sx_m0 ?_
  refine sx_iload_n (pc := 6) dX1_renew_6 sx_m2 ?_
  obtain ⟨V2, hV2⟩ : ∃ z : sv_V, z = sv_I V1 143 2 l2 := ⟨_, rfl⟩
  have h := sx_letE hV2 h
  refine sv_putI (pc := 7) hG dX1_renew_7 f_1_19 lay_143 rfl hV2 ?_
  refine sx_aload_n (pc := 10) dX1_renew_10 sx_m0 ?_
  refine sv_getA (pc := 11) hG dX1_renew_11 f_1_11 lay_143 rfl cr_143_0 ?_
  refine sx_iconst (pc := 14) (v := 0) dX1_renew_14 (by decide) ?_
  obtain ⟨V3, g4, h⟩ := sx_bnd h
  refine sv_cS (pc := 15) (y := qJ7_fill_031fb) (o := none) (as := [.ref 144, .int (0 : Int32)]) (V1 := V3) dX1_renew_15 l_X1_22 y0J7_fill_031fb ysJ7_fill_031fb rfl (Nat.le_of_ble_eq_true rfl) (by decide) (Nat.le_of_ble_eq_true rfl) rfl rfl rfl (t_J7_fill_031fb hG ⟨rfl, rfl⟩ g4) ?_
  exact sv_vret (pc := 18) dX1_renew_18 rfl h hP
def ncX2_advanceOf : Nat := 4222217043571817653590860917552174955066424765210755869226
theorem kcX2_advanceOf : CK cX2_advanceOf ncX2_advanceOf 24 := ⟨by decide +kernel, by decide +kernel⟩
theorem dX2_advanceOf_0 : decode cX2_advanceOf 0 = .ok (.aload_n 0, 1) := dl_o42 kcX2_advanceOf (by decide +kernel)
theorem dX2_advanceOf_1 : decode cX2_advanceOf 1 = .ok (.aload_n 0, 1) := dl_o42 kcX2_advanceOf (by decide +kernel)
theorem dX2_advanceOf_2 : decode cX2_advanceOf 2 = .ok (.getfield 19, 3) := dl_o180 kcX2_advanceOf (by decide +kernel)
theorem dX2_advanceOf_5 : decode cX2_advanceOf 5 = .ok (.iconst 4, 1) := dl_o7 kcX2_advanceOf (by decide +kernel)
theorem dX2_advanceOf_6 : decode cX2_advanceOf 6 = .ok (.iaload, 1) := dl_o46 kcX2_advanceOf (by decide +kernel)
theorem dX2_advanceOf_7 : decode cX2_advanceOf 7 = .ok (.iconst 4, 1) := dl_o7 kcX2_advanceOf (by decide +kernel)
theorem dX2_advanceOf_8 : decode cX2_advanceOf 8 = .ok (.iload_n 1, 1) := dl_o27 kcX2_advanceOf (by decide +kernel)
theorem dX2_advanceOf_9 : decode cX2_advanceOf 9 = .ok (.aload_n 0, 1) := dl_o42 kcX2_advanceOf (by decide +kernel)
theorem dX2_advanceOf_10 : decode cX2_advanceOf 10 = .ok (.getfield 57, 3) := dl_o180 kcX2_advanceOf (by decide +kernel)
theorem dX2_advanceOf_13 : decode cX2_advanceOf 13 = .ok (.iconst 1, 1) := dl_o4 kcX2_advanceOf (by decide +kernel)
theorem dX2_advanceOf_14 : decode cX2_advanceOf 14 = .ok (.isub, 1) := dl_o100 kcX2_advanceOf (by decide +kernel)
theorem dX2_advanceOf_15 : decode cX2_advanceOf 15 = .ok (.invokestatic 60, 3) := dl_o184 kcX2_advanceOf (by decide +kernel)
theorem dX2_advanceOf_18 : decode cX2_advanceOf 18 = .ok (.imul, 1) := dl_o104 kcX2_advanceOf (by decide +kernel)
theorem dX2_advanceOf_19 : decode cX2_advanceOf 19 = .ok (.iadd, 1) := dl_o96 kcX2_advanceOf (by decide +kernel)
theorem dX2_advanceOf_20 : decode cX2_advanceOf 20 = .ok (.invokevirtual 50, 3) := dl_o182 kcX2_advanceOf (by decide +kernel)
theorem dX2_advanceOf_23 : decode cX2_advanceOf 23 = .ok (.ireturn, 1) := dl_o172 kcX2_advanceOf (by decide +kernel)
def F_X2_advanceOf (l1 : Int32) (V : sv_V) : Option (Int32 × sv_V) := (F_J9_min_7cf53 l1 ((V.1 2 8) - (1 : Int32)) V).bind (fun (x3, V1) => (F_X2_u2 ((V.1 4 (4 : Int32).toNatClampNeg) + ((4 : Int32) * x3)) V1).bind (fun (x6, V4) => some (x6, V4)))
set_option maxRecDepth 20000 in
theorem t_X2_advanceOf {g : sx_G} (hG : sx_Go g) {P : Option Value → sv_V → Prop} {r : Int32} {Vr : sv_V} (hP : P (some (.int r)) Vr) {l1 : Int32} {V : sv_V} (h : F_X2_advanceOf l1 V = some (r, Vr)) : sv_N g qX2_advanceOf 1 0 [(0, .ref 2), (1, .int l1)] [] V P := by
  unfold F_X2_advanceOf at h
  refine sx_aload_n (pc := 0) dX2_advanceOf_0 sx_m0 ?_
  refine sx_aload_n (pc := 1) dX2_advanceOf_1 sx_m0 ?_
  refine sv_getA (pc := 2) hG dX2_advanceOf_2 f_2_19 lay_2 rfl cr_2_3 ?_
  refine sx_iconst (pc := 5) (v := 4) dX2_advanceOf_5 (by decide) ?_
  refine sv_iald (pc := 6) hG dX2_advanceOf_6 lay_4 (by decide) ?_
  refine sx_iconst (pc := 7) (v := 4) dX2_advanceOf_7 (by decide) ?_
  refine sx_iload_n (pc := 8) dX2_advanceOf_8 sx_m1 ?_
  refine sx_aload_n (pc := 9) dX2_advanceOf_9 sx_m0 ?_
  refine sv_getI (pc := 10) hG dX2_advanceOf_10 f_2_57 lay_2 rfl ?_
  refine sx_iconst (pc := 13) (v := 1) dX2_advanceOf_13 (by decide) ?_
  refine sx_isub (pc := 14) dX2_advanceOf_14 ?_
  obtain ⟨⟨x3, V1⟩, g2, h⟩ := sx_bnd h
  refine sv_cS (pc := 15) (y := qJ9_min_7cf53) (o := (some (.int x3))) (as := [.int l1, .int ((V.1 2 8) - (1 : Int32))]) (V1 := V1) dX2_advanceOf_15 l_X2_60 y0J9_min_7cf53 ysJ9_min_7cf53 rfl (Nat.le_of_ble_eq_true rfl) (by decide) (Nat.le_of_ble_eq_true rfl) rfl rfl rfl (t_J9_min_7cf53 hG ⟨rfl, rfl⟩ g2) ?_
  refine sx_imul (pc := 18) dX2_advanceOf_18 ?_
  refine sx_iadd (pc := 19) dX2_advanceOf_19 ?_
  obtain ⟨⟨x6, V4⟩, g5, h⟩ := sx_bnd h
  refine sv_cV (pc := 20) (y := qX2_u2) (o := (some (.int x6))) (as := [.int ((V.1 4 (4 : Int32).toNatClampNeg) + ((4 : Int32) * x3))]) (V1 := V4) hG dX2_advanceOf_20 l_X2_50 y0X2_u2 yvX2_u2 rfl (Nat.le_of_ble_eq_true rfl) lay_2 kr_2 (by decide) (Nat.le_of_ble_eq_true rfl) rfl rfl rfl (t_X2_u2 hG ⟨rfl, rfl⟩ g5) ?_
  exact sv_iret (pc := 23) dX2_advanceOf_23 rfl h hP
def ncX2_findInSegments : Nat := 6164317780659782261629160262304902269085182194864639265349936006250291127394966270344936635712150794157315
theorem kcX2_findInSegments : CK cX2_findInSegments ncX2_findInSegments 44 := ⟨by decide +kernel, by decide +kernel⟩
theorem dX2_findInSegments_0 : decode cX2_findInSegments 0 = .ok (.iconst 0, 1) := dl_o3 kcX2_findInSegments (by decide +kernel)
theorem dX2_findInSegments_1 : decode cX2_findInSegments 1 = .ok (.istore_n 2, 1) := dl_o61 kcX2_findInSegments (by decide +kernel)
theorem dX2_findInSegments_2 : decode cX2_findInSegments 2 = .ok (.iload_n 2, 1) := dl_o28 kcX2_findInSegments (by decide +kernel)
theorem dX2_findInSegments_3 : decode cX2_findInSegments 3 = .ok (.aload_n 0, 1) := dl_o42 kcX2_findInSegments (by decide +kernel)
theorem dX2_findInSegments_4 : decode cX2_findInSegments 4 = .ok (.getfield 88, 3) := dl_o180 kcX2_findInSegments (by decide +kernel)
theorem dX2_findInSegments_7 : decode cX2_findInSegments 7 = .ok (.if_icmp .ge 35, 3) := dl_o162 kcX2_findInSegments 35 (by decide +kernel) (by decide +kernel)
theorem dX2_findInSegments_10 : decode cX2_findInSegments 10 = .ok (.aload_n 0, 1) := dl_o42 kcX2_findInSegments (by decide +kernel)
theorem dX2_findInSegments_11 : decode cX2_findInSegments 11 = .ok (.aload_n 0, 1) := dl_o42 kcX2_findInSegments (by decide +kernel)
theorem dX2_findInSegments_12 : decode cX2_findInSegments 12 = .ok (.getfield 82, 3) := dl_o180 kcX2_findInSegments (by decide +kernel)
theorem dX2_findInSegments_15 : decode cX2_findInSegments 15 = .ok (.bipush 14, 2) := dl_o16 kcX2_findInSegments 14 (by decide +kernel) (by decide +kernel)
theorem dX2_findInSegments_17 : decode cX2_findInSegments 17 = .ok (.iadd, 1) := dl_o96 kcX2_findInSegments (by decide +kernel)
theorem dX2_findInSegments_18 : decode cX2_findInSegments 18 = .ok (.iconst 2, 1) := dl_o5 kcX2_findInSegments (by decide +kernel)
theorem dX2_findInSegments_19 : decode cX2_findInSegments 19 = .ok (.iload_n 2, 1) := dl_o28 kcX2_findInSegments (by decide +kernel)
theorem dX2_findInSegments_20 : decode cX2_findInSegments 20 = .ok (.imul, 1) := dl_o104 kcX2_findInSegments (by decide +kernel)
theorem dX2_findInSegments_21 : decode cX2_findInSegments 21 = .ok (.iadd, 1) := dl_o96 kcX2_findInSegments (by decide +kernel)
theorem dX2_findInSegments_22 : decode cX2_findInSegments 22 = .ok (.invokevirtual 50, 3) := dl_o182 kcX2_findInSegments (by decide +kernel)
theorem dX2_findInSegments_25 : decode cX2_findInSegments 25 = .ok (.iload_n 1, 1) := dl_o27 kcX2_findInSegments (by decide +kernel)
theorem dX2_findInSegments_26 : decode cX2_findInSegments 26 = .ok (.if_icmp .lt 10, 3) := dl_o161 kcX2_findInSegments 10 (by decide +kernel) (by decide +kernel)
theorem dX2_findInSegments_29 : decode cX2_findInSegments 29 = .ok (.aload_n 0, 1) := dl_o42 kcX2_findInSegments (by decide +kernel)
theorem dX2_findInSegments_30 : decode cX2_findInSegments 30 = .ok (.iload_n 2, 1) := dl_o28 kcX2_findInSegments (by decide +kernel)
theorem dX2_findInSegments_31 : decode cX2_findInSegments 31 = .ok (.iload_n 1, 1) := dl_o27 kcX2_findInSegments (by decide +kernel)
theorem dX2_findInSegments_32 : decode cX2_findInSegments 32 = .ok (.invokevirtual 94, 3) := dl_o182 kcX2_findInSegments (by decide +kernel)
theorem dX2_findInSegments_35 : decode cX2_findInSegments 35 = .ok (.ireturn, 1) := dl_o172 kcX2_findInSegments (by decide +kernel)
theorem dX2_findInSegments_36 : decode cX2_findInSegments 36 = .ok (.iinc 2 1, 3) := by decide +kernel
theorem dX2_findInSegments_39 : decode cX2_findInSegments 39 = .ok (.goto (-37), 3) := dl_o167 kcX2_findInSegments 65499 (by decide +kernel) (by decide +kernel)
theorem dX2_findInSegments_42 : decode cX2_findInSegments 42 = .ok (.iconst 0, 1) := dl_o3 kcX2_findInSegments (by decide +kernel)
theorem dX2_findInSegments_43 : decode cX2_findInSegments 43 = .ok (.ireturn, 1) := dl_o172 kcX2_findInSegments (by decide +kernel)
def B_X2_findInSegments_2 (N : Nat) (k2 : Int32 → Int32 → sv_V → Option (Int32 × sv_V)) (l1 : Int32) (l2 : Int32) (V : sv_V) : Option (Int32 × sv_V) := if (V.1 2 14) ≤ l2 then (some ((0 : Int32), V)) else ((F_X2_u2 (((V.1 2 12) + (14 : Int32)) + ((2 : Int32) * l2)) V).bind (fun (x4, V2) => if x4 < l1 then (sx_let (l2 + 1) (fun x6 => k2 l1 x6 V2)) else ((F_X2_findInSegment l2 l1 V2).bind (fun (x9, V7) => some (x9, V7)))))
set_option maxRecDepth 20000 in
theorem tB_X2_findInSegments_2 {g : sx_G} (hG : sx_Go g) {P : Option Value → sv_V → Prop} {r : Int32} {Vr : sv_V} (hP : P (some (.int r)) Vr) {N : Nat} {k2 : Int32 → Int32 → sv_V → Option (Int32 × sv_V)} (hk2 : ∀ (l1 : Int32) (l2 : Int32) (V : sv_V), k2 l1 l2 V = some (r, Vr) → sv_N g qX2_findInSegments 2 2 [(0, .ref 2), (1, .int l1), (2, .int l2)] [] V P) {l1 : Int32} {l2 : Int32} {V : sv_V} (h : B_X2_findInSegments_2 N k2 l1 l2 V = some (r, Vr)) : sv_N g qX2_findInSegments 2 2 [(0, .ref 2), (1, .int l1), (2, .int l2)] [] V P := by
  unfold B_X2_findInSegments_2 at h
  refine sx_iload_n (pc := 2) dX2_findInSegments_2 sx_m2 ?_
  refine sx_aload_n (pc := 3) dX2_findInSegments_3 sx_m0 ?_
  refine sv_getI (pc := 4) hG dX2_findInSegments_4 f_2_88 lay_2 rfl ?_
  refine sx_icmp_ge (pc := 7) (tgt := 42) dX2_findInSegments_7 (by decide) (fun c1 => ?_) (fun c1 => ?_)
  · have h := sx_pos c1 h
    refine sx_iconst (pc := 42) (v := 0) dX2_findInSegments_42 (by decide) ?_
    exact sv_iret (pc := 43) dX2_findInSegments_43 rfl h hP
  · have h := sx_neg c1 h
    refine sx_aload_n (pc := 10) dX2_findInSegments_10 sx_m0 ?_
    refine sx_aload_n (pc := 11) dX2_findInSegments_11 sx_m0 ?_
    refine sv_getI (pc := 12) hG dX2_findInSegments_12 f_2_82 lay_2 rfl ?_
    refine sx_bipush (pc := 15) (v := 14) dX2_findInSegments_15 (by decide) ?_
    refine sx_iadd (pc := 17) dX2_findInSegments_17 ?_
    refine sx_iconst (pc := 18) (v := 2) dX2_findInSegments_18 (by decide) ?_
    refine sx_iload_n (pc := 19) dX2_findInSegments_19 sx_m2 ?_
    refine sx_imul (pc := 20) dX2_findInSegments_20 ?_
    refine sx_iadd (pc := 21) dX2_findInSegments_21 ?_
    obtain ⟨⟨x4, V2⟩, g3, h⟩ := sx_bnd h
    refine sv_cV (pc := 22) (y := qX2_u2) (o := (some (.int x4))) (as := [.int (((V.1 2 12) + (14 : Int32)) + ((2 : Int32) * l2))]) (V1 := V2) hG dX2_findInSegments_22 l_X2_50 y0X2_u2 yvX2_u2 rfl (Nat.le_of_ble_eq_true rfl) lay_2 kr_2 (by decide) (Nat.le_of_ble_eq_true rfl) rfl rfl rfl (t_X2_u2 hG ⟨rfl, rfl⟩ g3) ?_
    refine sx_iload_n (pc := 25) dX2_findInSegments_25 sx_m1 ?_
    refine sx_icmp_lt (pc := 26) (tgt := 36) dX2_findInSegments_26 (by decide) (fun c5 => ?_) (fun c5 => ?_)
    · have h := sx_pos c5 h
      obtain ⟨x6, hx6⟩ : ∃ z : Int32, z = l2 + 1 := ⟨_, rfl⟩
      have h := sx_letE hx6 h
      refine sx_iinc (pc := 36) (v := x6) (lo' := [(2, .int x6), (0, .ref 2), (1, .int l1)]) dX2_findInSegments_36 sx_m2 (by rw [hx6]; rfl) (by decide) rfl ?_
      refine sx_goto (pc := 39) (tgt := 2) dX2_findInSegments_39 (by decide) ?_
      refine sx_wk (sx_s1 sx_m1 (sx_s1 sx_m2 (sx_s1 sx_m0 sx_s0))) ?_
      exact hk2 _ _ _ h
    · have h := sx_neg c5 h
      refine sx_aload_n (pc := 29) dX2_findInSegments_29 sx_m0 ?_
      refine sx_iload_n (pc := 30) dX2_findInSegments_30 sx_m2 ?_
      refine sx_iload_n (pc := 31) dX2_findInSegments_31 sx_m1 ?_
      obtain ⟨⟨x9, V7⟩, g8, h⟩ := sx_bnd h
      refine sv_cV (pc := 32) (y := qX2_findInSegment) (o := (some (.int x9))) (as := [.int l2, .int l1]) (V1 := V7) hG dX2_findInSegments_32 l_X2_94 y0X2_findInSegment yvX2_findInSegment rfl (Nat.le_of_ble_eq_true rfl) lay_2 kr_2 (by decide) (Nat.le_of_ble_eq_true rfl) rfl rfl rfl (t_X2_findInSegment hG ⟨rfl, rfl⟩ g8) ?_
      exact sv_iret (pc := 35) dX2_findInSegments_35 rfl h hP
theorem tL_X2_findInSegments_2 {g : sx_G} (hG : sx_Go g) {P : Option Value → sv_V → Prop} {r : Int32} {Vr : sv_V} (hP : P (some (.int r)) Vr) {N : Nat}   : ∀ (n : Nat) (l1 : Int32) (l2 : Int32) (V : sv_V), sx_lp3 (B_X2_findInSegments_2 N ) n l1 l2 V = some (r, Vr) → sv_N g qX2_findInSegments 2 2 [(0, .ref 2), (1, .int l1), (2, .int l2)] [] V P :=
  sx_lp3_ind (fun k0 ih _ _ V h => tB_X2_findInSegments_2 hG hP ih h)
def F_X2_findInSegments (N : Nat) (l1 : Int32) (V : sv_V) : Option (Int32 × sv_V) := sx_lp3 (B_X2_findInSegments_2 N ) N l1 (0 : Int32) V
set_option maxRecDepth 20000 in
theorem t_X2_findInSegments {g : sx_G} (hG : sx_Go g) {P : Option Value → sv_V → Prop} {r : Int32} {Vr : sv_V} (hP : P (some (.int r)) Vr) {N : Nat} {l1 : Int32} {V : sv_V} (h : F_X2_findInSegments N l1 V = some (r, Vr)) : sv_N g qX2_findInSegments 2 0 [(0, .ref 2), (1, .int l1)] [] V P := by
  unfold F_X2_findInSegments at h
  refine sx_iconst (pc := 0) (v := 0) dX2_findInSegments_0 (by decide) ?_
  refine sx_istore_n (pc := 1) (lo' := [(2, .int (0 : Int32)), (0, .ref 2), (1, .int l1)]) dX2_findInSegments_1 (by decide) rfl ?_
  refine sx_wk (sx_s1 sx_m1 (sx_s1 sx_m2 (sx_s1 sx_m0 sx_s0))) ?_
  exact tL_X2_findInSegments_2 hG hP  N _ _ _ h
def ncX3_readOutline : Nat := 1780702591292277441996726150728724632264480429306005817855434436019200539923088114492602057353237259942176921265250601982611220129973519974541806815113405295050639614602321010462644986101208597362128876868323270494446897241666377683880095803082386836861830343394534565346198014760765200451370106674338745619610907737917900995824770350107390666268601663532294996532227795285653634291508901588128025637555321940884852459689666642109276438400874095881513185591843371279732579114
theorem kcX3_readOutline : CK cX3_readOutline ncX3_readOutline 197 := ⟨by decide +kernel, by decide +kernel⟩
theorem dX3_readOutline_0 : decode cX3_readOutline 0 = .ok (.aload_n 0, 1) := dl_o42 kcX3_readOutline (by decide +kernel)
theorem dX3_readOutline_1 : decode cX3_readOutline 1 = .ok (.iload_n 1, 1) := dl_o27 kcX3_readOutline (by decide +kernel)
theorem dX3_readOutline_2 : decode cX3_readOutline 2 = .ok (.invokevirtual 79, 3) := dl_o182 kcX3_readOutline (by decide +kernel)
theorem dX3_readOutline_5 : decode cX3_readOutline 5 = .ok (.aload_n 0, 1) := dl_o42 kcX3_readOutline (by decide +kernel)
theorem dX3_readOutline_6 : decode cX3_readOutline 6 = .ok (.getfield 27, 3) := dl_o180 kcX3_readOutline (by decide +kernel)
theorem dX3_readOutline_9 : decode cX3_readOutline 9 = .ok (.getfield 45, 3) := dl_o180 kcX3_readOutline (by decide +kernel)
theorem dX3_readOutline_12 : decode cX3_readOutline 12 = .ok (.iconst 2, 1) := dl_o5 kcX3_readOutline (by decide +kernel)
theorem dX3_readOutline_13 : decode cX3_readOutline 13 = .ok (.aaload, 1) := dl_o50 kcX3_readOutline (by decide +kernel)
theorem dX3_readOutline_14 : decode cX3_readOutline 14 = .ok (.iload_n 1, 1) := dl_o27 kcX3_readOutline (by decide +kernel)
theorem dX3_readOutline_15 : decode cX3_readOutline 15 = .ok (.iaload, 1) := dl_o46 kcX3_readOutline (by decide +kernel)
theorem dX3_readOutline_16 : decode cX3_readOutline 16 = .ok (.bipush 12, 2) := dl_o16 kcX3_readOutline 12 (by decide +kernel) (by decide +kernel)
theorem dX3_readOutline_18 : decode cX3_readOutline 18 = .ok (.invokestatic 83, 3) := dl_o184 kcX3_readOutline (by decide +kernel)
theorem dX3_readOutline_21 : decode cX3_readOutline 21 = .ok (.istore_n 3, 1) := dl_o62 kcX3_readOutline (by decide +kernel)
theorem dX3_readOutline_22 : decode cX3_readOutline 22 = .ok (.iconst (-1), 1) := dl_o2 kcX3_readOutline (by decide +kernel)
theorem dX3_readOutline_23 : decode cX3_readOutline 23 = .ok (.istore 4, 2) := dl_o54 kcX3_readOutline (by decide +kernel)
theorem dX3_readOutline_25 : decode cX3_readOutline 25 = .ok (.iconst 0, 1) := dl_o3 kcX3_readOutline (by decide +kernel)
theorem dX3_readOutline_26 : decode cX3_readOutline 26 = .ok (.istore 5, 2) := dl_o54 kcX3_readOutline (by decide +kernel)
theorem dX3_readOutline_28 : decode cX3_readOutline 28 = .ok (.iload 5, 2) := dl_o21 kcX3_readOutline (by decide +kernel)
theorem dX3_readOutline_30 : decode cX3_readOutline 30 = .ok (.iload_n 3, 1) := dl_o29 kcX3_readOutline (by decide +kernel)
theorem dX3_readOutline_31 : decode cX3_readOutline 31 = .ok (.if_icmp .ge 51, 3) := dl_o162 kcX3_readOutline 51 (by decide +kernel) (by decide +kernel)
theorem dX3_readOutline_34 : decode cX3_readOutline 34 = .ok (.aload_n 0, 1) := dl_o42 kcX3_readOutline (by decide +kernel)
theorem dX3_readOutline_35 : decode cX3_readOutline 35 = .ok (.invokevirtual 89, 3) := dl_o182 kcX3_readOutline (by decide +kernel)
theorem dX3_readOutline_38 : decode cX3_readOutline 38 = .ok (.istore 6, 2) := dl_o54 kcX3_readOutline (by decide +kernel)
theorem dX3_readOutline_40 : decode cX3_readOutline 40 = .ok (.aload_n 0, 1) := dl_o42 kcX3_readOutline (by decide +kernel)
theorem dX3_readOutline_41 : decode cX3_readOutline 41 = .ok (.getfield 69, 3) := dl_o180 kcX3_readOutline (by decide +kernel)
theorem dX3_readOutline_44 : decode cX3_readOutline 44 = .ok (.ifCond .ne 17, 3) := dl_o154 kcX3_readOutline 17 (by decide +kernel) (by decide +kernel)
theorem dX3_readOutline_47 : decode cX3_readOutline 47 = .ok (.iload 6, 2) := dl_o21 kcX3_readOutline (by decide +kernel)
theorem dX3_readOutline_49 : decode cX3_readOutline 49 = .ok (.iload 4, 2) := dl_o21 kcX3_readOutline (by decide +kernel)
theorem dX3_readOutline_51 : decode cX3_readOutline 51 = .ok (.if_icmp .le 10, 3) := dl_o164 kcX3_readOutline 10 (by decide +kernel) (by decide +kernel)
theorem dX3_readOutline_54 : decode cX3_readOutline 54 = .ok (.iload 6, 2) := dl_o21 kcX3_readOutline (by decide +kernel)
theorem dX3_readOutline_56 : decode cX3_readOutline 56 = .ok (.bipush 100, 2) := dl_o16 kcX3_readOutline 100 (by decide +kernel) (by decide +kernel)
theorem dX3_readOutline_58 : decode cX3_readOutline 58 = .ok (.if_icmp .lt 5, 3) := dl_o161 kcX3_readOutline 5 (by decide +kernel) (by decide +kernel)
theorem dX3_readOutline_61 : decode cX3_readOutline 61 = .ok (.iconst 0, 1) := dl_o3 kcX3_readOutline (by decide +kernel)
theorem dX3_readOutline_62 : decode cX3_readOutline 62 = .ok (.ireturn, 1) := dl_o172 kcX3_readOutline (by decide +kernel)
theorem dX3_readOutline_63 : decode cX3_readOutline 63 = .ok (.aload_n 2, 1) := dl_o44 kcX3_readOutline (by decide +kernel)
theorem dX3_readOutline_64 : decode cX3_readOutline 64 = .ok (.getfield 93, 3) := dl_o180 kcX3_readOutline (by decide +kernel)
theorem dX3_readOutline_67 : decode cX3_readOutline 67 = .ok (.iload 5, 2) := dl_o21 kcX3_readOutline (by decide +kernel)
theorem dX3_readOutline_69 : decode cX3_readOutline 69 = .ok (.iload 6, 2) := dl_o21 kcX3_readOutline (by decide +kernel)
theorem dX3_readOutline_71 : decode cX3_readOutline 71 = .ok (.iastore, 1) := dl_o79 kcX3_readOutline (by decide +kernel)
theorem dX3_readOutline_72 : decode cX3_readOutline 72 = .ok (.iload 6, 2) := dl_o21 kcX3_readOutline (by decide +kernel)
theorem dX3_readOutline_74 : decode cX3_readOutline 74 = .ok (.istore 4, 2) := dl_o54 kcX3_readOutline (by decide +kernel)
theorem dX3_readOutline_76 : decode cX3_readOutline 76 = .ok (.iinc 5 1, 3) := by decide +kernel
theorem dX3_readOutline_79 : decode cX3_readOutline 79 = .ok (.goto (-51), 3) := dl_o167 kcX3_readOutline 65485 (by decide +kernel) (by decide +kernel)
theorem dX3_readOutline_82 : decode cX3_readOutline 82 = .ok (.aload_n 2, 1) := dl_o44 kcX3_readOutline (by decide +kernel)
theorem dX3_readOutline_83 : decode cX3_readOutline 83 = .ok (.iload_n 3, 1) := dl_o29 kcX3_readOutline (by decide +kernel)
theorem dX3_readOutline_84 : decode cX3_readOutline 84 = .ok (.iconst 0, 1) := dl_o3 kcX3_readOutline (by decide +kernel)
theorem dX3_readOutline_85 : decode cX3_readOutline 85 = .ok (.invokestatic 96, 3) := dl_o184 kcX3_readOutline (by decide +kernel)
theorem dX3_readOutline_88 : decode cX3_readOutline 88 = .ok (.putfield 99, 3) := dl_o181 kcX3_readOutline (by decide +kernel)
theorem dX3_readOutline_91 : decode cX3_readOutline 91 = .ok (.aload_n 2, 1) := dl_o44 kcX3_readOutline (by decide +kernel)
theorem dX3_readOutline_92 : decode cX3_readOutline 92 = .ok (.iload 4, 2) := dl_o21 kcX3_readOutline (by decide +kernel)
theorem dX3_readOutline_94 : decode cX3_readOutline 94 = .ok (.iconst 1, 1) := dl_o4 kcX3_readOutline (by decide +kernel)
theorem dX3_readOutline_95 : decode cX3_readOutline 95 = .ok (.iadd, 1) := dl_o96 kcX3_readOutline (by decide +kernel)
theorem dX3_readOutline_96 : decode cX3_readOutline 96 = .ok (.putfield 60, 3) := dl_o181 kcX3_readOutline (by decide +kernel)
theorem dX3_readOutline_99 : decode cX3_readOutline 99 = .ok (.aload_n 0, 1) := dl_o42 kcX3_readOutline (by decide +kernel)
theorem dX3_readOutline_100 : decode cX3_readOutline 100 = .ok (.iload_n 1, 1) := dl_o27 kcX3_readOutline (by decide +kernel)
theorem dX3_readOutline_101 : decode cX3_readOutline 101 = .ok (.invokevirtual 102, 3) := dl_o182 kcX3_readOutline (by decide +kernel)
theorem dX3_readOutline_104 : decode cX3_readOutline 104 = .ok (.ifCond .eq 14, 3) := dl_o153 kcX3_readOutline 14 (by decide +kernel) (by decide +kernel)
theorem dX3_readOutline_107 : decode cX3_readOutline 107 = .ok (.aload_n 0, 1) := dl_o42 kcX3_readOutline (by decide +kernel)
theorem dX3_readOutline_108 : decode cX3_readOutline 108 = .ok (.aload_n 2, 1) := dl_o44 kcX3_readOutline (by decide +kernel)
theorem dX3_readOutline_109 : decode cX3_readOutline 109 = .ok (.getfield 60, 3) := dl_o180 kcX3_readOutline (by decide +kernel)
theorem dX3_readOutline_112 : decode cX3_readOutline 112 = .ok (.invokevirtual 105, 3) := dl_o182 kcX3_readOutline (by decide +kernel)
theorem dX3_readOutline_115 : decode cX3_readOutline 115 = .ok (.ifCond .ne 5, 3) := dl_o154 kcX3_readOutline 5 (by decide +kernel) (by decide +kernel)
theorem dX3_readOutline_118 : decode cX3_readOutline 118 = .ok (.iconst 0, 1) := dl_o3 kcX3_readOutline (by decide +kernel)
theorem dX3_readOutline_119 : decode cX3_readOutline 119 = .ok (.ireturn, 1) := dl_o172 kcX3_readOutline (by decide +kernel)
theorem dX3_readOutline_120 : decode cX3_readOutline 120 = .ok (.iconst 0, 1) := dl_o3 kcX3_readOutline (by decide +kernel)
theorem dX3_readOutline_121 : decode cX3_readOutline 121 = .ok (.istore 5, 2) := dl_o54 kcX3_readOutline (by decide +kernel)
theorem dX3_readOutline_123 : decode cX3_readOutline 123 = .ok (.iload 5, 2) := dl_o21 kcX3_readOutline (by decide +kernel)
theorem dX3_readOutline_125 : decode cX3_readOutline 125 = .ok (.aload_n 2, 1) := dl_o44 kcX3_readOutline (by decide +kernel)
theorem dX3_readOutline_126 : decode cX3_readOutline 126 = .ok (.getfield 60, 3) := dl_o180 kcX3_readOutline (by decide +kernel)
theorem dX3_readOutline_129 : decode cX3_readOutline 129 = .ok (.if_icmp .ge 25, 3) := dl_o162 kcX3_readOutline 25 (by decide +kernel) (by decide +kernel)
theorem dX3_readOutline_132 : decode cX3_readOutline 132 = .ok (.aload_n 2, 1) := dl_o44 kcX3_readOutline (by decide +kernel)
theorem dX3_readOutline_133 : decode cX3_readOutline 133 = .ok (.getfield 108, 3) := dl_o180 kcX3_readOutline (by decide +kernel)
theorem dX3_readOutline_136 : decode cX3_readOutline 136 = .ok (.iload 5, 2) := dl_o21 kcX3_readOutline (by decide +kernel)
theorem dX3_readOutline_138 : decode cX3_readOutline 138 = .ok (.aload_n 0, 1) := dl_o42 kcX3_readOutline (by decide +kernel)
theorem dX3_readOutline_139 : decode cX3_readOutline 139 = .ok (.getfield 20, 3) := dl_o180 kcX3_readOutline (by decide +kernel)
theorem dX3_readOutline_142 : decode cX3_readOutline 142 = .ok (.iload 5, 2) := dl_o21 kcX3_readOutline (by decide +kernel)
theorem dX3_readOutline_144 : decode cX3_readOutline 144 = .ok (.iaload, 1) := dl_o46 kcX3_readOutline (by decide +kernel)
theorem dX3_readOutline_145 : decode cX3_readOutline 145 = .ok (.iconst 1, 1) := dl_o4 kcX3_readOutline (by decide +kernel)
theorem dX3_readOutline_146 : decode cX3_readOutline 146 = .ok (.iand, 1) := dl_o126 kcX3_readOutline (by decide +kernel)
theorem dX3_readOutline_147 : decode cX3_readOutline 147 = .ok (.iastore, 1) := dl_o79 kcX3_readOutline (by decide +kernel)
theorem dX3_readOutline_148 : decode cX3_readOutline 148 = .ok (.iinc 5 1, 3) := by decide +kernel
theorem dX3_readOutline_151 : decode cX3_readOutline 151 = .ok (.goto (-28), 3) := dl_o167 kcX3_readOutline 65508 (by decide +kernel) (by decide +kernel)
theorem dX3_readOutline_154 : decode cX3_readOutline 154 = .ok (.aload_n 0, 1) := dl_o42 kcX3_readOutline (by decide +kernel)
theorem dX3_readOutline_155 : decode cX3_readOutline 155 = .ok (.aload_n 2, 1) := dl_o44 kcX3_readOutline (by decide +kernel)
theorem dX3_readOutline_156 : decode cX3_readOutline 156 = .ok (.getfield 111, 3) := dl_o180 kcX3_readOutline (by decide +kernel)
theorem dX3_readOutline_159 : decode cX3_readOutline 159 = .ok (.aload_n 2, 1) := dl_o44 kcX3_readOutline (by decide +kernel)
theorem dX3_readOutline_160 : decode cX3_readOutline 160 = .ok (.getfield 60, 3) := dl_o180 kcX3_readOutline (by decide +kernel)
theorem dX3_readOutline_163 : decode cX3_readOutline 163 = .ok (.iconst 2, 1) := dl_o5 kcX3_readOutline (by decide +kernel)
theorem dX3_readOutline_164 : decode cX3_readOutline 164 = .ok (.bipush 16, 2) := dl_o16 kcX3_readOutline 16 (by decide +kernel) (by decide +kernel)
theorem dX3_readOutline_166 : decode cX3_readOutline 166 = .ok (.invokevirtual 114, 3) := dl_o182 kcX3_readOutline (by decide +kernel)
theorem dX3_readOutline_169 : decode cX3_readOutline 169 = .ok (.aload_n 0, 1) := dl_o42 kcX3_readOutline (by decide +kernel)
theorem dX3_readOutline_170 : decode cX3_readOutline 170 = .ok (.aload_n 2, 1) := dl_o44 kcX3_readOutline (by decide +kernel)
theorem dX3_readOutline_171 : decode cX3_readOutline 171 = .ok (.getfield 118, 3) := dl_o180 kcX3_readOutline (by decide +kernel)
theorem dX3_readOutline_174 : decode cX3_readOutline 174 = .ok (.aload_n 2, 1) := dl_o44 kcX3_readOutline (by decide +kernel)
theorem dX3_readOutline_175 : decode cX3_readOutline 175 = .ok (.getfield 60, 3) := dl_o180 kcX3_readOutline (by decide +kernel)
theorem dX3_readOutline_178 : decode cX3_readOutline 178 = .ok (.iconst 4, 1) := dl_o7 kcX3_readOutline (by decide +kernel)
theorem dX3_readOutline_179 : decode cX3_readOutline 179 = .ok (.bipush 32, 2) := dl_o16 kcX3_readOutline 32 (by decide +kernel) (by decide +kernel)
theorem dX3_readOutline_181 : decode cX3_readOutline 181 = .ok (.invokevirtual 114, 3) := dl_o182 kcX3_readOutline (by decide +kernel)
theorem dX3_readOutline_184 : decode cX3_readOutline 184 = .ok (.aload_n 0, 1) := dl_o42 kcX3_readOutline (by decide +kernel)
theorem dX3_readOutline_185 : decode cX3_readOutline 185 = .ok (.getfield 69, 3) := dl_o180 kcX3_readOutline (by decide +kernel)
theorem dX3_readOutline_188 : decode cX3_readOutline 188 = .ok (.ifCond .ne 7, 3) := dl_o154 kcX3_readOutline 7 (by decide +kernel) (by decide +kernel)
theorem dX3_readOutline_191 : decode cX3_readOutline 191 = .ok (.iconst 1, 1) := dl_o4 kcX3_readOutline (by decide +kernel)
theorem dX3_readOutline_192 : decode cX3_readOutline 192 = .ok (.goto 4, 3) := dl_o167 kcX3_readOutline 4 (by decide +kernel) (by decide +kernel)
theorem dX3_readOutline_195 : decode cX3_readOutline 195 = .ok (.iconst 0, 1) := dl_o3 kcX3_readOutline (by decide +kernel)
theorem dX3_readOutline_196 : decode cX3_readOutline 196 = .ok (.ireturn, 1) := dl_o172 kcX3_readOutline (by decide +kernel)
def B_X3_readOutline_123 (N : Nat) (k123 : Nat → Int32 → sv_V → Option (Int32 × sv_V)) (l2 : Nat) (l5 : Int32) (V : sv_V) : Option (Int32 × sv_V) := if lay l2 = .inl 8 then if (V.1 l2 9) ≤ l5 then ((cr l2 0).bind (fun b3 => (F_X3_takePlaces N b3 (V.1 l2 9) (2 : Int32) (16 : Int32) V).bind (fun V5 => (cr l2 1).bind (fun b7 => (F_X3_takePlaces N b7 (V5.1 l2 9) (4 : Int32) (32 : Int32) V5).bind (fun V9 => if (V9.1 16 6) = 0 then (some ((1 : Int32), V9)) else (some ((0 : Int32), V9))))))) else ((cr l2 5).bind (fun b12 => if sx_in l5 100 = true then (sv_len 0 b12).bind (fun n15 => if sx_in l5 n15 = true then sx_let (sv_I V b12 l5.toNatClampNeg ((V.1 27 l5.toNatClampNeg) &&& (1 : Int32))) (fun V18 => sx_let (l5 + 1) (fun x19 => k123 l2 x19 V18)) else none) else none)) else none
set_option maxRecDepth 20000 in
theorem tB_X3_readOutline_123 {g : sx_G} (hG : sx_Go g) {P : Option Value → sv_V → Prop} {r : Int32} {Vr : sv_V} (hP : P (some (.int r)) Vr) {N : Nat} {k123 : Nat → Int32 → sv_V → Option (Int32 × sv_V)} (hk123 : ∀ (l2 : Nat) (l5 : Int32) (V : sv_V), k123 l2 l5 V = some (r, Vr) → sv_N g qX3_readOutline 3 123 [(0, .ref 16), (2, .ref l2), (5, .int l5)] [] V P) {l2 : Nat} {l5 : Int32} {V : sv_V} (h : B_X3_readOutline_123 N k123 l2 l5 V = some (r, Vr)) : sv_N g qX3_readOutline 3 123 [(0, .ref 16), (2, .ref l2), (5, .int l5)] [] V P := by
  unfold B_X3_readOutline_123 at h
  refine sx_iload (pc := 123) dX3_readOutline_123 sx_m2 ?_
  refine sx_aload_n (pc := 125) dX3_readOutline_125 sx_m1 ?_
  obtain ⟨g1, h⟩ := sx_grd h
  refine sv_getI (pc := 126) hG dX3_readOutline_126 f_3_60 g1 rfl ?_
  refine sx_icmp_ge (pc := 129) (tgt := 154) dX3_readOutline_129 (by decide) (fun c2 => ?_) (fun c2 => ?_)
  · have h := sx_pos c2 h
    refine sx_aload_n (pc := 154) dX3_readOutline_154 sx_m0 ?_
    refine sx_aload_n (pc := 155) dX3_readOutline_155 sx_m1 ?_
    obtain ⟨b3, g4, h⟩ := sx_bnd h
    refine sv_getA (pc := 156) hG dX3_readOutline_156 f_3_111 g1 rfl g4 ?_
    refine sx_aload_n (pc := 159) dX3_readOutline_159 sx_m1 ?_
    refine sv_getI (pc := 160) hG dX3_readOutline_160 f_3_60 g1 rfl ?_
    refine sx_iconst (pc := 163) (v := 2) dX3_readOutline_163 (by decide) ?_
    refine sx_bipush (pc := 164) (v := 16) dX3_readOutline_164 (by decide) ?_
    obtain ⟨V5, g6, h⟩ := sx_bnd h
    refine sv_cV (pc := 166) (y := qX3_takePlaces) (o := none) (as := [.ref b3, .int (V.1 l2 9), .int (2 : Int32), .int (16 : Int32)]) (V1 := V5) hG dX3_readOutline_166 l_X3_114 y0X3_takePlaces yvX3_takePlaces rfl (Nat.le_of_ble_eq_true rfl) lay_16 kr_3 (by decide) (Nat.le_of_ble_eq_true rfl) rfl rfl rfl (t_X3_takePlaces hG ⟨rfl, rfl⟩ g6) ?_
    refine sx_aload_n (pc := 169) dX3_readOutline_169 sx_m0 ?_
    refine sx_aload_n (pc := 170) dX3_readOutline_170 sx_m1 ?_
    obtain ⟨b7, g8, h⟩ := sx_bnd h
    refine sv_getA (pc := 171) hG dX3_readOutline_171 f_3_118 g1 rfl g8 ?_
    refine sx_aload_n (pc := 174) dX3_readOutline_174 sx_m1 ?_
    refine sv_getI (pc := 175) hG dX3_readOutline_175 f_3_60 g1 rfl ?_
    refine sx_iconst (pc := 178) (v := 4) dX3_readOutline_178 (by decide) ?_
    refine sx_bipush (pc := 179) (v := 32) dX3_readOutline_179 (by decide) ?_
    obtain ⟨V9, g10, h⟩ := sx_bnd h
    refine sv_cV (pc := 181) (y := qX3_takePlaces) (o := none) (as := [.ref b7, .int (V5.1 l2 9), .int (4 : Int32), .int (32 : Int32)]) (V1 := V9) hG dX3_readOutline_181 l_X3_114 y0X3_takePlaces yvX3_takePlaces rfl (Nat.le_of_ble_eq_true rfl) lay_16 kr_3 (by decide) (Nat.le_of_ble_eq_true rfl) rfl rfl rfl (t_X3_takePlaces hG ⟨rfl, rfl⟩ g10) ?_
    refine sx_aload_n (pc := 184) dX3_readOutline_184 sx_m0 ?_
    refine sv_getZ (pc := 185) hG dX3_readOutline_185 f_3_69 lay_16 rfl ?_
    refine sx_if_ne (pc := 188) (tgt := 195) dX3_readOutline_188 (by decide) (fun c11 => ?_) (fun c11 => ?_)
    · have h := sx_neg c11 h
      refine sx_iconst (pc := 195) (v := 0) dX3_readOutline_195 (by decide) ?_
      exact sv_zret (pc := 196) dX3_readOutline_196 rfl rfl h hP
    · have h := sx_pos c11 h
      refine sx_iconst (pc := 191) (v := 1) dX3_readOutline_191 (by decide) ?_
      refine sx_goto (pc := 192) (tgt := 196) dX3_readOutline_192 (by decide) ?_
      exact sv_zret (pc := 196) dX3_readOutline_196 rfl rfl h hP
  · have h := sx_neg c2 h
    refine sx_aload_n (pc := 132) dX3_readOutline_132 sx_m1 ?_
    obtain ⟨b12, g13, h⟩ := sx_bnd h
    refine sv_getA (pc := 133) hG dX3_readOutline_133 f_3_108 g1 rfl g13 ?_
    refine sx_iload (pc := 136) dX3_readOutline_136 sx_m2 ?_
    refine sx_aload_n (pc := 138) dX3_readOutline_138 sx_m0 ?_
    refine sv_getA (pc := 139) hG dX3_readOutline_139 f_3_20 lay_16 rfl cr_16_2 ?_
    refine sx_iload (pc := 142) dX3_readOutline_142 sx_m2 ?_
    obtain ⟨g14, h⟩ := sx_grd h
    refine sv_iald (pc := 144) hG dX3_readOutline_144 lay_27 g14 ?_
    refine sx_iconst (pc := 145) (v := 1) dX3_readOutline_145 (by decide) ?_
    refine sx_iand (pc := 146) dX3_readOutline_146 ?_
    obtain ⟨n15, g16, h⟩ := sx_bnd h
    obtain ⟨g17, h⟩ := sx_grd h
    obtain ⟨V18, hV18⟩ : ∃ z : sv_V, z = sv_I V b12 l5.toNatClampNeg ((V.1 27 l5.toNatClampNeg) &&& (1 : Int32)) := ⟨_, rfl⟩
    have h := sx_letE hV18 h
    refine sv_iast (pc := 147) hG dX3_readOutline_147 (sv_len_e g16) g17 hV18 ?_
    obtain ⟨x19, hx19⟩ : ∃ z : Int32, z = l5 + 1 := ⟨_, rfl⟩
    have h := sx_letE hx19 h
    refine sx_iinc (pc := 148) (v := x19) (lo' := [(5, .int x19), (0, .ref 16), (2, .ref l2)]) dX3_readOutline_148 sx_m2 (by rw [hx19]; rfl) (by decide) rfl ?_
    refine sx_goto (pc := 151) (tgt := 123) dX3_readOutline_151 (by decide) ?_
    refine sx_wk (sx_s1 sx_m1 (sx_s1 sx_m2 (sx_s1 sx_m0 sx_s0))) ?_
    exact hk123 _ _ _ h
theorem tL_X3_readOutline_123 {g : sx_G} (hG : sx_Go g) {P : Option Value → sv_V → Prop} {r : Int32} {Vr : sv_V} (hP : P (some (.int r)) Vr) {N : Nat}   : ∀ (n : Nat) (l2 : Nat) (l5 : Int32) (V : sv_V), sx_lp3 (B_X3_readOutline_123 N ) n l2 l5 V = some (r, Vr) → sv_N g qX3_readOutline 3 123 [(0, .ref 16), (2, .ref l2), (5, .int l5)] [] V P :=
  sx_lp3_ind (fun k0 ih _ _ V h => tB_X3_readOutline_123 hG hP ih h)
def B_X3_readOutline_28 (N : Nat) (k28 : Int32 → Nat → Int32 → Int32 → Int32 → sv_V → Option (Int32 × sv_V)) (l1 : Int32) (l2 : Nat) (l3 : Int32) (l4 : Int32) (l5 : Int32) (V : sv_V) : Option (Int32 × sv_V) := if l3 ≤ l5 then ((F_J9_max_7cf53 l3 (0 : Int32) V).bind (fun (x23, V21) => if lay l2 = .inl 8 then sx_let (sv_I V21 l2 10 x23) (fun V25 => sx_let (sv_I V25 l2 9 (l4 + (1 : Int32))) (fun V26 => (F_X3_takeProgram l1 V26).bind (fun (x29, V27) => if x29 = 0 then (some ((0 : Int32), V27)) else ((F_X3_takeFlags N (V27.1 l2 9) V27).bind (fun (x33, V31) => if x33 = 0 then (some ((0 : Int32), V31)) else (sx_lp3 (B_X3_readOutline_123 N ) N l2 (0 : Int32) V31)))))) else none)) else ((F_X3_takeU2  V).bind (fun (x37, V35) => if (V35.1 16 6) = 0 then (if x37 ≤ l4 then (some ((0 : Int32), V35)) else (if x37 < (100 : Int32) then (if lay l2 = .inl 8 then (cr l2 6).bind (fun b42 => (sv_len 0 b42).bind (fun n44 => if sx_in l5 n44 = true then sx_let (sv_I V35 b42 l5.toNatClampNeg x37) (fun V47 => sx_let (l5 + 1) (fun x48 => k28 l1 l2 l3 x37 x48 V47)) else none)) else none) else (some ((0 : Int32), V35)))) else (some ((0 : Int32), V35))))
set_option maxRecDepth 20000 in
theorem tB_X3_readOutline_28 {g : sx_G} (hG : sx_Go g) {P : Option Value → sv_V → Prop} {r : Int32} {Vr : sv_V} (hP : P (some (.int r)) Vr) {N : Nat} {k28 : Int32 → Nat → Int32 → Int32 → Int32 → sv_V → Option (Int32 × sv_V)} (hk28 : ∀ (l1 : Int32) (l2 : Nat) (l3 : Int32) (l4 : Int32) (l5 : Int32) (V : sv_V), k28 l1 l2 l3 l4 l5 V = some (r, Vr) → sv_N g qX3_readOutline 3 28 [(0, .ref 16), (1, .int l1), (2, .ref l2), (3, .int l3), (4, .int l4), (5, .int l5)] [] V P) {l1 : Int32} {l2 : Nat} {l3 : Int32} {l4 : Int32} {l5 : Int32} {V : sv_V} (h : B_X3_readOutline_28 N k28 l1 l2 l3 l4 l5 V = some (r, Vr)) : sv_N g qX3_readOutline 3 28 [(0, .ref 16), (1, .int l1), (2, .ref l2), (3, .int l3), (4, .int l4), (5, .int l5)] [] V P := by
  unfold B_X3_readOutline_28 at h
  refine sx_iload (pc := 28) dX3_readOutline_28 sx_m5 ?_
  refine sx_iload_n (pc := 30) dX3_readOutline_30 sx_m3 ?_
  refine sx_icmp_ge (pc := 31) (tgt := 82) dX3_readOutline_31 (by decide) (fun c20 => ?_) (fun c20 => ?_)
  · have h := sx_pos c20 h
    refine sx_aload_n (pc := 82) dX3_readOutline_82 sx_m2 ?_
    refine sx_iload_n (pc := 83) dX3_readOutline_83 sx_m3 ?_
    refine sx_iconst (pc := 84) (v := 0) dX3_readOutline_84 (by decide) ?_
    obtain ⟨⟨x23, V21⟩, g22, h⟩ := sx_bnd h
    refine sv_cS (pc := 85) (y := qJ9_max_7cf53) (o := (some (.int x23))) (as := [.int l3, .int (0 : Int32)]) (V1 := V21) dX3_readOutline_85 l_X3_96 y0J9_max_7cf53 ysJ9_max_7cf53 rfl (Nat.le_of_ble_eq_true rfl) (by decide) (Nat.le_of_ble_eq_true rfl) rfl rfl rfl (t_J9_max_7cf53 hG ⟨rfl, rfl⟩ g22) ?_
    obtain ⟨g24, h⟩ := sx_grd h
    obtain ⟨V25, hV25⟩ : ∃ z : sv_V, z = sv_I V21 l2 10 x23 := ⟨_, rfl⟩
    have h := sx_letE hV25 h
    refine sv_putI (pc := 88) hG dX3_readOutline_88 f_3_99 g24 rfl hV25 ?_
    refine sx_aload_n (pc := 91) dX3_readOutline_91 sx_m2 ?_
    refine sx_iload (pc := 92) dX3_readOutline_92 sx_m4 ?_
    refine sx_iconst (pc := 94) (v := 1) dX3_readOutline_94 (by decide) ?_
    refine sx_iadd (pc := 95) dX3_readOutline_95 ?_
    obtain ⟨V26, hV26⟩ : ∃ z : sv_V, z = sv_I V25 l2 9 (l4 + (1 : Int32)) := ⟨_, rfl⟩
    have h := sx_letE hV26 h
    refine sv_putI (pc := 96) hG dX3_readOutline_96 f_3_60 g24 rfl hV26 ?_
    refine sx_aload_n (pc := 99) dX3_readOutline_99 sx_m0 ?_
    refine sx_iload_n (pc := 100) dX3_readOutline_100 sx_m1 ?_
    obtain ⟨⟨x29, V27⟩, g28, h⟩ := sx_bnd h
    refine sv_cV (pc := 101) (y := qX3_takeProgram) (o := (some (.int x29))) (as := [.int l1]) (V1 := V27) hG dX3_readOutline_101 l_X3_102 y0X3_takeProgram yvX3_takeProgram rfl (Nat.le_of_ble_eq_true rfl) lay_16 kr_3 (by decide) (Nat.le_of_ble_eq_true rfl) rfl rfl rfl (t_X3_takeProgram hG ⟨rfl, rfl⟩ g28) ?_
    refine sx_if_eq (pc := 104) (tgt := 118) dX3_readOutline_104 (by decide) (fun c30 => ?_) (fun c30 => ?_)
    · have h := sx_pos c30 h
      refine sx_iconst (pc := 118) (v := 0) dX3_readOutline_118 (by decide) ?_
      exact sv_zret (pc := 119) dX3_readOutline_119 rfl rfl h hP
    · have h := sx_neg c30 h
      refine sx_aload_n (pc := 107) dX3_readOutline_107 sx_m0 ?_
      refine sx_aload_n (pc := 108) dX3_readOutline_108 sx_m2 ?_
      refine sv_getI (pc := 109) hG dX3_readOutline_109 f_3_60 g24 rfl ?_
      obtain ⟨⟨x33, V31⟩, g32, h⟩ := sx_bnd h
      refine sv_cV (pc := 112) (y := qX3_takeFlags) (o := (some (.int x33))) (as := [.int (V27.1 l2 9)]) (V1 := V31) hG dX3_readOutline_112 l_X3_105 y0X3_takeFlags yvX3_takeFlags rfl (Nat.le_of_ble_eq_true rfl) lay_16 kr_3 (by decide) (Nat.le_of_ble_eq_true rfl) rfl rfl rfl (t_X3_takeFlags hG ⟨rfl, rfl⟩ g32) ?_
      refine sx_if_ne (pc := 115) (tgt := 120) dX3_readOutline_115 (by decide) (fun c34 => ?_) (fun c34 => ?_)
      · have h := sx_neg c34 h
        refine sx_iconst (pc := 120) (v := 0) dX3_readOutline_120 (by decide) ?_
        refine sx_istore (pc := 121) (lo' := [(5, .int (0 : Int32)), (0, .ref 16), (1, .int l1), (2, .ref l2), (3, .int l3), (4, .int l4)]) dX3_readOutline_121 (by decide) rfl ?_
        refine sx_wk (sx_s1 sx_m1 (sx_s1 sx_m3 (sx_s1 sx_m0 sx_s0))) ?_
        exact tL_X3_readOutline_123 hG hP  N _ _ _ h
      · have h := sx_pos c34 h
        refine sx_iconst (pc := 118) (v := 0) dX3_readOutline_118 (by decide) ?_
        exact sv_zret (pc := 119) dX3_readOutline_119 rfl rfl h hP
  · have h := sx_neg c20 h
    refine sx_aload_n (pc := 34) dX3_readOutline_34 sx_m0 ?_
    obtain ⟨⟨x37, V35⟩, g36, h⟩ := sx_bnd h
    refine sv_cV (pc := 35) (y := qX3_takeU2) (o := (some (.int x37))) (as := []) (V1 := V35) hG dX3_readOutline_35 l_X3_89 y0X3_takeU2 yvX3_takeU2 rfl (Nat.le_of_ble_eq_true rfl) lay_16 kr_3 (by decide) (Nat.le_of_ble_eq_true rfl) rfl rfl rfl (t_X3_takeU2 hG ⟨rfl, rfl⟩ g36) ?_
    refine sx_istore (pc := 38) (lo' := [(6, .int x37), (0, .ref 16), (1, .int l1), (2, .ref l2), (3, .int l3), (4, .int l4), (5, .int l5)]) dX3_readOutline_38 (by decide) rfl ?_
    refine sx_aload_n (pc := 40) dX3_readOutline_40 sx_m1 ?_
    refine sv_getZ (pc := 41) hG dX3_readOutline_41 f_3_69 lay_16 rfl ?_
    refine sx_if_ne (pc := 44) (tgt := 61) dX3_readOutline_44 (by decide) (fun c38 => ?_) (fun c38 => ?_)
    · have h := sx_neg c38 h
      refine sx_iconst (pc := 61) (v := 0) dX3_readOutline_61 (by decide) ?_
      exact sv_zret (pc := 62) dX3_readOutline_62 rfl rfl h hP
    · have h := sx_pos c38 h
      refine sx_iload (pc := 47) dX3_readOutline_47 sx_m0 ?_
      refine sx_iload (pc := 49) dX3_readOutline_49 sx_m5 ?_
      refine sx_icmp_le (pc := 51) (tgt := 61) dX3_readOutline_51 (by decide) (fun c39 => ?_) (fun c39 => ?_)
      · have h := sx_pos c39 h
        refine sx_iconst (pc := 61) (v := 0) dX3_readOutline_61 (by decide) ?_
        exact sv_zret (pc := 62) dX3_readOutline_62 rfl rfl h hP
      · have h := sx_neg c39 h
        refine sx_iload (pc := 54) dX3_readOutline_54 sx_m0 ?_
        refine sx_bipush (pc := 56) (v := 100) dX3_readOutline_56 (by decide) ?_
        refine sx_icmp_lt (pc := 58) (tgt := 63) dX3_readOutline_58 (by decide) (fun c40 => ?_) (fun c40 => ?_)
        · have h := sx_pos c40 h
          refine sx_aload_n (pc := 63) dX3_readOutline_63 sx_m3 ?_
          obtain ⟨g41, h⟩ := sx_grd h
          obtain ⟨b42, g43, h⟩ := sx_bnd h
          refine sv_getA (pc := 64) hG dX3_readOutline_64 f_3_93 g41 rfl g43 ?_
          refine sx_iload (pc := 67) dX3_readOutline_67 sx_m6 ?_
          refine sx_iload (pc := 69) dX3_readOutline_69 sx_m0 ?_
          obtain ⟨n44, g45, h⟩ := sx_bnd h
          obtain ⟨g46, h⟩ := sx_grd h
          obtain ⟨V47, hV47⟩ : ∃ z : sv_V, z = sv_I V35 b42 l5.toNatClampNeg x37 := ⟨_, rfl⟩
          have h := sx_letE hV47 h
          refine sv_iast (pc := 71) hG dX3_readOutline_71 (sv_len_e g45) g46 hV47 ?_
          refine sx_iload (pc := 72) dX3_readOutline_72 sx_m0 ?_
          refine sx_istore (pc := 74) (lo' := [(4, .int x37), (6, .int x37), (0, .ref 16), (1, .int l1), (2, .ref l2), (3, .int l3), (5, .int l5)]) dX3_readOutline_74 (by decide) rfl ?_
          obtain ⟨x48, hx48⟩ : ∃ z : Int32, z = l5 + 1 := ⟨_, rfl⟩
          have h := sx_letE hx48 h
          refine sx_iinc (pc := 76) (v := x48) (lo' := [(5, .int x48), (4, .int x37), (6, .int x37), (0, .ref 16), (1, .int l1), (2, .ref l2), (3, .int l3)]) dX3_readOutline_76 sx_m6 (by rw [hx48]; rfl) (by decide) rfl ?_
          refine sx_goto (pc := 79) (tgt := 28) dX3_readOutline_79 (by decide) ?_
          refine sx_wk (sx_s1 sx_m3 (sx_s1 sx_m4 (sx_s1 sx_m5 (sx_s1 sx_m6 (sx_s1 sx_m1 (sx_s1 sx_m0 sx_s0)))))) ?_
          exact hk28 _ _ _ _ _ _ h
        · have h := sx_neg c40 h
          refine sx_iconst (pc := 61) (v := 0) dX3_readOutline_61 (by decide) ?_
          exact sv_zret (pc := 62) dX3_readOutline_62 rfl rfl h hP
theorem tL_X3_readOutline_28 {g : sx_G} (hG : sx_Go g) {P : Option Value → sv_V → Prop} {r : Int32} {Vr : sv_V} (hP : P (some (.int r)) Vr) {N : Nat}   : ∀ (n : Nat) (l1 : Int32) (l2 : Nat) (l3 : Int32) (l4 : Int32) (l5 : Int32) (V : sv_V), sx_lp6 (B_X3_readOutline_28 N ) n l1 l2 l3 l4 l5 V = some (r, Vr) → sv_N g qX3_readOutline 3 28 [(0, .ref 16), (1, .int l1), (2, .ref l2), (3, .int l3), (4, .int l4), (5, .int l5)] [] V P :=
  sx_lp6_ind (fun k0 ih _ _ _ _ _ V h => tB_X3_readOutline_28 hG hP ih h)
def F_X3_readOutline (N : Nat) (l1 : Int32) (l2 : Nat) (V : sv_V) : Option (Int32 × sv_V) := (F_X3_goTo l1 V).bind (fun V49 => (cr 7 (2 : Int32).toNatClampNeg).bind (fun b51 => (sv_len 0 b51).bind (fun n53 => if sx_in l1 n53 = true then (F_J9_min_7cf53 (V49.1 b51 l1.toNatClampNeg) (12 : Int32) V49).bind (fun (x58, V56) => sx_lp6 (B_X3_readOutline_28 N ) N l1 l2 x58 (-1 : Int32) (0 : Int32) V56) else none)))
set_option maxRecDepth 20000 in
theorem t_X3_readOutline {g : sx_G} (hG : sx_Go g) {P : Option Value → sv_V → Prop} {r : Int32} {Vr : sv_V} (hP : P (some (.int r)) Vr) {N : Nat} {l1 : Int32} {l2 : Nat} {V : sv_V} (h : F_X3_readOutline N l1 l2 V = some (r, Vr)) : sv_N g qX3_readOutline 3 0 [(0, .ref 16), (1, .int l1), (2, .ref l2)] [] V P := by
  unfold F_X3_readOutline at h
  refine sx_aload_n (pc := 0) dX3_readOutline_0 sx_m0 ?_
  refine sx_iload_n (pc := 1) dX3_readOutline_1 sx_m1 ?_
  obtain ⟨V49, g50, h⟩ := sx_bnd h
  refine sv_cV (pc := 2) (y := qX3_goTo) (o := none) (as := [.int l1]) (V1 := V49) hG dX3_readOutline_2 l_X3_79 y0X3_goTo yvX3_goTo rfl (Nat.le_of_ble_eq_true rfl) lay_16 kr_3 (by decide) (Nat.le_of_ble_eq_true rfl) rfl rfl rfl (t_X3_goTo hG ⟨rfl, rfl⟩ g50) ?_
  refine sx_aload_n (pc := 5) dX3_readOutline_5 sx_m0 ?_
  refine sv_getO (pc := 6) hG dX3_readOutline_6 f_3_27 lay_16 rfl cr_16_0 ?_
  refine sv_getA (pc := 9) hG dX3_readOutline_9 f_3_45 lay_2 rfl cr_2_16 ?_
  refine sx_iconst (pc := 12) (v := 2) dX3_readOutline_12 (by decide) ?_
  obtain ⟨b51, g52, h⟩ := sx_bnd h
  refine sv_aald (pc := 13) hG dX3_readOutline_13 (by decide) lay_7 (by decide) g52 ?_
  refine sx_iload_n (pc := 14) dX3_readOutline_14 sx_m1 ?_
  obtain ⟨n53, g54, h⟩ := sx_bnd h
  obtain ⟨g55, h⟩ := sx_grd h
  refine sv_iald (pc := 15) hG dX3_readOutline_15 (sv_len_e g54) g55 ?_
  refine sx_bipush (pc := 16) (v := 12) dX3_readOutline_16 (by decide) ?_
  obtain ⟨⟨x58, V56⟩, g57, h⟩ := sx_bnd h
  refine sv_cS (pc := 18) (y := qJ9_min_7cf53) (o := (some (.int x58))) (as := [.int (V49.1 b51 l1.toNatClampNeg), .int (12 : Int32)]) (V1 := V56) dX3_readOutline_18 l_X3_83 y0J9_min_7cf53 ysJ9_min_7cf53 rfl (Nat.le_of_ble_eq_true rfl) (by decide) (Nat.le_of_ble_eq_true rfl) rfl rfl rfl (t_J9_min_7cf53 hG ⟨rfl, rfl⟩ g57) ?_
  refine sx_istore_n (pc := 21) (lo' := [(3, .int x58), (0, .ref 16), (1, .int l1), (2, .ref l2)]) dX3_readOutline_21 (by decide) rfl ?_
  refine sx_iconst (pc := 22) (v := (-1)) dX3_readOutline_22 (by decide) ?_
  refine sx_istore (pc := 23) (lo' := [(4, .int (-1 : Int32)), (3, .int x58), (0, .ref 16), (1, .int l1), (2, .ref l2)]) dX3_readOutline_23 (by decide) rfl ?_
  refine sx_iconst (pc := 25) (v := 0) dX3_readOutline_25 (by decide) ?_
  refine sx_istore (pc := 26) (lo' := [(5, .int (0 : Int32)), (4, .int (-1 : Int32)), (3, .int x58), (0, .ref 16), (1, .int l1), (2, .ref l2)]) dX3_readOutline_26 (by decide) rfl ?_
  refine sx_wk (sx_s1 sx_m3 (sx_s1 sx_m4 (sx_s1 sx_m5 (sx_s1 sx_m2 (sx_s1 sx_m1 (sx_s1 sx_m0 sx_s0)))))) ?_
  exact tL_X3_readOutline_28 hG hP  N _ _ _ _ _ _ h
def ncX3_partsHold : Nat := 4074942434630818657306188231048941097001170990570050185595032531961364641590636207751365556884203776995183290717597205778346220553957573012287131133020619726287778176309821054103934989287289121534747970265044605628151554194676522
theorem kcX3_partsHold : CK cX3_partsHold ncX3_partsHold 95 := ⟨by decide +kernel, by decide +kernel⟩
theorem dX3_partsHold_0 : decode cX3_partsHold 0 = .ok (.aload_n 0, 1) := dl_o42 kcX3_partsHold (by decide +kernel)
theorem dX3_partsHold_1 : decode cX3_partsHold 1 = .ok (.iload_n 1, 1) := dl_o27 kcX3_partsHold (by decide +kernel)
theorem dX3_partsHold_2 : decode cX3_partsHold 2 = .ok (.invokevirtual 79, 3) := dl_o182 kcX3_partsHold (by decide +kernel)
theorem dX3_partsHold_5 : decode cX3_partsHold 5 = .ok (.iconst 1, 1) := dl_o4 kcX3_partsHold (by decide +kernel)
theorem dX3_partsHold_6 : decode cX3_partsHold 6 = .ok (.istore_n 2, 1) := dl_o61 kcX3_partsHold (by decide +kernel)
theorem dX3_partsHold_7 : decode cX3_partsHold 7 = .ok (.iload_n 2, 1) := dl_o28 kcX3_partsHold (by decide +kernel)
theorem dX3_partsHold_8 : decode cX3_partsHold 8 = .ok (.bipush 8, 2) := dl_o16 kcX3_partsHold 8 (by decide +kernel) (by decide +kernel)
theorem dX3_partsHold_10 : decode cX3_partsHold 10 = .ok (.if_icmp .gt 83, 3) := dl_o163 kcX3_partsHold 83 (by decide +kernel) (by decide +kernel)
theorem dX3_partsHold_13 : decode cX3_partsHold 13 = .ok (.aload_n 0, 1) := dl_o42 kcX3_partsHold (by decide +kernel)
theorem dX3_partsHold_14 : decode cX3_partsHold 14 = .ok (.invokevirtual 127, 3) := dl_o182 kcX3_partsHold (by decide +kernel)
theorem dX3_partsHold_17 : decode cX3_partsHold 17 = .ok (.aload_n 0, 1) := dl_o42 kcX3_partsHold (by decide +kernel)
theorem dX3_partsHold_18 : decode cX3_partsHold 18 = .ok (.getfield 69, 3) := dl_o180 kcX3_partsHold (by decide +kernel)
theorem dX3_partsHold_21 : decode cX3_partsHold 21 = .ok (.ifCond .ne 17, 3) := dl_o154 kcX3_partsHold 17 (by decide +kernel) (by decide +kernel)
theorem dX3_partsHold_24 : decode cX3_partsHold 24 = .ok (.aload_n 0, 1) := dl_o42 kcX3_partsHold (by decide +kernel)
theorem dX3_partsHold_25 : decode cX3_partsHold 25 = .ok (.getfield 130, 3) := dl_o180 kcX3_partsHold (by decide +kernel)
theorem dX3_partsHold_28 : decode cX3_partsHold 28 = .ok (.aload_n 0, 1) := dl_o42 kcX3_partsHold (by decide +kernel)
theorem dX3_partsHold_29 : decode cX3_partsHold 29 = .ok (.getfield 27, 3) := dl_o180 kcX3_partsHold (by decide +kernel)
theorem dX3_partsHold_32 : decode cX3_partsHold 32 = .ok (.getfield 31, 3) := dl_o180 kcX3_partsHold (by decide +kernel)
theorem dX3_partsHold_35 : decode cX3_partsHold 35 = .ok (.if_icmp .lt 5, 3) := dl_o161 kcX3_partsHold 5 (by decide +kernel) (by decide +kernel)
theorem dX3_partsHold_38 : decode cX3_partsHold 38 = .ok (.iconst 0, 1) := dl_o3 kcX3_partsHold (by decide +kernel)
theorem dX3_partsHold_39 : decode cX3_partsHold 39 = .ok (.ireturn, 1) := dl_o172 kcX3_partsHold (by decide +kernel)
theorem dX3_partsHold_40 : decode cX3_partsHold 40 = .ok (.aload_n 0, 1) := dl_o42 kcX3_partsHold (by decide +kernel)
theorem dX3_partsHold_41 : decode cX3_partsHold 41 = .ok (.getfield 27, 3) := dl_o180 kcX3_partsHold (by decide +kernel)
theorem dX3_partsHold_44 : decode cX3_partsHold 44 = .ok (.getfield 45, 3) := dl_o180 kcX3_partsHold (by decide +kernel)
theorem dX3_partsHold_47 : decode cX3_partsHold 47 = .ok (.iconst 5, 1) := dl_o8 kcX3_partsHold (by decide +kernel)
theorem dX3_partsHold_48 : decode cX3_partsHold 48 = .ok (.aaload, 1) := dl_o50 kcX3_partsHold (by decide +kernel)
theorem dX3_partsHold_49 : decode cX3_partsHold 49 = .ok (.iload_n 1, 1) := dl_o27 kcX3_partsHold (by decide +kernel)
theorem dX3_partsHold_50 : decode cX3_partsHold 50 = .ok (.iload_n 2, 1) := dl_o28 kcX3_partsHold (by decide +kernel)
theorem dX3_partsHold_51 : decode cX3_partsHold 51 = .ok (.iastore, 1) := dl_o79 kcX3_partsHold (by decide +kernel)
theorem dX3_partsHold_52 : decode cX3_partsHold 52 = .ok (.aload_n 0, 1) := dl_o42 kcX3_partsHold (by decide +kernel)
theorem dX3_partsHold_53 : decode cX3_partsHold 53 = .ok (.getfield 133, 3) := dl_o180 kcX3_partsHold (by decide +kernel)
theorem dX3_partsHold_56 : decode cX3_partsHold 56 = .ok (.bipush 32, 2) := dl_o16 kcX3_partsHold 32 (by decide +kernel) (by decide +kernel)
theorem dX3_partsHold_58 : decode cX3_partsHold 58 = .ok (.iand, 1) := dl_o126 kcX3_partsHold (by decide +kernel)
theorem dX3_partsHold_59 : decode cX3_partsHold 59 = .ok (.ifCond .ne 28, 3) := dl_o154 kcX3_partsHold 28 (by decide +kernel) (by decide +kernel)
theorem dX3_partsHold_62 : decode cX3_partsHold 62 = .ok (.aload_n 0, 1) := dl_o42 kcX3_partsHold (by decide +kernel)
theorem dX3_partsHold_63 : decode cX3_partsHold 63 = .ok (.getfield 133, 3) := dl_o180 kcX3_partsHold (by decide +kernel)
theorem dX3_partsHold_66 : decode cX3_partsHold 66 = .ok (.sipush 256, 3) := dl_o17 kcX3_partsHold 256 (by decide +kernel) (by decide +kernel)
theorem dX3_partsHold_69 : decode cX3_partsHold 69 = .ok (.iand, 1) := dl_o126 kcX3_partsHold (by decide +kernel)
theorem dX3_partsHold_70 : decode cX3_partsHold 70 = .ok (.ifCond .eq 11, 3) := dl_o153 kcX3_partsHold 11 (by decide +kernel) (by decide +kernel)
theorem dX3_partsHold_73 : decode cX3_partsHold 73 = .ok (.aload_n 0, 1) := dl_o42 kcX3_partsHold (by decide +kernel)
theorem dX3_partsHold_74 : decode cX3_partsHold 74 = .ok (.iload_n 1, 1) := dl_o27 kcX3_partsHold (by decide +kernel)
theorem dX3_partsHold_75 : decode cX3_partsHold 75 = .ok (.invokevirtual 102, 3) := dl_o182 kcX3_partsHold (by decide +kernel)
theorem dX3_partsHold_78 : decode cX3_partsHold 78 = .ok (.ifCond .eq 7, 3) := dl_o153 kcX3_partsHold 7 (by decide +kernel) (by decide +kernel)
theorem dX3_partsHold_81 : decode cX3_partsHold 81 = .ok (.iconst 1, 1) := dl_o4 kcX3_partsHold (by decide +kernel)
theorem dX3_partsHold_82 : decode cX3_partsHold 82 = .ok (.goto 4, 3) := dl_o167 kcX3_partsHold 4 (by decide +kernel) (by decide +kernel)
theorem dX3_partsHold_85 : decode cX3_partsHold 85 = .ok (.iconst 0, 1) := dl_o3 kcX3_partsHold (by decide +kernel)
theorem dX3_partsHold_86 : decode cX3_partsHold 86 = .ok (.ireturn, 1) := dl_o172 kcX3_partsHold (by decide +kernel)
theorem dX3_partsHold_87 : decode cX3_partsHold 87 = .ok (.iinc 2 1, 3) := by decide +kernel
theorem dX3_partsHold_90 : decode cX3_partsHold 90 = .ok (.goto (-83), 3) := dl_o167 kcX3_partsHold 65453 (by decide +kernel) (by decide +kernel)
theorem dX3_partsHold_93 : decode cX3_partsHold 93 = .ok (.iconst 0, 1) := dl_o3 kcX3_partsHold (by decide +kernel)
theorem dX3_partsHold_94 : decode cX3_partsHold 94 = .ok (.ireturn, 1) := dl_o172 kcX3_partsHold (by decide +kernel)
def B_X3_partsHold_81 (N : Nat)   (V : sv_V) : Option (Int32 × sv_V) := some ((1 : Int32), V)
set_option maxRecDepth 20000 in
theorem tB_X3_partsHold_81 {g : sx_G} (hG : sx_Go g) {P : Option Value → sv_V → Prop} {r : Int32} {Vr : sv_V} (hP : P (some (.int r)) Vr) {N : Nat}    {V : sv_V} (h : B_X3_partsHold_81 N   V = some (r, Vr)) : sv_N g qX3_partsHold 3 81 [] [] V P := by
  unfold B_X3_partsHold_81 at h
  refine sx_iconst (pc := 81) (v := 1) dX3_partsHold_81 (by decide) ?_
  refine sx_goto (pc := 82) (tgt := 86) dX3_partsHold_82 (by decide) ?_
  exact sv_zret (pc := 86) dX3_partsHold_86 rfl rfl h hP
def B_X3_partsHold_7 (N : Nat) (k7 : Int32 → Int32 → sv_V → Option (Int32 × sv_V)) (l1 : Int32) (l2 : Int32) (V : sv_V) : Option (Int32 × sv_V) := if (8 : Int32) < l2 then (some ((0 : Int32), V)) else ((F_X3_takePart  V).bind (fun V2 => if (V2.1 16 6) = 0 then (if (V2.1 16 8) < (V2.1 2 7) then ((cr 7 (5 : Int32).toNatClampNeg).bind (fun b6 => (sv_len 0 b6).bind (fun n8 => if sx_in l1 n8 = true then sx_let (sv_I V2 b6 l1.toNatClampNeg l2) (fun V11 => if ((V11.1 16 7) &&& (32 : Int32)) = 0 then (if ((V11.1 16 7) &&& (256 : Int32)) = 0 then (B_X3_partsHold_81 N   V11) else ((F_X3_takeProgram l1 V11).bind (fun (x17, V15) => if x17 = 0 then (some ((0 : Int32), V15)) else (B_X3_partsHold_81 N   V15)))) else (sx_let (l2 + 1) (fun x13 => k7 l1 x13 V11))) else none))) else (some ((0 : Int32), V2))) else (some ((0 : Int32), V2))))
set_option maxRecDepth 20000 in
theorem tB_X3_partsHold_7 {g : sx_G} (hG : sx_Go g) {P : Option Value → sv_V → Prop} {r : Int32} {Vr : sv_V} (hP : P (some (.int r)) Vr) {N : Nat} {k7 : Int32 → Int32 → sv_V → Option (Int32 × sv_V)} (hk7 : ∀ (l1 : Int32) (l2 : Int32) (V : sv_V), k7 l1 l2 V = some (r, Vr) → sv_N g qX3_partsHold 3 7 [(0, .ref 16), (1, .int l1), (2, .int l2)] [] V P) {l1 : Int32} {l2 : Int32} {V : sv_V} (h : B_X3_partsHold_7 N k7 l1 l2 V = some (r, Vr)) : sv_N g qX3_partsHold 3 7 [(0, .ref 16), (1, .int l1), (2, .int l2)] [] V P := by
  unfold B_X3_partsHold_7 at h
  refine sx_iload_n (pc := 7) dX3_partsHold_7 sx_m2 ?_
  refine sx_bipush (pc := 8) (v := 8) dX3_partsHold_8 (by decide) ?_
  refine sx_icmp_gt (pc := 10) (tgt := 93) dX3_partsHold_10 (by decide) (fun c1 => ?_) (fun c1 => ?_)
  · have h := sx_pos c1 h
    refine sx_iconst (pc := 93) (v := 0) dX3_partsHold_93 (by decide) ?_
    exact sv_zret (pc := 94) dX3_partsHold_94 rfl rfl h hP
  · have h := sx_neg c1 h
    refine sx_aload_n (pc := 13) dX3_partsHold_13 sx_m0 ?_
    obtain ⟨V2, g3, h⟩ := sx_bnd h
    refine sv_cV (pc := 14) (y := qX3_takePart) (o := none) (as := []) (V1 := V2) hG dX3_partsHold_14 l_X3_127 y0X3_takePart yvX3_takePart rfl (Nat.le_of_ble_eq_true rfl) lay_16 kr_3 (by decide) (Nat.le_of_ble_eq_true rfl) rfl rfl rfl (t_X3_takePart hG ⟨rfl, rfl⟩ g3) ?_
    refine sx_aload_n (pc := 17) dX3_partsHold_17 sx_m0 ?_
    refine sv_getZ (pc := 18) hG dX3_partsHold_18 f_3_69 lay_16 rfl ?_
    refine sx_if_ne (pc := 21) (tgt := 38) dX3_partsHold_21 (by decide) (fun c4 => ?_) (fun c4 => ?_)
    · have h := sx_neg c4 h
      refine sx_iconst (pc := 38) (v := 0) dX3_partsHold_38 (by decide) ?_
      exact sv_zret (pc := 39) dX3_partsHold_39 rfl rfl h hP
    · have h := sx_pos c4 h
      refine sx_aload_n (pc := 24) dX3_partsHold_24 sx_m0 ?_
      refine sv_getI (pc := 25) hG dX3_partsHold_25 f_3_130 lay_16 rfl ?_
      refine sx_aload_n (pc := 28) dX3_partsHold_28 sx_m0 ?_
      refine sv_getO (pc := 29) hG dX3_partsHold_29 f_3_27 lay_16 rfl cr_16_0 ?_
      refine sv_getI (pc := 32) hG dX3_partsHold_32 f_3_31 lay_2 rfl ?_
      refine sx_icmp_lt (pc := 35) (tgt := 40) dX3_partsHold_35 (by decide) (fun c5 => ?_) (fun c5 => ?_)
      · have h := sx_pos c5 h
        refine sx_aload_n (pc := 40) dX3_partsHold_40 sx_m0 ?_
        refine sv_getO (pc := 41) hG dX3_partsHold_41 f_3_27 lay_16 rfl cr_16_0 ?_
        refine sv_getA (pc := 44) hG dX3_partsHold_44 f_3_45 lay_2 rfl cr_2_16 ?_
        refine sx_iconst (pc := 47) (v := 5) dX3_partsHold_47 (by decide) ?_
        obtain ⟨b6, g7, h⟩ := sx_bnd h
        refine sv_aald (pc := 48) hG dX3_partsHold_48 (by decide) lay_7 (by decide) g7 ?_
        refine sx_iload_n (pc := 49) dX3_partsHold_49 sx_m1 ?_
        refine sx_iload_n (pc := 50) dX3_partsHold_50 sx_m2 ?_
        obtain ⟨n8, g9, h⟩ := sx_bnd h
        obtain ⟨g10, h⟩ := sx_grd h
        obtain ⟨V11, hV11⟩ : ∃ z : sv_V, z = sv_I V2 b6 l1.toNatClampNeg l2 := ⟨_, rfl⟩
        have h := sx_letE hV11 h
        refine sv_iast (pc := 51) hG dX3_partsHold_51 (sv_len_e g9) g10 hV11 ?_
        refine sx_aload_n (pc := 52) dX3_partsHold_52 sx_m0 ?_
        refine sv_getI (pc := 53) hG dX3_partsHold_53 f_3_133 lay_16 rfl ?_
        refine sx_bipush (pc := 56) (v := 32) dX3_partsHold_56 (by decide) ?_
        refine sx_iand (pc := 58) dX3_partsHold_58 ?_
        refine sx_if_ne (pc := 59) (tgt := 87) dX3_partsHold_59 (by decide) (fun c12 => ?_) (fun c12 => ?_)
        · have h := sx_neg c12 h
          obtain ⟨x13, hx13⟩ : ∃ z : Int32, z = l2 + 1 := ⟨_, rfl⟩
          have h := sx_letE hx13 h
          refine sx_iinc (pc := 87) (v := x13) (lo' := [(2, .int x13), (0, .ref 16), (1, .int l1)]) dX3_partsHold_87 sx_m2 (by rw [hx13]; rfl) (by decide) rfl ?_
          refine sx_goto (pc := 90) (tgt := 7) dX3_partsHold_90 (by decide) ?_
          refine sx_wk (sx_s1 sx_m1 (sx_s1 sx_m2 (sx_s1 sx_m0 sx_s0))) ?_
          exact hk7 _ _ _ h
        · have h := sx_pos c12 h
          refine sx_aload_n (pc := 62) dX3_partsHold_62 sx_m0 ?_
          refine sv_getI (pc := 63) hG dX3_partsHold_63 f_3_133 lay_16 rfl ?_
          refine sx_sipush (pc := 66) (v := 256) dX3_partsHold_66 (by decide) ?_
          refine sx_iand (pc := 69) dX3_partsHold_69 ?_
          refine sx_if_eq (pc := 70) (tgt := 81) dX3_partsHold_70 (by decide) (fun c14 => ?_) (fun c14 => ?_)
          · have h := sx_pos c14 h
            refine sx_wk sx_s0 ?_
            exact tB_X3_partsHold_81 hG hP  h
          · have h := sx_neg c14 h
            refine sx_aload_n (pc := 73) dX3_partsHold_73 sx_m0 ?_
            refine sx_iload_n (pc := 74) dX3_partsHold_74 sx_m1 ?_
            obtain ⟨⟨x17, V15⟩, g16, h⟩ := sx_bnd h
            refine sv_cV (pc := 75) (y := qX3_takeProgram) (o := (some (.int x17))) (as := [.int l1]) (V1 := V15) hG dX3_partsHold_75 l_X3_102 y0X3_takeProgram yvX3_takeProgram rfl (Nat.le_of_ble_eq_true rfl) lay_16 kr_3 (by decide) (Nat.le_of_ble_eq_true rfl) rfl rfl rfl (t_X3_takeProgram hG ⟨rfl, rfl⟩ g16) ?_
            refine sx_if_eq (pc := 78) (tgt := 85) dX3_partsHold_78 (by decide) (fun c18 => ?_) (fun c18 => ?_)
            · have h := sx_pos c18 h
              refine sx_iconst (pc := 85) (v := 0) dX3_partsHold_85 (by decide) ?_
              exact sv_zret (pc := 86) dX3_partsHold_86 rfl rfl h hP
            · have h := sx_neg c18 h
              refine sx_wk sx_s0 ?_
              exact tB_X3_partsHold_81 hG hP  h
      · have h := sx_neg c5 h
        refine sx_iconst (pc := 38) (v := 0) dX3_partsHold_38 (by decide) ?_
        exact sv_zret (pc := 39) dX3_partsHold_39 rfl rfl h hP
theorem tL_X3_partsHold_7 {g : sx_G} (hG : sx_Go g) {P : Option Value → sv_V → Prop} {r : Int32} {Vr : sv_V} (hP : P (some (.int r)) Vr) {N : Nat}   : ∀ (n : Nat) (l1 : Int32) (l2 : Int32) (V : sv_V), sx_lp3 (B_X3_partsHold_7 N ) n l1 l2 V = some (r, Vr) → sv_N g qX3_partsHold 3 7 [(0, .ref 16), (1, .int l1), (2, .int l2)] [] V P :=
  sx_lp3_ind (fun k0 ih _ _ V h => tB_X3_partsHold_7 hG hP ih h)
def F_X3_partsHold (N : Nat) (l1 : Int32) (V : sv_V) : Option (Int32 × sv_V) := (F_X3_goTo l1 V).bind (fun V19 => sx_lp3 (B_X3_partsHold_7 N ) N l1 (1 : Int32) V19)
set_option maxRecDepth 20000 in
theorem t_X3_partsHold {g : sx_G} (hG : sx_Go g) {P : Option Value → sv_V → Prop} {r : Int32} {Vr : sv_V} (hP : P (some (.int r)) Vr) {N : Nat} {l1 : Int32} {V : sv_V} (h : F_X3_partsHold N l1 V = some (r, Vr)) : sv_N g qX3_partsHold 3 0 [(0, .ref 16), (1, .int l1)] [] V P := by
  unfold F_X3_partsHold at h
  refine sx_aload_n (pc := 0) dX3_partsHold_0 sx_m0 ?_
  refine sx_iload_n (pc := 1) dX3_partsHold_1 sx_m1 ?_
  obtain ⟨V19, g20, h⟩ := sx_bnd h
  refine sv_cV (pc := 2) (y := qX3_goTo) (o := none) (as := [.int l1]) (V1 := V19) hG dX3_partsHold_2 l_X3_79 y0X3_goTo yvX3_goTo rfl (Nat.le_of_ble_eq_true rfl) lay_16 kr_3 (by decide) (Nat.le_of_ble_eq_true rfl) rfl rfl rfl (t_X3_goTo hG ⟨rfl, rfl⟩ g20) ?_
  refine sx_iconst (pc := 5) (v := 1) dX3_partsHold_5 (by decide) ?_
  refine sx_istore_n (pc := 6) (lo' := [(2, .int (1 : Int32)), (0, .ref 16), (1, .int l1)]) dX3_partsHold_6 (by decide) rfl ?_
  refine sx_wk (sx_s1 sx_m1 (sx_s1 sx_m2 (sx_s1 sx_m0 sx_s0))) ?_
  exact tL_X3_partsHold_7 hG hP  N _ _ _ h
def ncX3_readPart : Nat := 4797080054783325824353671149782943138269184677792680737658257351777066
theorem kcX3_readPart : CK cX3_readPart ncX3_readPart 29 := ⟨by decide +kernel, by decide +kernel⟩
theorem dX3_readPart_0 : decode cX3_readPart 0 = .ok (.aload_n 0, 1) := dl_o42 kcX3_readPart (by decide +kernel)
theorem dX3_readPart_1 : decode cX3_readPart 1 = .ok (.iload_n 1, 1) := dl_o27 kcX3_readPart (by decide +kernel)
theorem dX3_readPart_2 : decode cX3_readPart 2 = .ok (.invokevirtual 79, 3) := dl_o182 kcX3_readPart (by decide +kernel)
theorem dX3_readPart_5 : decode cX3_readPart 5 = .ok (.iconst 0, 1) := dl_o3 kcX3_readPart (by decide +kernel)
theorem dX3_readPart_6 : decode cX3_readPart 6 = .ok (.istore_n 3, 1) := dl_o62 kcX3_readPart (by decide +kernel)
theorem dX3_readPart_7 : decode cX3_readPart 7 = .ok (.iload_n 3, 1) := dl_o29 kcX3_readPart (by decide +kernel)
theorem dX3_readPart_8 : decode cX3_readPart 8 = .ok (.iload_n 2, 1) := dl_o28 kcX3_readPart (by decide +kernel)
theorem dX3_readPart_9 : decode cX3_readPart 9 = .ok (.if_icmp .gt 19, 3) := dl_o163 kcX3_readPart 19 (by decide +kernel) (by decide +kernel)
theorem dX3_readPart_12 : decode cX3_readPart 12 = .ok (.iload_n 3, 1) := dl_o29 kcX3_readPart (by decide +kernel)
theorem dX3_readPart_13 : decode cX3_readPart 13 = .ok (.bipush 8, 2) := dl_o16 kcX3_readPart 8 (by decide +kernel) (by decide +kernel)
theorem dX3_readPart_15 : decode cX3_readPart 15 = .ok (.if_icmp .ge 13, 3) := dl_o162 kcX3_readPart 13 (by decide +kernel) (by decide +kernel)
theorem dX3_readPart_18 : decode cX3_readPart 18 = .ok (.aload_n 0, 1) := dl_o42 kcX3_readPart (by decide +kernel)
theorem dX3_readPart_19 : decode cX3_readPart 19 = .ok (.invokevirtual 127, 3) := dl_o182 kcX3_readPart (by decide +kernel)
theorem dX3_readPart_22 : decode cX3_readPart 22 = .ok (.iinc 3 1, 3) := by decide +kernel
theorem dX3_readPart_25 : decode cX3_readPart 25 = .ok (.goto (-18), 3) := dl_o167 kcX3_readPart 65518 (by decide +kernel) (by decide +kernel)
theorem dX3_readPart_28 : decode cX3_readPart 28 = .ok (.return_, 1) := dl_o177 kcX3_readPart (by decide +kernel)
def B_X3_readPart_7 (N : Nat) (k7 : Int32 → Int32 → sv_V → Option sv_V) (l2 : Int32) (l3 : Int32) (V : sv_V) : Option sv_V := if l2 < l3 then (some V) else (if (8 : Int32) ≤ l3 then (some V) else ((F_X3_takePart  V).bind (fun V3 => sx_let (l3 + 1) (fun x5 => k7 l2 x5 V3))))
set_option maxRecDepth 20000 in
theorem tB_X3_readPart_7 {g : sx_G} (hG : sx_Go g) {P : Option Value → sv_V → Prop} {Vr : sv_V} (hP : P none Vr) {N : Nat} {k7 : Int32 → Int32 → sv_V → Option sv_V} (hk7 : ∀ (l2 : Int32) (l3 : Int32) (V : sv_V), k7 l2 l3 V = some Vr → sv_N g qX3_readPart 3 7 [(0, .ref 16), (2, .int l2), (3, .int l3)] [] V P) {l2 : Int32} {l3 : Int32} {V : sv_V} (h : B_X3_readPart_7 N k7 l2 l3 V = some Vr) : sv_N g qX3_readPart 3 7 [(0, .ref 16), (2, .int l2), (3, .int l3)] [] V P := by
  unfold B_X3_readPart_7 at h
  refine sx_iload_n (pc := 7) dX3_readPart_7 sx_m2 ?_
  refine sx_iload_n (pc := 8) dX3_readPart_8 sx_m1 ?_
  refine sx_icmp_gt (pc := 9) (tgt := 28) dX3_readPart_9 (by decide) (fun c1 => ?_) (fun c1 => ?_)
  · have h := sx_pos c1 h
    exact sv_vret (pc := 28) dX3_readPart_28 rfl h hP
  · have h := sx_neg c1 h
    refine sx_iload_n (pc := 12) dX3_readPart_12 sx_m2 ?_
    refine sx_bipush (pc := 13) (v := 8) dX3_readPart_13 (by decide) ?_
    refine sx_icmp_ge (pc := 15) (tgt := 28) dX3_readPart_15 (by decide) (fun c2 => ?_) (fun c2 => ?_)
    · have h := sx_pos c2 h
      exact sv_vret (pc := 28) dX3_readPart_28 rfl h hP
    · have h := sx_neg c2 h
      refine sx_aload_n (pc := 18) dX3_readPart_18 sx_m0 ?_
      obtain ⟨V3, g4, h⟩ := sx_bnd h
      refine sv_cV (pc := 19) (y := qX3_takePart) (o := none) (as := []) (V1 := V3) hG dX3_readPart_19 l_X3_127 y0X3_takePart yvX3_takePart rfl (Nat.le_of_ble_eq_true rfl) lay_16 kr_3 (by decide) (Nat.le_of_ble_eq_true rfl) rfl rfl rfl (t_X3_takePart hG ⟨rfl, rfl⟩ g4) ?_
      obtain ⟨x5, hx5⟩ : ∃ z : Int32, z = l3 + 1 := ⟨_, rfl⟩
      have h := sx_letE hx5 h
      refine sx_iinc (pc := 22) (v := x5) (lo' := [(3, .int x5), (0, .ref 16), (2, .int l2)]) dX3_readPart_22 sx_m2 (by rw [hx5]; rfl) (by decide) rfl ?_
      refine sx_goto (pc := 25) (tgt := 7) dX3_readPart_25 (by decide) ?_
      refine sx_wk (sx_s1 sx_m1 (sx_s1 sx_m2 (sx_s1 sx_m0 sx_s0))) ?_
      exact hk7 _ _ _ h
theorem tL_X3_readPart_7 {g : sx_G} (hG : sx_Go g) {P : Option Value → sv_V → Prop} {Vr : sv_V} (hP : P none Vr) {N : Nat}   : ∀ (n : Nat) (l2 : Int32) (l3 : Int32) (V : sv_V), sx_lp3 (B_X3_readPart_7 N ) n l2 l3 V = some Vr → sv_N g qX3_readPart 3 7 [(0, .ref 16), (2, .int l2), (3, .int l3)] [] V P :=
  sx_lp3_ind (fun k0 ih _ _ V h => tB_X3_readPart_7 hG hP ih h)
def F_X3_readPart (N : Nat) (l1 : Int32) (l2 : Int32) (V : sv_V) : Option sv_V := (F_X3_goTo l1 V).bind (fun V6 => sx_lp3 (B_X3_readPart_7 N ) N l2 (0 : Int32) V6)
set_option maxRecDepth 20000 in
theorem t_X3_readPart {g : sx_G} (hG : sx_Go g) {P : Option Value → sv_V → Prop} {Vr : sv_V} (hP : P none Vr) {N : Nat} {l1 : Int32} {l2 : Int32} {V : sv_V} (h : F_X3_readPart N l1 l2 V = some Vr) : sv_N g qX3_readPart 3 0 [(0, .ref 16), (1, .int l1), (2, .int l2)] [] V P := by
  unfold F_X3_readPart at h
  refine sx_aload_n (pc := 0) dX3_readPart_0 sx_m0 ?_
  refine sx_iload_n (pc := 1) dX3_readPart_1 sx_m1 ?_
  obtain ⟨V6, g7, h⟩ := sx_bnd h
  refine sv_cV (pc := 2) (y := qX3_goTo) (o := none) (as := [.int l1]) (V1 := V6) hG dX3_readPart_2 l_X3_79 y0X3_goTo yvX3_goTo rfl (Nat.le_of_ble_eq_true rfl) lay_16 kr_3 (by decide) (Nat.le_of_ble_eq_true rfl) rfl rfl rfl (t_X3_goTo hG ⟨rfl, rfl⟩ g7) ?_
  refine sx_iconst (pc := 5) (v := 0) dX3_readPart_5 (by decide) ?_
  refine sx_istore_n (pc := 6) (lo' := [(3, .int (0 : Int32)), (0, .ref 16), (1, .int l1), (2, .int l2)]) dX3_readPart_6 (by decide) rfl ?_
  refine sx_wk (sx_s1 sx_m1 (sx_s1 sx_m3 (sx_s1 sx_m0 sx_s0))) ?_
  exact tL_X3_readPart_7 hG hP  N _ _ _ h
def ncX3_deepestPart : Nat := 9014264813107931913595096406064003317525503155033731422027833340854757523422173548367936282371617618421353530004307839547948914396047583573582727652982019
theorem kcX3_deepestPart : CK cX3_deepestPart ncX3_deepestPart 64 := ⟨by decide +kernel, by decide +kernel⟩
theorem dX3_deepestPart_0 : decode cX3_deepestPart 0 = .ok (.iconst 0, 1) := dl_o3 kcX3_deepestPart (by decide +kernel)
theorem dX3_deepestPart_1 : decode cX3_deepestPart 1 = .ok (.istore_n 2, 1) := dl_o61 kcX3_deepestPart (by decide +kernel)
theorem dX3_deepestPart_2 : decode cX3_deepestPart 2 = .ok (.aload_n 0, 1) := dl_o42 kcX3_deepestPart (by decide +kernel)
theorem dX3_deepestPart_3 : decode cX3_deepestPart 3 = .ok (.iload_n 1, 1) := dl_o27 kcX3_deepestPart (by decide +kernel)
theorem dX3_deepestPart_4 : decode cX3_deepestPart 4 = .ok (.invokevirtual 79, 3) := dl_o182 kcX3_deepestPart (by decide +kernel)
theorem dX3_deepestPart_7 : decode cX3_deepestPart 7 = .ok (.iconst 0, 1) := dl_o3 kcX3_deepestPart (by decide +kernel)
theorem dX3_deepestPart_8 : decode cX3_deepestPart 8 = .ok (.istore_n 3, 1) := dl_o62 kcX3_deepestPart (by decide +kernel)
theorem dX3_deepestPart_9 : decode cX3_deepestPart 9 = .ok (.iload_n 3, 1) := dl_o29 kcX3_deepestPart (by decide +kernel)
theorem dX3_deepestPart_10 : decode cX3_deepestPart 10 = .ok (.aload_n 0, 1) := dl_o42 kcX3_deepestPart (by decide +kernel)
theorem dX3_deepestPart_11 : decode cX3_deepestPart 11 = .ok (.getfield 27, 3) := dl_o180 kcX3_deepestPart (by decide +kernel)
theorem dX3_deepestPart_14 : decode cX3_deepestPart 14 = .ok (.getfield 45, 3) := dl_o180 kcX3_deepestPart (by decide +kernel)
theorem dX3_deepestPart_17 : decode cX3_deepestPart 17 = .ok (.iconst 5, 1) := dl_o8 kcX3_deepestPart (by decide +kernel)
theorem dX3_deepestPart_18 : decode cX3_deepestPart 18 = .ok (.aaload, 1) := dl_o50 kcX3_deepestPart (by decide +kernel)
theorem dX3_deepestPart_19 : decode cX3_deepestPart 19 = .ok (.iload_n 1, 1) := dl_o27 kcX3_deepestPart (by decide +kernel)
theorem dX3_deepestPart_20 : decode cX3_deepestPart 20 = .ok (.iaload, 1) := dl_o46 kcX3_deepestPart (by decide +kernel)
theorem dX3_deepestPart_21 : decode cX3_deepestPart 21 = .ok (.if_icmp .ge 41, 3) := dl_o162 kcX3_deepestPart 41 (by decide +kernel) (by decide +kernel)
theorem dX3_deepestPart_24 : decode cX3_deepestPart 24 = .ok (.aload_n 0, 1) := dl_o42 kcX3_deepestPart (by decide +kernel)
theorem dX3_deepestPart_25 : decode cX3_deepestPart 25 = .ok (.invokevirtual 127, 3) := dl_o182 kcX3_deepestPart (by decide +kernel)
theorem dX3_deepestPart_28 : decode cX3_deepestPart 28 = .ok (.iload_n 2, 1) := dl_o28 kcX3_deepestPart (by decide +kernel)
theorem dX3_deepestPart_29 : decode cX3_deepestPart 29 = .ok (.aload_n 0, 1) := dl_o42 kcX3_deepestPart (by decide +kernel)
theorem dX3_deepestPart_30 : decode cX3_deepestPart 30 = .ok (.getfield 130, 3) := dl_o180 kcX3_deepestPart (by decide +kernel)
theorem dX3_deepestPart_33 : decode cX3_deepestPart 33 = .ok (.sipush 200, 3) := dl_o17 kcX3_deepestPart 200 (by decide +kernel) (by decide +kernel)
theorem dX3_deepestPart_36 : decode cX3_deepestPart 36 = .ok (.if_icmp .ge 15, 3) := dl_o162 kcX3_deepestPart 15 (by decide +kernel) (by decide +kernel)
theorem dX3_deepestPart_39 : decode cX3_deepestPart 39 = .ok (.aload_n 0, 1) := dl_o42 kcX3_deepestPart (by decide +kernel)
theorem dX3_deepestPart_40 : decode cX3_deepestPart 40 = .ok (.getfield 24, 3) := dl_o180 kcX3_deepestPart (by decide +kernel)
theorem dX3_deepestPart_43 : decode cX3_deepestPart 43 = .ok (.aload_n 0, 1) := dl_o42 kcX3_deepestPart (by decide +kernel)
theorem dX3_deepestPart_44 : decode cX3_deepestPart 44 = .ok (.getfield 130, 3) := dl_o180 kcX3_deepestPart (by decide +kernel)
theorem dX3_deepestPart_47 : decode cX3_deepestPart 47 = .ok (.iaload, 1) := dl_o46 kcX3_deepestPart (by decide +kernel)
theorem dX3_deepestPart_48 : decode cX3_deepestPart 48 = .ok (.goto 4, 3) := dl_o167 kcX3_deepestPart 4 (by decide +kernel) (by decide +kernel)
theorem dX3_deepestPart_51 : decode cX3_deepestPart 51 = .ok (.iconst 0, 1) := dl_o3 kcX3_deepestPart (by decide +kernel)
theorem dX3_deepestPart_52 : decode cX3_deepestPart 52 = .ok (.invokestatic 96, 3) := dl_o184 kcX3_deepestPart (by decide +kernel)
theorem dX3_deepestPart_55 : decode cX3_deepestPart 55 = .ok (.istore_n 2, 1) := dl_o61 kcX3_deepestPart (by decide +kernel)
theorem dX3_deepestPart_56 : decode cX3_deepestPart 56 = .ok (.iinc 3 1, 3) := by decide +kernel
theorem dX3_deepestPart_59 : decode cX3_deepestPart 59 = .ok (.goto (-50), 3) := dl_o167 kcX3_deepestPart 65486 (by decide +kernel) (by decide +kernel)
theorem dX3_deepestPart_62 : decode cX3_deepestPart 62 = .ok (.iload_n 2, 1) := dl_o28 kcX3_deepestPart (by decide +kernel)
theorem dX3_deepestPart_63 : decode cX3_deepestPart 63 = .ok (.ireturn, 1) := dl_o172 kcX3_deepestPart (by decide +kernel)
def B_X3_deepestPart_52 (N : Nat) (k9 : Int32 → Int32 → Int32 → sv_V → Option (Int32 × sv_V)) (l1 : Int32) (l3 : Int32) (s0 : Int32) (s1 : Int32) (V : sv_V) : Option (Int32 × sv_V) := (F_J9_max_7cf53 s0 s1 V).bind (fun (x3, V1) => sx_let (l3 + 1) (fun x4 => k9 l1 x3 x4 V1))
set_option maxRecDepth 20000 in
theorem tB_X3_deepestPart_52 {g : sx_G} (hG : sx_Go g) {P : Option Value → sv_V → Prop} {r : Int32} {Vr : sv_V} (hP : P (some (.int r)) Vr) {N : Nat} {k9 : Int32 → Int32 → Int32 → sv_V → Option (Int32 × sv_V)} (hk9 : ∀ (l1 : Int32) (l2 : Int32) (l3 : Int32) (V : sv_V), k9 l1 l2 l3 V = some (r, Vr) → sv_N g qX3_deepestPart 3 9 [(0, .ref 16), (1, .int l1), (2, .int l2), (3, .int l3)] [] V P) {l1 : Int32} {l3 : Int32} {s0 : Int32} {s1 : Int32} {V : sv_V} (h : B_X3_deepestPart_52 N k9 l1 l3 s0 s1 V = some (r, Vr)) : sv_N g qX3_deepestPart 3 52 [(0, .ref 16), (1, .int l1), (3, .int l3)] [.int s1, .int s0] V P := by
  unfold B_X3_deepestPart_52 at h
  obtain ⟨⟨x3, V1⟩, g2, h⟩ := sx_bnd h
  refine sv_cS (pc := 52) (y := qJ9_max_7cf53) (o := (some (.int x3))) (as := [.int s0, .int s1]) (V1 := V1) dX3_deepestPart_52 l_X3_96 y0J9_max_7cf53 ysJ9_max_7cf53 rfl (Nat.le_of_ble_eq_true rfl) (by decide) (Nat.le_of_ble_eq_true rfl) rfl rfl rfl (t_J9_max_7cf53 hG ⟨rfl, rfl⟩ g2) ?_
  refine sx_istore_n (pc := 55) (lo' := [(2, .int x3), (0, .ref 16), (1, .int l1), (3, .int l3)]) dX3_deepestPart_55 (by decide) rfl ?_
  obtain ⟨x4, hx4⟩ : ∃ z : Int32, z = l3 + 1 := ⟨_, rfl⟩
  have h := sx_letE hx4 h
  refine sx_iinc (pc := 56) (v := x4) (lo' := [(3, .int x4), (2, .int x3), (0, .ref 16), (1, .int l1)]) dX3_deepestPart_56 sx_m3 (by rw [hx4]; rfl) (by decide) rfl ?_
  refine sx_goto (pc := 59) (tgt := 9) dX3_deepestPart_59 (by decide) ?_
  refine sx_wk (sx_s1 sx_m2 (sx_s1 sx_m3 (sx_s1 sx_m1 (sx_s1 sx_m0 sx_s0)))) ?_
  exact hk9 _ _ _ _ h
def B_X3_deepestPart_9 (N : Nat) (k9 : Int32 → Int32 → Int32 → sv_V → Option (Int32 × sv_V)) (l1 : Int32) (l2 : Int32) (l3 : Int32) (V : sv_V) : Option (Int32 × sv_V) := (cr 7 (5 : Int32).toNatClampNeg).bind (fun b5 => (sv_len 0 b5).bind (fun n7 => if sx_in l1 n7 = true then if (V.1 b5 l1.toNatClampNeg) ≤ l3 then (some (l2, V)) else ((F_X3_takePart  V).bind (fun V11 => if (200 : Int32) ≤ (V11.1 16 8) then (B_X3_deepestPart_52 N k9 l1 l3 l2 (0 : Int32) V11) else (if sx_in (V11.1 16 8) 200 = true then B_X3_deepestPart_52 N k9 l1 l3 l2 (V11.1 28 (V11.1 16 8).toNatClampNeg) V11 else none))) else none))
set_option maxRecDepth 20000 in
theorem tB_X3_deepestPart_9 {g : sx_G} (hG : sx_Go g) {P : Option Value → sv_V → Prop} {r : Int32} {Vr : sv_V} (hP : P (some (.int r)) Vr) {N : Nat} {k9 : Int32 → Int32 → Int32 → sv_V → Option (Int32 × sv_V)} (hk9 : ∀ (l1 : Int32) (l2 : Int32) (l3 : Int32) (V : sv_V), k9 l1 l2 l3 V = some (r, Vr) → sv_N g qX3_deepestPart 3 9 [(0, .ref 16), (1, .int l1), (2, .int l2), (3, .int l3)] [] V P) {l1 : Int32} {l2 : Int32} {l3 : Int32} {V : sv_V} (h : B_X3_deepestPart_9 N k9 l1 l2 l3 V = some (r, Vr)) : sv_N g qX3_deepestPart 3 9 [(0, .ref 16), (1, .int l1), (2, .int l2), (3, .int l3)] [] V P := by
  unfold B_X3_deepestPart_9 at h
  refine sx_iload_n (pc := 9) dX3_deepestPart_9 sx_m3 ?_
  refine sx_aload_n (pc := 10) dX3_deepestPart_10 sx_m0 ?_
  refine sv_getO (pc := 11) hG dX3_deepestPart_11 f_3_27 lay_16 rfl cr_16_0 ?_
  refine sv_getA (pc := 14) hG dX3_deepestPart_14 f_3_45 lay_2 rfl cr_2_16 ?_
  refine sx_iconst (pc := 17) (v := 5) dX3_deepestPart_17 (by decide) ?_
  obtain ⟨b5, g6, h⟩ := sx_bnd h
  refine sv_aald (pc := 18) hG dX3_deepestPart_18 (by decide) lay_7 (by decide) g6 ?_
  refine sx_iload_n (pc := 19) dX3_deepestPart_19 sx_m1 ?_
  obtain ⟨n7, g8, h⟩ := sx_bnd h
  obtain ⟨g9, h⟩ := sx_grd h
  refine sv_iald (pc := 20) hG dX3_deepestPart_20 (sv_len_e g8) g9 ?_
  refine sx_icmp_ge (pc := 21) (tgt := 62) dX3_deepestPart_21 (by decide) (fun c10 => ?_) (fun c10 => ?_)
  · have h := sx_pos c10 h
    refine sx_iload_n (pc := 62) dX3_deepestPart_62 sx_m2 ?_
    exact sv_iret (pc := 63) dX3_deepestPart_63 rfl h hP
  · have h := sx_neg c10 h
    refine sx_aload_n (pc := 24) dX3_deepestPart_24 sx_m0 ?_
    obtain ⟨V11, g12, h⟩ := sx_bnd h
    refine sv_cV (pc := 25) (y := qX3_takePart) (o := none) (as := []) (V1 := V11) hG dX3_deepestPart_25 l_X3_127 y0X3_takePart yvX3_takePart rfl (Nat.le_of_ble_eq_true rfl) lay_16 kr_3 (by decide) (Nat.le_of_ble_eq_true rfl) rfl rfl rfl (t_X3_takePart hG ⟨rfl, rfl⟩ g12) ?_
    refine sx_iload_n (pc := 28) dX3_deepestPart_28 sx_m2 ?_
    refine sx_aload_n (pc := 29) dX3_deepestPart_29 sx_m0 ?_
    refine sv_getI (pc := 30) hG dX3_deepestPart_30 f_3_130 lay_16 rfl ?_
    refine sx_sipush (pc := 33) (v := 200) dX3_deepestPart_33 (by decide) ?_
    refine sx_icmp_ge (pc := 36) (tgt := 51) dX3_deepestPart_36 (by decide) (fun c13 => ?_) (fun c13 => ?_)
    · have h := sx_pos c13 h
      refine sx_iconst (pc := 51) (v := 0) dX3_deepestPart_51 (by decide) ?_
      refine sx_wk (sx_s1 sx_m0 (sx_s1 sx_m1 (sx_s1 sx_m3 sx_s0))) ?_
      exact tB_X3_deepestPart_52 hG hP hk9 h
    · have h := sx_neg c13 h
      refine sx_aload_n (pc := 39) dX3_deepestPart_39 sx_m0 ?_
      refine sv_getA (pc := 40) hG dX3_deepestPart_40 f_3_24 lay_16 rfl cr_16_3 ?_
      refine sx_aload_n (pc := 43) dX3_deepestPart_43 sx_m0 ?_
      refine sv_getI (pc := 44) hG dX3_deepestPart_44 f_3_130 lay_16 rfl ?_
      obtain ⟨g14, h⟩ := sx_grd h
      refine sv_iald (pc := 47) hG dX3_deepestPart_47 lay_28 g14 ?_
      refine sx_goto (pc := 48) (tgt := 52) dX3_deepestPart_48 (by decide) ?_
      refine sx_wk (sx_s1 sx_m0 (sx_s1 sx_m1 (sx_s1 sx_m3 sx_s0))) ?_
      exact tB_X3_deepestPart_52 hG hP hk9 h
theorem tL_X3_deepestPart_9 {g : sx_G} (hG : sx_Go g) {P : Option Value → sv_V → Prop} {r : Int32} {Vr : sv_V} (hP : P (some (.int r)) Vr) {N : Nat}   : ∀ (n : Nat) (l1 : Int32) (l2 : Int32) (l3 : Int32) (V : sv_V), sx_lp4 (B_X3_deepestPart_9 N ) n l1 l2 l3 V = some (r, Vr) → sv_N g qX3_deepestPart 3 9 [(0, .ref 16), (1, .int l1), (2, .int l2), (3, .int l3)] [] V P :=
  sx_lp4_ind (fun k0 ih _ _ _ V h => tB_X3_deepestPart_9 hG hP ih h)
def F_X3_deepestPart (N : Nat) (l1 : Int32) (V : sv_V) : Option (Int32 × sv_V) := (F_X3_goTo l1 V).bind (fun V15 => sx_lp4 (B_X3_deepestPart_9 N ) N l1 (0 : Int32) (0 : Int32) V15)
set_option maxRecDepth 20000 in
theorem t_X3_deepestPart {g : sx_G} (hG : sx_Go g) {P : Option Value → sv_V → Prop} {r : Int32} {Vr : sv_V} (hP : P (some (.int r)) Vr) {N : Nat} {l1 : Int32} {V : sv_V} (h : F_X3_deepestPart N l1 V = some (r, Vr)) : sv_N g qX3_deepestPart 3 0 [(0, .ref 16), (1, .int l1)] [] V P := by
  unfold F_X3_deepestPart at h
  refine sx_iconst (pc := 0) (v := 0) dX3_deepestPart_0 (by decide) ?_
  refine sx_istore_n (pc := 1) (lo' := [(2, .int (0 : Int32)), (0, .ref 16), (1, .int l1)]) dX3_deepestPart_1 (by decide) rfl ?_
  refine sx_aload_n (pc := 2) dX3_deepestPart_2 sx_m1 ?_
  refine sx_iload_n (pc := 3) dX3_deepestPart_3 sx_m2 ?_
  obtain ⟨V15, g16, h⟩ := sx_bnd h
  refine sv_cV (pc := 4) (y := qX3_goTo) (o := none) (as := [.int l1]) (V1 := V15) hG dX3_deepestPart_4 l_X3_79 y0X3_goTo yvX3_goTo rfl (Nat.le_of_ble_eq_true rfl) lay_16 kr_3 (by decide) (Nat.le_of_ble_eq_true rfl) rfl rfl rfl (t_X3_goTo hG ⟨rfl, rfl⟩ g16) ?_
  refine sx_iconst (pc := 7) (v := 0) dX3_deepestPart_7 (by decide) ?_
  refine sx_istore_n (pc := 8) (lo' := [(3, .int (0 : Int32)), (2, .int (0 : Int32)), (0, .ref 16), (1, .int l1)]) dX3_deepestPart_8 (by decide) rfl ?_
  refine sx_wk (sx_s1 sx_m2 (sx_s1 sx_m3 (sx_s1 sx_m1 (sx_s1 sx_m0 sx_s0)))) ?_
  exact tL_X3_deepestPart_9 hG hP  N _ _ _ _ h
def ncX4_shareBytes : Nat := 2097568454308510634972076673158478120292143933494638437535327397327252996725526381793759270991244420440181782112770911503625145029481415506729770
theorem kcX4_shareBytes : CK cX4_shareBytes ncX4_shareBytes 60 := ⟨by decide +kernel, by decide +kernel⟩
theorem dX4_shareBytes_0 : decode cX4_shareBytes 0 = .ok (.aload_n 0, 1) := dl_o42 kcX4_shareBytes (by decide +kernel)
theorem dX4_shareBytes_1 : decode cX4_shareBytes 1 = .ok (.iload_n 1, 1) := dl_o27 kcX4_shareBytes (by decide +kernel)
theorem dX4_shareBytes_2 : decode cX4_shareBytes 2 = .ok (.iconst 2, 1) := dl_o5 kcX4_shareBytes (by decide +kernel)
theorem dX4_shareBytes_3 : decode cX4_shareBytes 3 = .ok (.invokevirtual 83, 3) := dl_o182 kcX4_shareBytes (by decide +kernel)
theorem dX4_shareBytes_6 : decode cX4_shareBytes 6 = .ok (.aload_n 0, 1) := dl_o42 kcX4_shareBytes (by decide +kernel)
theorem dX4_shareBytes_7 : decode cX4_shareBytes 7 = .ok (.iload_n 2, 1) := dl_o28 kcX4_shareBytes (by decide +kernel)
theorem dX4_shareBytes_8 : decode cX4_shareBytes 8 = .ok (.iconst 2, 1) := dl_o5 kcX4_shareBytes (by decide +kernel)
theorem dX4_shareBytes_9 : decode cX4_shareBytes 9 = .ok (.invokevirtual 83, 3) := dl_o182 kcX4_shareBytes (by decide +kernel)
theorem dX4_shareBytes_12 : decode cX4_shareBytes 12 = .ok (.invokestatic 93, 3) := dl_o184 kcX4_shareBytes (by decide +kernel)
theorem dX4_shareBytes_15 : decode cX4_shareBytes 15 = .ok (.lstore_n 3, 1) := dl_o66 kcX4_shareBytes (by decide +kernel)
theorem dX4_shareBytes_16 : decode cX4_shareBytes 16 = .ok (.aload_n 0, 1) := dl_o42 kcX4_shareBytes (by decide +kernel)
theorem dX4_shareBytes_17 : decode cX4_shareBytes 17 = .ok (.iload_n 1, 1) := dl_o27 kcX4_shareBytes (by decide +kernel)
theorem dX4_shareBytes_18 : decode cX4_shareBytes 18 = .ok (.iconst 2, 1) := dl_o5 kcX4_shareBytes (by decide +kernel)
theorem dX4_shareBytes_19 : decode cX4_shareBytes 19 = .ok (.invokevirtual 83, 3) := dl_o182 kcX4_shareBytes (by decide +kernel)
theorem dX4_shareBytes_22 : decode cX4_shareBytes 22 = .ok (.aload_n 0, 1) := dl_o42 kcX4_shareBytes (by decide +kernel)
theorem dX4_shareBytes_23 : decode cX4_shareBytes 23 = .ok (.iload_n 1, 1) := dl_o27 kcX4_shareBytes (by decide +kernel)
theorem dX4_shareBytes_24 : decode cX4_shareBytes 24 = .ok (.iconst 3, 1) := dl_o6 kcX4_shareBytes (by decide +kernel)
theorem dX4_shareBytes_25 : decode cX4_shareBytes 25 = .ok (.invokevirtual 83, 3) := dl_o182 kcX4_shareBytes (by decide +kernel)
theorem dX4_shareBytes_28 : decode cX4_shareBytes 28 = .ok (.ladd, 1) := dl_o97 kcX4_shareBytes (by decide +kernel)
theorem dX4_shareBytes_29 : decode cX4_shareBytes 29 = .ok (.aload_n 0, 1) := dl_o42 kcX4_shareBytes (by decide +kernel)
theorem dX4_shareBytes_30 : decode cX4_shareBytes 30 = .ok (.iload_n 2, 1) := dl_o28 kcX4_shareBytes (by decide +kernel)
theorem dX4_shareBytes_31 : decode cX4_shareBytes 31 = .ok (.iconst 2, 1) := dl_o5 kcX4_shareBytes (by decide +kernel)
theorem dX4_shareBytes_32 : decode cX4_shareBytes 32 = .ok (.invokevirtual 83, 3) := dl_o182 kcX4_shareBytes (by decide +kernel)
theorem dX4_shareBytes_35 : decode cX4_shareBytes 35 = .ok (.aload_n 0, 1) := dl_o42 kcX4_shareBytes (by decide +kernel)
theorem dX4_shareBytes_36 : decode cX4_shareBytes 36 = .ok (.iload_n 2, 1) := dl_o28 kcX4_shareBytes (by decide +kernel)
theorem dX4_shareBytes_37 : decode cX4_shareBytes 37 = .ok (.iconst 3, 1) := dl_o6 kcX4_shareBytes (by decide +kernel)
theorem dX4_shareBytes_38 : decode cX4_shareBytes 38 = .ok (.invokevirtual 83, 3) := dl_o182 kcX4_shareBytes (by decide +kernel)
theorem dX4_shareBytes_41 : decode cX4_shareBytes 41 = .ok (.ladd, 1) := dl_o97 kcX4_shareBytes (by decide +kernel)
theorem dX4_shareBytes_42 : decode cX4_shareBytes 42 = .ok (.invokestatic 99, 3) := dl_o184 kcX4_shareBytes (by decide +kernel)
theorem dX4_shareBytes_45 : decode cX4_shareBytes 45 = .ok (.lstore 5, 2) := dl_o55 kcX4_shareBytes (by decide +kernel)
theorem dX4_shareBytes_47 : decode cX4_shareBytes 47 = .ok (.lload_n 3, 1) := dl_o33 kcX4_shareBytes (by decide +kernel)
theorem dX4_shareBytes_48 : decode cX4_shareBytes 48 = .ok (.lload 5, 2) := dl_o22 kcX4_shareBytes (by decide +kernel)
theorem dX4_shareBytes_50 : decode cX4_shareBytes 50 = .ok (.lcmp, 1) := dl_o148 kcX4_shareBytes (by decide +kernel)
theorem dX4_shareBytes_51 : decode cX4_shareBytes 51 = .ok (.ifCond .ge 7, 3) := dl_o156 kcX4_shareBytes 7 (by decide +kernel) (by decide +kernel)
theorem dX4_shareBytes_54 : decode cX4_shareBytes 54 = .ok (.iconst 1, 1) := dl_o4 kcX4_shareBytes (by decide +kernel)
theorem dX4_shareBytes_55 : decode cX4_shareBytes 55 = .ok (.goto 4, 3) := dl_o167 kcX4_shareBytes 4 (by decide +kernel) (by decide +kernel)
theorem dX4_shareBytes_58 : decode cX4_shareBytes 58 = .ok (.iconst 0, 1) := dl_o3 kcX4_shareBytes (by decide +kernel)
theorem dX4_shareBytes_59 : decode cX4_shareBytes 59 = .ok (.ireturn, 1) := dl_o172 kcX4_shareBytes (by decide +kernel)
def F_X4_shareBytes (l1 : Int32) (l2 : Int32) (V : sv_V) : Option (Int32 × sv_V) := (F_X4_entry l1 (2 : Int32) V).bind (fun (x3, V1) => (F_X4_entry l2 (2 : Int32) V1).bind (fun (x6, V4) => (F_J9_max_f86c9 x3 x6 V4).bind (fun (x9, V7) => (F_X4_entry l1 (2 : Int32) V7).bind (fun (x12, V10) => (F_X4_entry l1 (3 : Int32) V10).bind (fun (x15, V13) => (F_X4_entry l2 (2 : Int32) V13).bind (fun (x18, V16) => (F_X4_entry l2 (3 : Int32) V16).bind (fun (x21, V19) => (F_J9_min_f86c9 (x12 + x15) (x18 + x21) V19).bind (fun (x24, V22) => if 0 ≤ (lg_cmp x9 x24) then (some ((0 : Int32), V22)) else (some ((1 : Int32), V22))))))))))
set_option maxRecDepth 20000 in
theorem t_X4_shareBytes {g : sx_G} (hG : sx_Go g) {P : Option Value → sv_V → Prop} {r : Int32} {Vr : sv_V} (hP : P (some (.int r)) Vr) {l1 : Int32} {l2 : Int32} {V : sv_V} (h : F_X4_shareBytes l1 l2 V = some (r, Vr)) : sv_N g qX4_shareBytes 3 0 [(0, .ref 29), (1, .int l1), (2, .int l2)] [] V P := by
  unfold F_X4_shareBytes at h
  refine sx_aload_n (pc := 0) dX4_shareBytes_0 sx_m0 ?_
  refine sx_iload_n (pc := 1) dX4_shareBytes_1 sx_m1 ?_
  refine sx_iconst (pc := 2) (v := 2) dX4_shareBytes_2 (by decide) ?_
  obtain ⟨⟨x3, V1⟩, g2, h⟩ := sx_bnd h
  refine sv_cV (pc := 3) (y := qX4_entry) (o := (some (.long x3))) (as := [.int l1, .int (2 : Int32)]) (V1 := V1) hG dX4_shareBytes_3 l_X4_83 y0X4_entry yvX4_entry rfl (Nat.le_of_ble_eq_true rfl) lay_29 kr_4 (by decide) (Nat.le_of_ble_eq_true rfl) rfl rfl rfl (t_X4_entry hG ⟨rfl, rfl⟩ g2) ?_
  refine sx_aload_n (pc := 6) dX4_shareBytes_6 sx_m0 ?_
  refine sx_iload_n (pc := 7) dX4_shareBytes_7 sx_m2 ?_
  refine sx_iconst (pc := 8) (v := 2) dX4_shareBytes_8 (by decide) ?_
  obtain ⟨⟨x6, V4⟩, g5, h⟩ := sx_bnd h
  refine sv_cV (pc := 9) (y := qX4_entry) (o := (some (.long x6))) (as := [.int l2, .int (2 : Int32)]) (V1 := V4) hG dX4_shareBytes_9 l_X4_83 y0X4_entry yvX4_entry rfl (Nat.le_of_ble_eq_true rfl) lay_29 kr_4 (by decide) (Nat.le_of_ble_eq_true rfl) rfl rfl rfl (t_X4_entry hG ⟨rfl, rfl⟩ g5) ?_
  obtain ⟨⟨x9, V7⟩, g8, h⟩ := sx_bnd h
  refine sv_cS (pc := 12) (y := qJ9_max_f86c9) (o := (some (.long x9))) (as := [.long x3, .long x6]) (V1 := V7) dX4_shareBytes_12 l_X4_93 y0J9_max_f86c9 ysJ9_max_f86c9 rfl (Nat.le_of_ble_eq_true rfl) (by decide) (Nat.le_of_ble_eq_true rfl) rfl rfl rfl (t_J9_max_f86c9 hG ⟨rfl, rfl⟩ g8) ?_
  refine sx_lstore_n (pc := 15) (lo' := [(3, .long x9), (0, .ref 29), (1, .int l1), (2, .int l2)]) dX4_shareBytes_15 (by decide) rfl ?_
  refine sx_aload_n (pc := 16) dX4_shareBytes_16 sx_m1 ?_
  refine sx_iload_n (pc := 17) dX4_shareBytes_17 sx_m2 ?_
  refine sx_iconst (pc := 18) (v := 2) dX4_shareBytes_18 (by decide) ?_
  obtain ⟨⟨x12, V10⟩, g11, h⟩ := sx_bnd h
  refine sv_cV (pc := 19) (y := qX4_entry) (o := (some (.long x12))) (as := [.int l1, .int (2 : Int32)]) (V1 := V10) hG dX4_shareBytes_19 l_X4_83 y0X4_entry yvX4_entry rfl (Nat.le_of_ble_eq_true rfl) lay_29 kr_4 (by decide) (Nat.le_of_ble_eq_true rfl) rfl rfl rfl (t_X4_entry hG ⟨rfl, rfl⟩ g11) ?_
  refine sx_aload_n (pc := 22) dX4_shareBytes_22 sx_m1 ?_
  refine sx_iload_n (pc := 23) dX4_shareBytes_23 sx_m2 ?_
  refine sx_iconst (pc := 24) (v := 3) dX4_shareBytes_24 (by decide) ?_
  obtain ⟨⟨x15, V13⟩, g14, h⟩ := sx_bnd h
  refine sv_cV (pc := 25) (y := qX4_entry) (o := (some (.long x15))) (as := [.int l1, .int (3 : Int32)]) (V1 := V13) hG dX4_shareBytes_25 l_X4_83 y0X4_entry yvX4_entry rfl (Nat.le_of_ble_eq_true rfl) lay_29 kr_4 (by decide) (Nat.le_of_ble_eq_true rfl) rfl rfl rfl (t_X4_entry hG ⟨rfl, rfl⟩ g14) ?_
  refine sx_ladd (pc := 28) dX4_shareBytes_28 ?_
  refine sx_aload_n (pc := 29) dX4_shareBytes_29 sx_m1 ?_
  refine sx_iload_n (pc := 30) dX4_shareBytes_30 sx_m3 ?_
  refine sx_iconst (pc := 31) (v := 2) dX4_shareBytes_31 (by decide) ?_
  obtain ⟨⟨x18, V16⟩, g17, h⟩ := sx_bnd h
  refine sv_cV (pc := 32) (y := qX4_entry) (o := (some (.long x18))) (as := [.int l2, .int (2 : Int32)]) (V1 := V16) hG dX4_shareBytes_32 l_X4_83 y0X4_entry yvX4_entry rfl (Nat.le_of_ble_eq_true rfl) lay_29 kr_4 (by decide) (Nat.le_of_ble_eq_true rfl) rfl rfl rfl (t_X4_entry hG ⟨rfl, rfl⟩ g17) ?_
  refine sx_aload_n (pc := 35) dX4_shareBytes_35 sx_m1 ?_
  refine sx_iload_n (pc := 36) dX4_shareBytes_36 sx_m3 ?_
  refine sx_iconst (pc := 37) (v := 3) dX4_shareBytes_37 (by decide) ?_
  obtain ⟨⟨x21, V19⟩, g20, h⟩ := sx_bnd h
  refine sv_cV (pc := 38) (y := qX4_entry) (o := (some (.long x21))) (as := [.int l2, .int (3 : Int32)]) (V1 := V19) hG dX4_shareBytes_38 l_X4_83 y0X4_entry yvX4_entry rfl (Nat.le_of_ble_eq_true rfl) lay_29 kr_4 (by decide) (Nat.le_of_ble_eq_true rfl) rfl rfl rfl (t_X4_entry hG ⟨rfl, rfl⟩ g20) ?_
  refine sx_ladd (pc := 41) dX4_shareBytes_41 ?_
  obtain ⟨⟨x24, V22⟩, g23, h⟩ := sx_bnd h
  refine sv_cS (pc := 42) (y := qJ9_min_f86c9) (o := (some (.long x24))) (as := [.long (x12 + x15), .long (x18 + x21)]) (V1 := V22) dX4_shareBytes_42 l_X4_99 y0J9_min_f86c9 ysJ9_min_f86c9 rfl (Nat.le_of_ble_eq_true rfl) (by decide) (Nat.le_of_ble_eq_true rfl) rfl rfl rfl (t_J9_min_f86c9 hG ⟨rfl, rfl⟩ g23) ?_
  refine sx_lstore (pc := 45) (lo' := [(5, .long x24), (3, .long x9), (0, .ref 29), (1, .int l1), (2, .int l2)]) dX4_shareBytes_45 (by decide) rfl ?_
  refine sx_lload_n (pc := 47) dX4_shareBytes_47 sx_m1 ?_
  refine sx_lload (pc := 48) dX4_shareBytes_48 sx_m0 ?_
  refine sx_lcmp (pc := 50) dX4_shareBytes_50 ?_
  refine sx_if_ge (pc := 51) (tgt := 58) dX4_shareBytes_51 (by decide) (fun c25 => ?_) (fun c25 => ?_)
  · have h := sx_pos c25 h
    refine sx_iconst (pc := 58) (v := 0) dX4_shareBytes_58 (by decide) ?_
    exact sv_zret (pc := 59) dX4_shareBytes_59 rfl rfl h hP
  · have h := sx_neg c25 h
    refine sx_iconst (pc := 54) (v := 1) dX4_shareBytes_54 (by decide) ?_
    refine sx_goto (pc := 55) (tgt := 59) dX4_shareBytes_55 (by decide) ?_
    exact sv_zret (pc := 59) dX4_shareBytes_59 rfl rfl h hP
def ncX4_sumsHold : Nat := 42545414412595201716172572120168184124525965495503728267802531140295297259841409175821471473247538780324530405019616701498705101299536815184047255021440501989218058248289729539
theorem kcX4_sumsHold : CK cX4_sumsHold ncX4_sumsHold 73 := ⟨by decide +kernel, by decide +kernel⟩
theorem dX4_sumsHold_0 : decode cX4_sumsHold 0 = .ok (.iconst 0, 1) := dl_o3 kcX4_sumsHold (by decide +kernel)
theorem dX4_sumsHold_1 : decode cX4_sumsHold 1 = .ok (.istore_n 1, 1) := dl_o60 kcX4_sumsHold (by decide +kernel)
theorem dX4_sumsHold_2 : decode cX4_sumsHold 2 = .ok (.iload_n 1, 1) := dl_o27 kcX4_sumsHold (by decide +kernel)
theorem dX4_sumsHold_3 : decode cX4_sumsHold 3 = .ok (.aload_n 0, 1) := dl_o42 kcX4_sumsHold (by decide +kernel)
theorem dX4_sumsHold_4 : decode cX4_sumsHold 4 = .ok (.getfield 9, 3) := dl_o180 kcX4_sumsHold (by decide +kernel)
theorem dX4_sumsHold_7 : decode cX4_sumsHold 7 = .ok (.getfield 80, 3) := dl_o180 kcX4_sumsHold (by decide +kernel)
theorem dX4_sumsHold_10 : decode cX4_sumsHold 10 = .ok (.if_icmp .ge 61, 3) := dl_o162 kcX4_sumsHold 61 (by decide +kernel) (by decide +kernel)
theorem dX4_sumsHold_13 : decode cX4_sumsHold 13 = .ok (.aload_n 0, 1) := dl_o42 kcX4_sumsHold (by decide +kernel)
theorem dX4_sumsHold_14 : decode cX4_sumsHold 14 = .ok (.iload_n 1, 1) := dl_o27 kcX4_sumsHold (by decide +kernel)
theorem dX4_sumsHold_15 : decode cX4_sumsHold 15 = .ok (.iconst 0, 1) := dl_o3 kcX4_sumsHold (by decide +kernel)
theorem dX4_sumsHold_16 : decode cX4_sumsHold 16 = .ok (.invokevirtual 83, 3) := dl_o182 kcX4_sumsHold (by decide +kernel)
theorem dX4_sumsHold_19 : decode cX4_sumsHold 19 = .ok (.l2i, 1) := dl_o136 kcX4_sumsHold (by decide +kernel)
theorem dX4_sumsHold_20 : decode cX4_sumsHold 20 = .ok (.getstatic 102, 3) := dl_o178 kcX4_sumsHold (by decide +kernel)
theorem dX4_sumsHold_23 : decode cX4_sumsHold 23 = .ok (.iconst 2, 1) := dl_o5 kcX4_sumsHold (by decide +kernel)
theorem dX4_sumsHold_24 : decode cX4_sumsHold 24 = .ok (.iaload, 1) := dl_o46 kcX4_sumsHold (by decide +kernel)
theorem dX4_sumsHold_25 : decode cX4_sumsHold 25 = .ok (.if_icmp .ne 7, 3) := dl_o160 kcX4_sumsHold 7 (by decide +kernel) (by decide +kernel)
theorem dX4_sumsHold_28 : decode cX4_sumsHold 28 = .ok (.iconst 1, 1) := dl_o4 kcX4_sumsHold (by decide +kernel)
theorem dX4_sumsHold_29 : decode cX4_sumsHold 29 = .ok (.goto 4, 3) := dl_o167 kcX4_sumsHold 4 (by decide +kernel) (by decide +kernel)
theorem dX4_sumsHold_32 : decode cX4_sumsHold 32 = .ok (.iconst 0, 1) := dl_o3 kcX4_sumsHold (by decide +kernel)
theorem dX4_sumsHold_33 : decode cX4_sumsHold 33 = .ok (.istore_n 2, 1) := dl_o61 kcX4_sumsHold (by decide +kernel)
theorem dX4_sumsHold_34 : decode cX4_sumsHold 34 = .ok (.aload_n 0, 1) := dl_o42 kcX4_sumsHold (by decide +kernel)
theorem dX4_sumsHold_35 : decode cX4_sumsHold 35 = .ok (.aload_n 0, 1) := dl_o42 kcX4_sumsHold (by decide +kernel)
theorem dX4_sumsHold_36 : decode cX4_sumsHold 36 = .ok (.iload_n 1, 1) := dl_o27 kcX4_sumsHold (by decide +kernel)
theorem dX4_sumsHold_37 : decode cX4_sumsHold 37 = .ok (.iconst 2, 1) := dl_o5 kcX4_sumsHold (by decide +kernel)
theorem dX4_sumsHold_38 : decode cX4_sumsHold 38 = .ok (.invokevirtual 83, 3) := dl_o182 kcX4_sumsHold (by decide +kernel)
theorem dX4_sumsHold_41 : decode cX4_sumsHold 41 = .ok (.l2i, 1) := dl_o136 kcX4_sumsHold (by decide +kernel)
theorem dX4_sumsHold_42 : decode cX4_sumsHold 42 = .ok (.aload_n 0, 1) := dl_o42 kcX4_sumsHold (by decide +kernel)
theorem dX4_sumsHold_43 : decode cX4_sumsHold 43 = .ok (.iload_n 1, 1) := dl_o27 kcX4_sumsHold (by decide +kernel)
theorem dX4_sumsHold_44 : decode cX4_sumsHold 44 = .ok (.iconst 3, 1) := dl_o6 kcX4_sumsHold (by decide +kernel)
theorem dX4_sumsHold_45 : decode cX4_sumsHold 45 = .ok (.invokevirtual 83, 3) := dl_o182 kcX4_sumsHold (by decide +kernel)
theorem dX4_sumsHold_48 : decode cX4_sumsHold 48 = .ok (.l2i, 1) := dl_o136 kcX4_sumsHold (by decide +kernel)
theorem dX4_sumsHold_49 : decode cX4_sumsHold 49 = .ok (.iload_n 2, 1) := dl_o28 kcX4_sumsHold (by decide +kernel)
theorem dX4_sumsHold_50 : decode cX4_sumsHold 50 = .ok (.invokevirtual 106, 3) := dl_o182 kcX4_sumsHold (by decide +kernel)
theorem dX4_sumsHold_53 : decode cX4_sumsHold 53 = .ok (.aload_n 0, 1) := dl_o42 kcX4_sumsHold (by decide +kernel)
theorem dX4_sumsHold_54 : decode cX4_sumsHold 54 = .ok (.iload_n 1, 1) := dl_o27 kcX4_sumsHold (by decide +kernel)
theorem dX4_sumsHold_55 : decode cX4_sumsHold 55 = .ok (.iconst 1, 1) := dl_o4 kcX4_sumsHold (by decide +kernel)
theorem dX4_sumsHold_56 : decode cX4_sumsHold 56 = .ok (.invokevirtual 83, 3) := dl_o182 kcX4_sumsHold (by decide +kernel)
theorem dX4_sumsHold_59 : decode cX4_sumsHold 59 = .ok (.lcmp, 1) := dl_o148 kcX4_sumsHold (by decide +kernel)
theorem dX4_sumsHold_60 : decode cX4_sumsHold 60 = .ok (.ifCond .eq 5, 3) := dl_o153 kcX4_sumsHold 5 (by decide +kernel) (by decide +kernel)
theorem dX4_sumsHold_63 : decode cX4_sumsHold 63 = .ok (.iconst 0, 1) := dl_o3 kcX4_sumsHold (by decide +kernel)
theorem dX4_sumsHold_64 : decode cX4_sumsHold 64 = .ok (.ireturn, 1) := dl_o172 kcX4_sumsHold (by decide +kernel)
theorem dX4_sumsHold_65 : decode cX4_sumsHold 65 = .ok (.iinc 1 1, 3) := by decide +kernel
theorem dX4_sumsHold_68 : decode cX4_sumsHold 68 = .ok (.goto (-66), 3) := dl_o167 kcX4_sumsHold 65470 (by decide +kernel) (by decide +kernel)
theorem dX4_sumsHold_71 : decode cX4_sumsHold 71 = .ok (.iconst 1, 1) := dl_o4 kcX4_sumsHold (by decide +kernel)
theorem dX4_sumsHold_72 : decode cX4_sumsHold 72 = .ok (.ireturn, 1) := dl_o172 kcX4_sumsHold (by decide +kernel)
def B_X4_sumsHold_33 (N : Nat) (k2 : Int32 → sv_V → Option (Int32 × sv_V)) (l1 : Int32) (s0 : Int32) (V : sv_V) : Option (Int32 × sv_V) := (F_X4_entry l1 (2 : Int32) V).bind (fun (x3, V1) => (F_X4_entry l1 (3 : Int32) V1).bind (fun (x6, V4) => (F_X4_sumOf N x3.toInt32 x6.toInt32 s0 V4).bind (fun (x9, V7) => (F_X4_entry l1 (1 : Int32) V7).bind (fun (x12, V10) => if (lg_cmp x9 x12) = 0 then (sx_let (l1 + 1) (fun x14 => k2 x14 V10)) else (some ((0 : Int32), V10))))))
set_option maxRecDepth 20000 in
theorem tB_X4_sumsHold_33 {g : sx_G} (hG : sx_Go g) {P : Option Value → sv_V → Prop} {r : Int32} {Vr : sv_V} (hP : P (some (.int r)) Vr) {N : Nat} {k2 : Int32 → sv_V → Option (Int32 × sv_V)} (hk2 : ∀ (l1 : Int32) (V : sv_V), k2 l1 V = some (r, Vr) → sv_N g qX4_sumsHold 3 2 [(0, .ref 29), (1, .int l1)] [] V P) {l1 : Int32} {s0 : Int32} {V : sv_V} (h : B_X4_sumsHold_33 N k2 l1 s0 V = some (r, Vr)) : sv_N g qX4_sumsHold 3 33 [(0, .ref 29), (1, .int l1)] [.int s0] V P := by
  unfold B_X4_sumsHold_33 at h
  refine sx_istore_n (pc := 33) (lo' := [(2, .int s0), (0, .ref 29), (1, .int l1)]) dX4_sumsHold_33 (by decide) rfl ?_
  refine sx_aload_n (pc := 34) dX4_sumsHold_34 sx_m1 ?_
  refine sx_aload_n (pc := 35) dX4_sumsHold_35 sx_m1 ?_
  refine sx_iload_n (pc := 36) dX4_sumsHold_36 sx_m2 ?_
  refine sx_iconst (pc := 37) (v := 2) dX4_sumsHold_37 (by decide) ?_
  obtain ⟨⟨x3, V1⟩, g2, h⟩ := sx_bnd h
  refine sv_cV (pc := 38) (y := qX4_entry) (o := (some (.long x3))) (as := [.int l1, .int (2 : Int32)]) (V1 := V1) hG dX4_sumsHold_38 l_X4_83 y0X4_entry yvX4_entry rfl (Nat.le_of_ble_eq_true rfl) lay_29 kr_4 (by decide) (Nat.le_of_ble_eq_true rfl) rfl rfl rfl (t_X4_entry hG ⟨rfl, rfl⟩ g2) ?_
  refine sx_l2i (pc := 41) dX4_sumsHold_41 ?_
  refine sx_aload_n (pc := 42) dX4_sumsHold_42 sx_m1 ?_
  refine sx_iload_n (pc := 43) dX4_sumsHold_43 sx_m2 ?_
  refine sx_iconst (pc := 44) (v := 3) dX4_sumsHold_44 (by decide) ?_
  obtain ⟨⟨x6, V4⟩, g5, h⟩ := sx_bnd h
  refine sv_cV (pc := 45) (y := qX4_entry) (o := (some (.long x6))) (as := [.int l1, .int (3 : Int32)]) (V1 := V4) hG dX4_sumsHold_45 l_X4_83 y0X4_entry yvX4_entry rfl (Nat.le_of_ble_eq_true rfl) lay_29 kr_4 (by decide) (Nat.le_of_ble_eq_true rfl) rfl rfl rfl (t_X4_entry hG ⟨rfl, rfl⟩ g5) ?_
  refine sx_l2i (pc := 48) dX4_sumsHold_48 ?_
  refine sx_iload_n (pc := 49) dX4_sumsHold_49 sx_m0 ?_
  obtain ⟨⟨x9, V7⟩, g8, h⟩ := sx_bnd h
  refine sv_cV (pc := 50) (y := qX4_sumOf) (o := (some (.long x9))) (as := [.int x3.toInt32, .int x6.toInt32, .int s0]) (V1 := V7) hG dX4_sumsHold_50 l_X4_106 y0X4_sumOf yvX4_sumOf rfl (Nat.le_of_ble_eq_true rfl) lay_29 kr_4 (by decide) (Nat.le_of_ble_eq_true rfl) rfl rfl rfl (t_X4_sumOf hG ⟨rfl, rfl⟩ g8) ?_
  refine sx_aload_n (pc := 53) dX4_sumsHold_53 sx_m1 ?_
  refine sx_iload_n (pc := 54) dX4_sumsHold_54 sx_m2 ?_
  refine sx_iconst (pc := 55) (v := 1) dX4_sumsHold_55 (by decide) ?_
  obtain ⟨⟨x12, V10⟩, g11, h⟩ := sx_bnd h
  refine sv_cV (pc := 56) (y := qX4_entry) (o := (some (.long x12))) (as := [.int l1, .int (1 : Int32)]) (V1 := V10) hG dX4_sumsHold_56 l_X4_83 y0X4_entry yvX4_entry rfl (Nat.le_of_ble_eq_true rfl) lay_29 kr_4 (by decide) (Nat.le_of_ble_eq_true rfl) rfl rfl rfl (t_X4_entry hG ⟨rfl, rfl⟩ g11) ?_
  refine sx_lcmp (pc := 59) dX4_sumsHold_59 ?_
  refine sx_if_eq (pc := 60) (tgt := 65) dX4_sumsHold_60 (by decide) (fun c13 => ?_) (fun c13 => ?_)
  · have h := sx_pos c13 h
    obtain ⟨x14, hx14⟩ : ∃ z : Int32, z = l1 + 1 := ⟨_, rfl⟩
    have h := sx_letE hx14 h
    refine sx_iinc (pc := 65) (v := x14) (lo' := [(1, .int x14), (2, .int s0), (0, .ref 29)]) dX4_sumsHold_65 sx_m2 (by rw [hx14]; rfl) (by decide) rfl ?_
    refine sx_goto (pc := 68) (tgt := 2) dX4_sumsHold_68 (by decide) ?_
    refine sx_wk (sx_s1 sx_m2 (sx_s1 sx_m0 sx_s0)) ?_
    exact hk2 _ _ h
  · have h := sx_neg c13 h
    refine sx_iconst (pc := 63) (v := 0) dX4_sumsHold_63 (by decide) ?_
    exact sv_zret (pc := 64) dX4_sumsHold_64 rfl rfl h hP
def B_X4_sumsHold_2 (N : Nat) (k2 : Int32 → sv_V → Option (Int32 × sv_V)) (l1 : Int32) (V : sv_V) : Option (Int32 × sv_V) := if (V.1 2 5) ≤ l1 then (some ((1 : Int32), V)) else ((F_X4_entry l1 (0 : Int32) V).bind (fun (x18, V16) => if x18.toInt32 = (V16.1 1001 (2 : Int32).toNatClampNeg) then (B_X4_sumsHold_33 N k2 l1 (1 : Int32) V16) else (B_X4_sumsHold_33 N k2 l1 (0 : Int32) V16)))
set_option maxRecDepth 20000 in
theorem tB_X4_sumsHold_2 {g : sx_G} (hG : sx_Go g) {P : Option Value → sv_V → Prop} {r : Int32} {Vr : sv_V} (hP : P (some (.int r)) Vr) {N : Nat} {k2 : Int32 → sv_V → Option (Int32 × sv_V)} (hk2 : ∀ (l1 : Int32) (V : sv_V), k2 l1 V = some (r, Vr) → sv_N g qX4_sumsHold 3 2 [(0, .ref 29), (1, .int l1)] [] V P) {l1 : Int32} {V : sv_V} (h : B_X4_sumsHold_2 N k2 l1 V = some (r, Vr)) : sv_N g qX4_sumsHold 3 2 [(0, .ref 29), (1, .int l1)] [] V P := by
  unfold B_X4_sumsHold_2 at h
  refine sx_iload_n (pc := 2) dX4_sumsHold_2 sx_m1 ?_
  refine sx_aload_n (pc := 3) dX4_sumsHold_3 sx_m0 ?_
  refine sv_getO (pc := 4) hG dX4_sumsHold_4 f_4_9 lay_29 rfl cr_29_0 ?_
  refine sv_getI (pc := 7) hG dX4_sumsHold_7 f_4_80 lay_2 rfl ?_
  refine sx_icmp_ge (pc := 10) (tgt := 71) dX4_sumsHold_10 (by decide) (fun c15 => ?_) (fun c15 => ?_)
  · have h := sx_pos c15 h
    refine sx_iconst (pc := 71) (v := 1) dX4_sumsHold_71 (by decide) ?_
    exact sv_zret (pc := 72) dX4_sumsHold_72 rfl rfl h hP
  · have h := sx_neg c15 h
    refine sx_aload_n (pc := 13) dX4_sumsHold_13 sx_m0 ?_
    refine sx_iload_n (pc := 14) dX4_sumsHold_14 sx_m1 ?_
    refine sx_iconst (pc := 15) (v := 0) dX4_sumsHold_15 (by decide) ?_
    obtain ⟨⟨x18, V16⟩, g17, h⟩ := sx_bnd h
    refine sv_cV (pc := 16) (y := qX4_entry) (o := (some (.long x18))) (as := [.int l1, .int (0 : Int32)]) (V1 := V16) hG dX4_sumsHold_16 l_X4_83 y0X4_entry yvX4_entry rfl (Nat.le_of_ble_eq_true rfl) lay_29 kr_4 (by decide) (Nat.le_of_ble_eq_true rfl) rfl rfl rfl (t_X4_entry hG ⟨rfl, rfl⟩ g17) ?_
    refine sx_l2i (pc := 19) dX4_sumsHold_19 ?_
    refine sv_getS (pc := 20) (j := 0) dX4_sumsHold_20 rfl n_X4_102 ?_
    refine sx_iconst (pc := 23) (v := 2) dX4_sumsHold_23 (by decide) ?_
    refine sv_xld (pc := 24) hG dX4_sumsHold_24 lay_1001 (by decide) ?_
    refine sx_icmp_ne (pc := 25) (tgt := 32) dX4_sumsHold_25 (by decide) (fun c19 => ?_) (fun c19 => ?_)
    · have h := sx_neg c19 h
      refine sx_iconst (pc := 32) (v := 0) dX4_sumsHold_32 (by decide) ?_
      refine sx_wk (sx_s1 sx_m0 (sx_s1 sx_m1 sx_s0)) ?_
      exact tB_X4_sumsHold_33 hG hP hk2 h
    · have h := sx_pos c19 h
      refine sx_iconst (pc := 28) (v := 1) dX4_sumsHold_28 (by decide) ?_
      refine sx_goto (pc := 29) (tgt := 33) dX4_sumsHold_29 (by decide) ?_
      refine sx_wk (sx_s1 sx_m0 (sx_s1 sx_m1 sx_s0)) ?_
      exact tB_X4_sumsHold_33 hG hP hk2 h
theorem tL_X4_sumsHold_2 {g : sx_G} (hG : sx_Go g) {P : Option Value → sv_V → Prop} {r : Int32} {Vr : sv_V} (hP : P (some (.int r)) Vr) {N : Nat}   : ∀ (n : Nat) (l1 : Int32) (V : sv_V), sx_lp2 (B_X4_sumsHold_2 N ) n l1 V = some (r, Vr) → sv_N g qX4_sumsHold 3 2 [(0, .ref 29), (1, .int l1)] [] V P :=
  sx_lp2_ind (fun k0 ih _ V h => tB_X4_sumsHold_2 hG hP ih h)
def F_X4_sumsHold (N : Nat)  (V : sv_V) : Option (Int32 × sv_V) := sx_lp2 (B_X4_sumsHold_2 N ) N (0 : Int32) V
set_option maxRecDepth 20000 in
theorem t_X4_sumsHold {g : sx_G} (hG : sx_Go g) {P : Option Value → sv_V → Prop} {r : Int32} {Vr : sv_V} (hP : P (some (.int r)) Vr) {N : Nat}  {V : sv_V} (h : F_X4_sumsHold N  V = some (r, Vr)) : sv_N g qX4_sumsHold 3 0 [(0, .ref 29)] [] V P := by
  unfold F_X4_sumsHold at h
  refine sx_iconst (pc := 0) (v := 0) dX4_sumsHold_0 (by decide) ?_
  refine sx_istore_n (pc := 1) (lo' := [(1, .int (0 : Int32)), (0, .ref 29)]) dX4_sumsHold_1 (by decide) rfl ?_
  refine sx_wk (sx_s1 sx_m1 (sx_s1 sx_m0 sx_s0)) ?_
  exact tL_X4_sumsHold_2 hG hP  N _ _ h
end
section
/-! methods: X4_cmapHolds, X5_beginSize, X5_scaled, X5_isThere, X5_longByP, X5_longByD, X5_longBetween, X5_originalBetween, X5_move, X5_settingCodes, X5_jumpIf, X5_noteFunction, X5_noteOwnCode, X5_callOnce, X5_callTimes, X5_callOwnCode, X5_pushCounted, X5_read, X5_write, X5_untouchPoint, X5_alignPoints, X5_tellLong, X5_setLong -/
def ncX4_cmapHolds : Nat := 49690444567156916605572529858723523861194189526922078667482942479994215530231897205376400236478280504432712583056047045069699409730190030117115570031694450922950152261011615207589385886793635691476178845284294112188743068741196641836427004983562158222504641106486259494539155059466902428601121892455373410416994011007369387377198239103132492917873352839591432837627163690
theorem kcX4_cmapHolds : CK cX4_cmapHolds ncX4_cmapHolds 154 := ⟨by decide +kernel, by decide +kernel⟩
theorem dX4_cmapHolds_0 : decode cX4_cmapHolds 0 = .ok (.aload_n 0, 1) := dl_o42 kcX4_cmapHolds (by decide +kernel)
theorem dX4_cmapHolds_1 : decode cX4_cmapHolds 1 = .ok (.getfield 9, 3) := dl_o180 kcX4_cmapHolds (by decide +kernel)
theorem dX4_cmapHolds_4 : decode cX4_cmapHolds 4 = .ok (.getfield 115, 3) := dl_o180 kcX4_cmapHolds (by decide +kernel)
theorem dX4_cmapHolds_7 : decode cX4_cmapHolds 7 = .ok (.iconst 0, 1) := dl_o3 kcX4_cmapHolds (by decide +kernel)
theorem dX4_cmapHolds_8 : decode cX4_cmapHolds 8 = .ok (.iaload, 1) := dl_o46 kcX4_cmapHolds (by decide +kernel)
theorem dX4_cmapHolds_9 : decode cX4_cmapHolds 9 = .ok (.istore_n 1, 1) := dl_o60 kcX4_cmapHolds (by decide +kernel)
theorem dX4_cmapHolds_10 : decode cX4_cmapHolds 10 = .ok (.aload_n 0, 1) := dl_o42 kcX4_cmapHolds (by decide +kernel)
theorem dX4_cmapHolds_11 : decode cX4_cmapHolds 11 = .ok (.getfield 9, 3) := dl_o180 kcX4_cmapHolds (by decide +kernel)
theorem dX4_cmapHolds_14 : decode cX4_cmapHolds 14 = .ok (.getfield 118, 3) := dl_o180 kcX4_cmapHolds (by decide +kernel)
theorem dX4_cmapHolds_17 : decode cX4_cmapHolds 17 = .ok (.iconst 0, 1) := dl_o3 kcX4_cmapHolds (by decide +kernel)
theorem dX4_cmapHolds_18 : decode cX4_cmapHolds 18 = .ok (.iaload, 1) := dl_o46 kcX4_cmapHolds (by decide +kernel)
theorem dX4_cmapHolds_19 : decode cX4_cmapHolds 19 = .ok (.istore_n 2, 1) := dl_o61 kcX4_cmapHolds (by decide +kernel)
theorem dX4_cmapHolds_20 : decode cX4_cmapHolds 20 = .ok (.aload_n 0, 1) := dl_o42 kcX4_cmapHolds (by decide +kernel)
theorem dX4_cmapHolds_21 : decode cX4_cmapHolds 21 = .ok (.getfield 9, 3) := dl_o180 kcX4_cmapHolds (by decide +kernel)
theorem dX4_cmapHolds_24 : decode cX4_cmapHolds 24 = .ok (.iload_n 1, 1) := dl_o27 kcX4_cmapHolds (by decide +kernel)
theorem dX4_cmapHolds_25 : decode cX4_cmapHolds 25 = .ok (.iconst 2, 1) := dl_o5 kcX4_cmapHolds (by decide +kernel)
theorem dX4_cmapHolds_26 : decode cX4_cmapHolds 26 = .ok (.iadd, 1) := dl_o96 kcX4_cmapHolds (by decide +kernel)
theorem dX4_cmapHolds_27 : decode cX4_cmapHolds 27 = .ok (.invokevirtual 64, 3) := dl_o182 kcX4_cmapHolds (by decide +kernel)
theorem dX4_cmapHolds_30 : decode cX4_cmapHolds 30 = .ok (.istore_n 3, 1) := dl_o62 kcX4_cmapHolds (by decide +kernel)
theorem dX4_cmapHolds_31 : decode cX4_cmapHolds 31 = .ok (.iload_n 2, 1) := dl_o28 kcX4_cmapHolds (by decide +kernel)
theorem dX4_cmapHolds_32 : decode cX4_cmapHolds 32 = .ok (.iconst 4, 1) := dl_o7 kcX4_cmapHolds (by decide +kernel)
theorem dX4_cmapHolds_33 : decode cX4_cmapHolds 33 = .ok (.if_icmp .lt 35, 3) := dl_o161 kcX4_cmapHolds 35 (by decide +kernel) (by decide +kernel)
theorem dX4_cmapHolds_36 : decode cX4_cmapHolds 36 = .ok (.aload_n 0, 1) := dl_o42 kcX4_cmapHolds (by decide +kernel)
theorem dX4_cmapHolds_37 : decode cX4_cmapHolds 37 = .ok (.getfield 9, 3) := dl_o180 kcX4_cmapHolds (by decide +kernel)
theorem dX4_cmapHolds_40 : decode cX4_cmapHolds 40 = .ok (.iload_n 1, 1) := dl_o27 kcX4_cmapHolds (by decide +kernel)
theorem dX4_cmapHolds_41 : decode cX4_cmapHolds 41 = .ok (.invokevirtual 64, 3) := dl_o182 kcX4_cmapHolds (by decide +kernel)
theorem dX4_cmapHolds_44 : decode cX4_cmapHolds 44 = .ok (.ifCond .ne 24, 3) := dl_o154 kcX4_cmapHolds 24 (by decide +kernel) (by decide +kernel)
theorem dX4_cmapHolds_47 : decode cX4_cmapHolds 47 = .ok (.iload_n 3, 1) := dl_o29 kcX4_cmapHolds (by decide +kernel)
theorem dX4_cmapHolds_48 : decode cX4_cmapHolds 48 = .ok (.iconst 1, 1) := dl_o4 kcX4_cmapHolds (by decide +kernel)
theorem dX4_cmapHolds_49 : decode cX4_cmapHolds 49 = .ok (.if_icmp .lt 19, 3) := dl_o161 kcX4_cmapHolds 19 (by decide +kernel) (by decide +kernel)
theorem dX4_cmapHolds_52 : decode cX4_cmapHolds 52 = .ok (.iload_n 3, 1) := dl_o29 kcX4_cmapHolds (by decide +kernel)
theorem dX4_cmapHolds_53 : decode cX4_cmapHolds 53 = .ok (.bipush 8, 2) := dl_o16 kcX4_cmapHolds 8 (by decide +kernel) (by decide +kernel)
theorem dX4_cmapHolds_55 : decode cX4_cmapHolds 55 = .ok (.if_icmp .gt 13, 3) := dl_o163 kcX4_cmapHolds 13 (by decide +kernel) (by decide +kernel)
theorem dX4_cmapHolds_58 : decode cX4_cmapHolds 58 = .ok (.iconst 4, 1) := dl_o7 kcX4_cmapHolds (by decide +kernel)
theorem dX4_cmapHolds_59 : decode cX4_cmapHolds 59 = .ok (.bipush 8, 2) := dl_o16 kcX4_cmapHolds 8 (by decide +kernel) (by decide +kernel)
theorem dX4_cmapHolds_61 : decode cX4_cmapHolds 61 = .ok (.iload_n 3, 1) := dl_o29 kcX4_cmapHolds (by decide +kernel)
theorem dX4_cmapHolds_62 : decode cX4_cmapHolds 62 = .ok (.imul, 1) := dl_o104 kcX4_cmapHolds (by decide +kernel)
theorem dX4_cmapHolds_63 : decode cX4_cmapHolds 63 = .ok (.iadd, 1) := dl_o96 kcX4_cmapHolds (by decide +kernel)
theorem dX4_cmapHolds_64 : decode cX4_cmapHolds 64 = .ok (.iload_n 2, 1) := dl_o28 kcX4_cmapHolds (by decide +kernel)
theorem dX4_cmapHolds_65 : decode cX4_cmapHolds 65 = .ok (.if_icmp .le 5, 3) := dl_o164 kcX4_cmapHolds 5 (by decide +kernel) (by decide +kernel)
theorem dX4_cmapHolds_68 : decode cX4_cmapHolds 68 = .ok (.iconst 0, 1) := dl_o3 kcX4_cmapHolds (by decide +kernel)
theorem dX4_cmapHolds_69 : decode cX4_cmapHolds 69 = .ok (.ireturn, 1) := dl_o172 kcX4_cmapHolds (by decide +kernel)
theorem dX4_cmapHolds_70 : decode cX4_cmapHolds 70 = .ok (.aload_n 0, 1) := dl_o42 kcX4_cmapHolds (by decide +kernel)
theorem dX4_cmapHolds_71 : decode cX4_cmapHolds 71 = .ok (.iload_n 3, 1) := dl_o29 kcX4_cmapHolds (by decide +kernel)
theorem dX4_cmapHolds_72 : decode cX4_cmapHolds 72 = .ok (.iconst 3, 1) := dl_o6 kcX4_cmapHolds (by decide +kernel)
theorem dX4_cmapHolds_73 : decode cX4_cmapHolds 73 = .ok (.bipush 10, 2) := dl_o16 kcX4_cmapHolds 10 (by decide +kernel) (by decide +kernel)
theorem dX4_cmapHolds_75 : decode cX4_cmapHolds 75 = .ok (.invokevirtual 165, 3) := dl_o182 kcX4_cmapHolds (by decide +kernel)
theorem dX4_cmapHolds_78 : decode cX4_cmapHolds 78 = .ok (.lstore 4, 2) := dl_o55 kcX4_cmapHolds (by decide +kernel)
theorem dX4_cmapHolds_80 : decode cX4_cmapHolds 80 = .ok (.lload 4, 2) := dl_o22 kcX4_cmapHolds (by decide +kernel)
theorem dX4_cmapHolds_82 : decode cX4_cmapHolds 82 = .ok (.ldc2_w 169, 3) := dl_o20 kcX4_cmapHolds (by decide +kernel)
theorem dX4_cmapHolds_85 : decode cX4_cmapHolds 85 = .ok (.lcmp, 1) := dl_o148 kcX4_cmapHolds (by decide +kernel)
theorem dX4_cmapHolds_86 : decode cX4_cmapHolds 86 = .ok (.ifCond .eq 10, 3) := dl_o153 kcX4_cmapHolds 10 (by decide +kernel) (by decide +kernel)
theorem dX4_cmapHolds_89 : decode cX4_cmapHolds 89 = .ok (.aload_n 0, 1) := dl_o42 kcX4_cmapHolds (by decide +kernel)
theorem dX4_cmapHolds_90 : decode cX4_cmapHolds 90 = .ok (.lload 4, 2) := dl_o22 kcX4_cmapHolds (by decide +kernel)
theorem dX4_cmapHolds_92 : decode cX4_cmapHolds 92 = .ok (.invokevirtual 171, 3) := dl_o182 kcX4_cmapHolds (by decide +kernel)
theorem dX4_cmapHolds_95 : decode cX4_cmapHolds 95 = .ok (.ireturn, 1) := dl_o172 kcX4_cmapHolds (by decide +kernel)
theorem dX4_cmapHolds_96 : decode cX4_cmapHolds 96 = .ok (.aload_n 0, 1) := dl_o42 kcX4_cmapHolds (by decide +kernel)
theorem dX4_cmapHolds_97 : decode cX4_cmapHolds 97 = .ok (.iload_n 3, 1) := dl_o29 kcX4_cmapHolds (by decide +kernel)
theorem dX4_cmapHolds_98 : decode cX4_cmapHolds 98 = .ok (.iconst 3, 1) := dl_o6 kcX4_cmapHolds (by decide +kernel)
theorem dX4_cmapHolds_99 : decode cX4_cmapHolds 99 = .ok (.iconst 1, 1) := dl_o4 kcX4_cmapHolds (by decide +kernel)
theorem dX4_cmapHolds_100 : decode cX4_cmapHolds 100 = .ok (.invokevirtual 165, 3) := dl_o182 kcX4_cmapHolds (by decide +kernel)
theorem dX4_cmapHolds_103 : decode cX4_cmapHolds 103 = .ok (.lstore 4, 2) := dl_o55 kcX4_cmapHolds (by decide +kernel)
theorem dX4_cmapHolds_105 : decode cX4_cmapHolds 105 = .ok (.lload 4, 2) := dl_o22 kcX4_cmapHolds (by decide +kernel)
theorem dX4_cmapHolds_107 : decode cX4_cmapHolds 107 = .ok (.ldc2_w 169, 3) := dl_o20 kcX4_cmapHolds (by decide +kernel)
theorem dX4_cmapHolds_110 : decode cX4_cmapHolds 110 = .ok (.lcmp, 1) := dl_o148 kcX4_cmapHolds (by decide +kernel)
theorem dX4_cmapHolds_111 : decode cX4_cmapHolds 111 = .ok (.ifCond .eq 10, 3) := dl_o153 kcX4_cmapHolds 10 (by decide +kernel) (by decide +kernel)
theorem dX4_cmapHolds_114 : decode cX4_cmapHolds 114 = .ok (.aload_n 0, 1) := dl_o42 kcX4_cmapHolds (by decide +kernel)
theorem dX4_cmapHolds_115 : decode cX4_cmapHolds 115 = .ok (.lload 4, 2) := dl_o22 kcX4_cmapHolds (by decide +kernel)
theorem dX4_cmapHolds_117 : decode cX4_cmapHolds 117 = .ok (.invokevirtual 175, 3) := dl_o182 kcX4_cmapHolds (by decide +kernel)
theorem dX4_cmapHolds_120 : decode cX4_cmapHolds 120 = .ok (.ireturn, 1) := dl_o172 kcX4_cmapHolds (by decide +kernel)
theorem dX4_cmapHolds_121 : decode cX4_cmapHolds 121 = .ok (.aload_n 0, 1) := dl_o42 kcX4_cmapHolds (by decide +kernel)
theorem dX4_cmapHolds_122 : decode cX4_cmapHolds 122 = .ok (.iload_n 3, 1) := dl_o29 kcX4_cmapHolds (by decide +kernel)
theorem dX4_cmapHolds_123 : decode cX4_cmapHolds 123 = .ok (.iconst 1, 1) := dl_o4 kcX4_cmapHolds (by decide +kernel)
theorem dX4_cmapHolds_124 : decode cX4_cmapHolds 124 = .ok (.iconst 0, 1) := dl_o3 kcX4_cmapHolds (by decide +kernel)
theorem dX4_cmapHolds_125 : decode cX4_cmapHolds 125 = .ok (.invokevirtual 165, 3) := dl_o182 kcX4_cmapHolds (by decide +kernel)
theorem dX4_cmapHolds_128 : decode cX4_cmapHolds 128 = .ok (.lstore 4, 2) := dl_o55 kcX4_cmapHolds (by decide +kernel)
theorem dX4_cmapHolds_130 : decode cX4_cmapHolds 130 = .ok (.lload 4, 2) := dl_o22 kcX4_cmapHolds (by decide +kernel)
theorem dX4_cmapHolds_132 : decode cX4_cmapHolds 132 = .ok (.ldc2_w 169, 3) := dl_o20 kcX4_cmapHolds (by decide +kernel)
theorem dX4_cmapHolds_135 : decode cX4_cmapHolds 135 = .ok (.lcmp, 1) := dl_o148 kcX4_cmapHolds (by decide +kernel)
theorem dX4_cmapHolds_136 : decode cX4_cmapHolds 136 = .ok (.ifCond .eq 16, 3) := dl_o153 kcX4_cmapHolds 16 (by decide +kernel) (by decide +kernel)
theorem dX4_cmapHolds_139 : decode cX4_cmapHolds 139 = .ok (.aload_n 0, 1) := dl_o42 kcX4_cmapHolds (by decide +kernel)
theorem dX4_cmapHolds_140 : decode cX4_cmapHolds 140 = .ok (.lload 4, 2) := dl_o22 kcX4_cmapHolds (by decide +kernel)
theorem dX4_cmapHolds_142 : decode cX4_cmapHolds 142 = .ok (.invokevirtual 178, 3) := dl_o182 kcX4_cmapHolds (by decide +kernel)
theorem dX4_cmapHolds_145 : decode cX4_cmapHolds 145 = .ok (.ifCond .eq 7, 3) := dl_o153 kcX4_cmapHolds 7 (by decide +kernel) (by decide +kernel)
theorem dX4_cmapHolds_148 : decode cX4_cmapHolds 148 = .ok (.iconst 1, 1) := dl_o4 kcX4_cmapHolds (by decide +kernel)
theorem dX4_cmapHolds_149 : decode cX4_cmapHolds 149 = .ok (.goto 4, 3) := dl_o167 kcX4_cmapHolds 4 (by decide +kernel) (by decide +kernel)
theorem dX4_cmapHolds_152 : decode cX4_cmapHolds 152 = .ok (.iconst 0, 1) := dl_o3 kcX4_cmapHolds (by decide +kernel)
theorem dX4_cmapHolds_153 : decode cX4_cmapHolds 153 = .ok (.ireturn, 1) := dl_o172 kcX4_cmapHolds (by decide +kernel)
def F_X4_cmapHolds (N : Nat)  (V : sv_V) : Option (Int32 × sv_V) := sx_let (V.1 4 (0 : Int32).toNatClampNeg) (fun x1 => sx_let (V.1 5 (0 : Int32).toNatClampNeg) (fun x2 => (F_X2_u2 (x1 + (2 : Int32)) V).bind (fun (x5, V3) => if x2 < (4 : Int32) then (some ((0 : Int32), V3)) else ((F_X2_u2 x1 V3).bind (fun (x9, V7) => if x9 = 0 then (if x5 < (1 : Int32) then (some ((0 : Int32), V7)) else (if (8 : Int32) < x5 then (some ((0 : Int32), V7)) else (if ((4 : Int32) + ((8 : Int32) * x5)) ≤ x2 then ((F_X4_mapPlace N x5 (3 : Int32) (10 : Int32) V7).bind (fun (x16, V14) => if (lg_cmp x16 (-1 : Int64)) = 0 then ((F_X4_mapPlace N x5 (3 : Int32) (1 : Int32) V14).bind (fun (x20, V18) => if (lg_cmp x20 (-1 : Int64)) = 0 then ((F_X4_mapPlace N x5 (1 : Int32) (0 : Int32) V18).bind (fun (x24, V22) => if (lg_cmp x24 (-1 : Int64)) = 0 then (some ((0 : Int32), V22)) else ((F_X4_byteMapHolds x24 V22).bind (fun (x28, V26) => if x28 = 0 then (some ((0 : Int32), V26)) else (some ((1 : Int32), V26)))))) else ((F_X4_segmentsHold N x20 V18).bind (fun (x32, V30) => if sv_bl x32 = true then some (x32, V30) else none)))) else ((F_X4_groupsHold N x16 V14).bind (fun (x36, V34) => if sv_bl x36 = true then some (x36, V34) else none)))) else (some ((0 : Int32), V7))))) else (some ((0 : Int32), V7)))))))
set_option maxRecDepth 20000 in
theorem t_X4_cmapHolds {g : sx_G} (hG : sx_Go g) {P : Option Value → sv_V → Prop} {r : Int32} {Vr : sv_V} (hP : P (some (.int r)) Vr) {N : Nat}  {V : sv_V} (h : F_X4_cmapHolds N  V = some (r, Vr)) : sv_N g qX4_cmapHolds 3 0 [(0, .ref 29)] [] V P := by
  unfold F_X4_cmapHolds at h
  refine sx_aload_n (pc := 0) dX4_cmapHolds_0 sx_m0 ?_
  refine sv_getO (pc := 1) hG dX4_cmapHolds_1 f_4_9 lay_29 rfl cr_29_0 ?_
  refine sv_getA (pc := 4) hG dX4_cmapHolds_4 f_4_115 lay_2 rfl cr_2_3 ?_
  refine sx_iconst (pc := 7) (v := 0) dX4_cmapHolds_7 (by decide) ?_
  refine sv_iald (pc := 8) hG dX4_cmapHolds_8 lay_4 (by decide) ?_
  refine sv_tI (fun x1 hx1 => ?_)
  have h := sx_letE hx1 h
  refine sx_istore_n (pc := 9) (lo' := [(1, .int x1), (0, .ref 29)]) dX4_cmapHolds_9 (by decide) rfl ?_
  refine sx_aload_n (pc := 10) dX4_cmapHolds_10 sx_m1 ?_
  refine sv_getO (pc := 11) hG dX4_cmapHolds_11 f_4_9 lay_29 rfl cr_29_0 ?_
  refine sv_getA (pc := 14) hG dX4_cmapHolds_14 f_4_118 lay_2 rfl cr_2_4 ?_
  refine sx_iconst (pc := 17) (v := 0) dX4_cmapHolds_17 (by decide) ?_
  refine sv_iald (pc := 18) hG dX4_cmapHolds_18 lay_5 (by decide) ?_
  refine sv_tI (fun x2 hx2 => ?_)
  have h := sx_letE hx2 h
  refine sx_istore_n (pc := 19) (lo' := [(2, .int x2), (1, .int x1), (0, .ref 29)]) dX4_cmapHolds_19 (by decide) rfl ?_
  refine sx_aload_n (pc := 20) dX4_cmapHolds_20 sx_m2 ?_
  refine sv_getO (pc := 21) hG dX4_cmapHolds_21 f_4_9 lay_29 rfl cr_29_0 ?_
  refine sx_iload_n (pc := 24) dX4_cmapHolds_24 sx_m1 ?_
  refine sx_iconst (pc := 25) (v := 2) dX4_cmapHolds_25 (by decide) ?_
  refine sx_iadd (pc := 26) dX4_cmapHolds_26 ?_
  obtain ⟨⟨x5, V3⟩, g4, h⟩ := sx_bnd h
  refine sv_cV (pc := 27) (y := qX2_u2) (o := (some (.int x5))) (as := [.int (x1 + (2 : Int32))]) (V1 := V3) hG dX4_cmapHolds_27 l_X4_64 y0X2_u2 yvX2_u2 rfl (Nat.le_of_ble_eq_true rfl) lay_2 kr_2 (by decide) (Nat.le_of_ble_eq_true rfl) rfl rfl rfl (t_X2_u2 hG ⟨rfl, rfl⟩ g4) ?_
  refine sx_istore_n (pc := 30) (lo' := [(3, .int x5), (2, .int x2), (1, .int x1), (0, .ref 29)]) dX4_cmapHolds_30 (by decide) rfl ?_
  refine sx_iload_n (pc := 31) dX4_cmapHolds_31 sx_m1 ?_
  refine sx_iconst (pc := 32) (v := 4) dX4_cmapHolds_32 (by decide) ?_
  refine sx_icmp_lt (pc := 33) (tgt := 68) dX4_cmapHolds_33 (by decide) (fun c6 => ?_) (fun c6 => ?_)
  · have h := sx_pos c6 h
    refine sx_iconst (pc := 68) (v := 0) dX4_cmapHolds_68 (by decide) ?_
    exact sv_zret (pc := 69) dX4_cmapHolds_69 rfl rfl h hP
  · have h := sx_neg c6 h
    refine sx_aload_n (pc := 36) dX4_cmapHolds_36 sx_m3 ?_
    refine sv_getO (pc := 37) hG dX4_cmapHolds_37 f_4_9 lay_29 rfl cr_29_0 ?_
    refine sx_iload_n (pc := 40) dX4_cmapHolds_40 sx_m2 ?_
    obtain ⟨⟨x9, V7⟩, g8, h⟩ := sx_bnd h
    refine sv_cV (pc := 41) (y := qX2_u2) (o := (some (.int x9))) (as := [.int x1]) (V1 := V7) hG dX4_cmapHolds_41 l_X4_64 y0X2_u2 yvX2_u2 rfl (Nat.le_of_ble_eq_true rfl) lay_2 kr_2 (by decide) (Nat.le_of_ble_eq_true rfl) rfl rfl rfl (t_X2_u2 hG ⟨rfl, rfl⟩ g8) ?_
    refine sx_if_ne (pc := 44) (tgt := 68) dX4_cmapHolds_44 (by decide) (fun c10 => ?_) (fun c10 => ?_)
    · have h := sx_neg c10 h
      refine sx_iconst (pc := 68) (v := 0) dX4_cmapHolds_68 (by decide) ?_
      exact sv_zret (pc := 69) dX4_cmapHolds_69 rfl rfl h hP
    · have h := sx_pos c10 h
      refine sx_iload_n (pc := 47) dX4_cmapHolds_47 sx_m0 ?_
      refine sx_iconst (pc := 48) (v := 1) dX4_cmapHolds_48 (by decide) ?_
      refine sx_icmp_lt (pc := 49) (tgt := 68) dX4_cmapHolds_49 (by decide) (fun c11 => ?_) (fun c11 => ?_)
      · have h := sx_pos c11 h
        refine sx_iconst (pc := 68) (v := 0) dX4_cmapHolds_68 (by decide) ?_
        exact sv_zret (pc := 69) dX4_cmapHolds_69 rfl rfl h hP
      · have h := sx_neg c11 h
        refine sx_iload_n (pc := 52) dX4_cmapHolds_52 sx_m0 ?_
        refine sx_bipush (pc := 53) (v := 8) dX4_cmapHolds_53 (by decide) ?_
        refine sx_icmp_gt (pc := 55) (tgt := 68) dX4_cmapHolds_55 (by decide) (fun c12 => ?_) (fun c12 => ?_)
        · have h := sx_pos c12 h
          refine sx_iconst (pc := 68) (v := 0) dX4_cmapHolds_68 (by decide) ?_
          exact sv_zret (pc := 69) dX4_cmapHolds_69 rfl rfl h hP
        · have h := sx_neg c12 h
          refine sx_iconst (pc := 58) (v := 4) dX4_cmapHolds_58 (by decide) ?_
          refine sx_bipush (pc := 59) (v := 8) dX4_cmapHolds_59 (by decide) ?_
          refine sx_iload_n (pc := 61) dX4_cmapHolds_61 sx_m0 ?_
          refine sx_imul (pc := 62) dX4_cmapHolds_62 ?_
          refine sx_iadd (pc := 63) dX4_cmapHolds_63 ?_
          refine sx_iload_n (pc := 64) dX4_cmapHolds_64 sx_m1 ?_
          refine sx_icmp_le (pc := 65) (tgt := 70) dX4_cmapHolds_65 (by decide) (fun c13 => ?_) (fun c13 => ?_)
          · have h := sx_pos c13 h
            refine sx_aload_n (pc := 70) dX4_cmapHolds_70 sx_m3 ?_
            refine sx_iload_n (pc := 71) dX4_cmapHolds_71 sx_m0 ?_
            refine sx_iconst (pc := 72) (v := 3) dX4_cmapHolds_72 (by decide) ?_
            refine sx_bipush (pc := 73) (v := 10) dX4_cmapHolds_73 (by decide) ?_
            obtain ⟨⟨x16, V14⟩, g15, h⟩ := sx_bnd h
            refine sv_cV (pc := 75) (y := qX4_mapPlace) (o := (some (.long x16))) (as := [.int x5, .int (3 : Int32), .int (10 : Int32)]) (V1 := V14) hG dX4_cmapHolds_75 l_X4_165 y0X4_mapPlace yvX4_mapPlace rfl (Nat.le_of_ble_eq_true rfl) lay_29 kr_4 (by decide) (Nat.le_of_ble_eq_true rfl) rfl rfl rfl (t_X4_mapPlace hG ⟨rfl, rfl⟩ g15) ?_
            refine sx_lstore (pc := 78) (lo' := [(4, .long x16), (3, .int x5), (2, .int x2), (1, .int x1), (0, .ref 29)]) dX4_cmapHolds_78 (by decide) rfl ?_
            refine sx_lload (pc := 80) dX4_cmapHolds_80 sx_m0 ?_
            refine sx_ldc2 (pc := 82) dX4_cmapHolds_82 k_X4_169 ?_
            refine sx_lcmp (pc := 85) dX4_cmapHolds_85 ?_
            refine sx_if_eq (pc := 86) (tgt := 96) dX4_cmapHolds_86 (by decide) (fun c17 => ?_) (fun c17 => ?_)
            · have h := sx_pos c17 h
              refine sx_aload_n (pc := 96) dX4_cmapHolds_96 sx_m4 ?_
              refine sx_iload_n (pc := 97) dX4_cmapHolds_97 sx_m1 ?_
              refine sx_iconst (pc := 98) (v := 3) dX4_cmapHolds_98 (by decide) ?_
              refine sx_iconst (pc := 99) (v := 1) dX4_cmapHolds_99 (by decide) ?_
              obtain ⟨⟨x20, V18⟩, g19, h⟩ := sx_bnd h
              refine sv_cV (pc := 100) (y := qX4_mapPlace) (o := (some (.long x20))) (as := [.int x5, .int (3 : Int32), .int (1 : Int32)]) (V1 := V18) hG dX4_cmapHolds_100 l_X4_165 y0X4_mapPlace yvX4_mapPlace rfl (Nat.le_of_ble_eq_true rfl) lay_29 kr_4 (by decide) (Nat.le_of_ble_eq_true rfl) rfl rfl rfl (t_X4_mapPlace hG ⟨rfl, rfl⟩ g19) ?_
              refine sx_lstore (pc := 103) (lo' := [(4, .long x20), (3, .int x5), (2, .int x2), (1, .int x1), (0, .ref 29)]) dX4_cmapHolds_103 (by decide) rfl ?_
              refine sx_lload (pc := 105) dX4_cmapHolds_105 sx_m0 ?_
              refine sx_ldc2 (pc := 107) dX4_cmapHolds_107 k_X4_169 ?_
              refine sx_lcmp (pc := 110) dX4_cmapHolds_110 ?_
              refine sx_if_eq (pc := 111) (tgt := 121) dX4_cmapHolds_111 (by decide) (fun c21 => ?_) (fun c21 => ?_)
              · have h := sx_pos c21 h
                refine sx_aload_n (pc := 121) dX4_cmapHolds_121 sx_m4 ?_
                refine sx_iload_n (pc := 122) dX4_cmapHolds_122 sx_m1 ?_
                refine sx_iconst (pc := 123) (v := 1) dX4_cmapHolds_123 (by decide) ?_
                refine sx_iconst (pc := 124) (v := 0) dX4_cmapHolds_124 (by decide) ?_
                obtain ⟨⟨x24, V22⟩, g23, h⟩ := sx_bnd h
                refine sv_cV (pc := 125) (y := qX4_mapPlace) (o := (some (.long x24))) (as := [.int x5, .int (1 : Int32), .int (0 : Int32)]) (V1 := V22) hG dX4_cmapHolds_125 l_X4_165 y0X4_mapPlace yvX4_mapPlace rfl (Nat.le_of_ble_eq_true rfl) lay_29 kr_4 (by decide) (Nat.le_of_ble_eq_true rfl) rfl rfl rfl (t_X4_mapPlace hG ⟨rfl, rfl⟩ g23) ?_
                refine sx_lstore (pc := 128) (lo' := [(4, .long x24), (3, .int x5), (2, .int x2), (1, .int x1), (0, .ref 29)]) dX4_cmapHolds_128 (by decide) rfl ?_
                refine sx_lload (pc := 130) dX4_cmapHolds_130 sx_m0 ?_
                refine sx_ldc2 (pc := 132) dX4_cmapHolds_132 k_X4_169 ?_
                refine sx_lcmp (pc := 135) dX4_cmapHolds_135 ?_
                refine sx_if_eq (pc := 136) (tgt := 152) dX4_cmapHolds_136 (by decide) (fun c25 => ?_) (fun c25 => ?_)
                · have h := sx_pos c25 h
                  refine sx_iconst (pc := 152) (v := 0) dX4_cmapHolds_152 (by decide) ?_
                  exact sv_zret (pc := 153) dX4_cmapHolds_153 rfl rfl h hP
                · have h := sx_neg c25 h
                  refine sx_aload_n (pc := 139) dX4_cmapHolds_139 sx_m4 ?_
                  refine sx_lload (pc := 140) dX4_cmapHolds_140 sx_m0 ?_
                  obtain ⟨⟨x28, V26⟩, g27, h⟩ := sx_bnd h
                  refine sv_cV (pc := 142) (y := qX4_byteMapHolds) (o := (some (.int x28))) (as := [.long x24]) (V1 := V26) hG dX4_cmapHolds_142 l_X4_178 y0X4_byteMapHolds yvX4_byteMapHolds rfl (Nat.le_of_ble_eq_true rfl) lay_29 kr_4 (by decide) (Nat.le_of_ble_eq_true rfl) rfl rfl rfl (t_X4_byteMapHolds hG ⟨rfl, rfl⟩ g27) ?_
                  refine sx_if_eq (pc := 145) (tgt := 152) dX4_cmapHolds_145 (by decide) (fun c29 => ?_) (fun c29 => ?_)
                  · have h := sx_pos c29 h
                    refine sx_iconst (pc := 152) (v := 0) dX4_cmapHolds_152 (by decide) ?_
                    exact sv_zret (pc := 153) dX4_cmapHolds_153 rfl rfl h hP
                  · have h := sx_neg c29 h
                    refine sx_iconst (pc := 148) (v := 1) dX4_cmapHolds_148 (by decide) ?_
                    refine sx_goto (pc := 149) (tgt := 153) dX4_cmapHolds_149 (by decide) ?_
                    exact sv_zret (pc := 153) dX4_cmapHolds_153 rfl rfl h hP
              · have h := sx_neg c21 h
                refine sx_aload_n (pc := 114) dX4_cmapHolds_114 sx_m4 ?_
                refine sx_lload (pc := 115) dX4_cmapHolds_115 sx_m0 ?_
                obtain ⟨⟨x32, V30⟩, g31, h⟩ := sx_bnd h
                refine sv_cV (pc := 117) (y := qX4_segmentsHold) (o := (some (.int x32))) (as := [.long x20]) (V1 := V30) hG dX4_cmapHolds_117 l_X4_175 y0X4_segmentsHold yvX4_segmentsHold rfl (Nat.le_of_ble_eq_true rfl) lay_29 kr_4 (by decide) (Nat.le_of_ble_eq_true rfl) rfl rfl rfl (t_X4_segmentsHold hG ⟨rfl, rfl⟩ g31) ?_
                obtain ⟨g33, h⟩ := sx_grd h
                exact sv_zret (pc := 120) dX4_cmapHolds_120 rfl g33 h hP
            · have h := sx_neg c17 h
              refine sx_aload_n (pc := 89) dX4_cmapHolds_89 sx_m4 ?_
              refine sx_lload (pc := 90) dX4_cmapHolds_90 sx_m0 ?_
              obtain ⟨⟨x36, V34⟩, g35, h⟩ := sx_bnd h
              refine sv_cV (pc := 92) (y := qX4_groupsHold) (o := (some (.int x36))) (as := [.long x16]) (V1 := V34) hG dX4_cmapHolds_92 l_X4_171 y0X4_groupsHold yvX4_groupsHold rfl (Nat.le_of_ble_eq_true rfl) lay_29 kr_4 (by decide) (Nat.le_of_ble_eq_true rfl) rfl rfl rfl (t_X4_groupsHold hG ⟨rfl, rfl⟩ g35) ?_
              obtain ⟨g37, h⟩ := sx_grd h
              exact sv_zret (pc := 95) dX4_cmapHolds_95 rfl g37 h hP
          · have h := sx_neg c13 h
            refine sx_iconst (pc := 68) (v := 0) dX4_cmapHolds_68 (by decide) ?_
            exact sv_zret (pc := 69) dX4_cmapHolds_69 rfl rfl h hP
def ncX5_beginSize : Nat := 60316382459477447185426227925682752920362
theorem kcX5_beginSize : CK cX5_beginSize ncX5_beginSize 17 := ⟨by decide +kernel, by decide +kernel⟩
theorem dX5_beginSize_0 : decode cX5_beginSize 0 = .ok (.aload_n 0, 1) := dl_o42 kcX5_beginSize (by decide +kernel)
theorem dX5_beginSize_1 : decode cX5_beginSize 1 = .ok (.iload_n 1, 1) := dl_o27 kcX5_beginSize (by decide +kernel)
theorem dX5_beginSize_2 : decode cX5_beginSize 2 = .ok (.putfield 59, 3) := dl_o181 kcX5_beginSize (by decide +kernel)
theorem dX5_beginSize_5 : decode cX5_beginSize 5 = .ok (.aload_n 0, 1) := dl_o42 kcX5_beginSize (by decide +kernel)
theorem dX5_beginSize_6 : decode cX5_beginSize 6 = .ok (.getfield 21, 3) := dl_o180 kcX5_beginSize (by decide +kernel)
theorem dX5_beginSize_9 : decode cX5_beginSize 9 = .ok (.invokevirtual 62, 3) := dl_o182 kcX5_beginSize (by decide +kernel)
theorem dX5_beginSize_12 : decode cX5_beginSize 12 = .ok (.aload_n 0, 1) := dl_o42 kcX5_beginSize (by decide +kernel)
theorem dX5_beginSize_13 : decode cX5_beginSize 13 = .ok (.invokevirtual 65, 3) := dl_o182 kcX5_beginSize (by decide +kernel)
theorem dX5_beginSize_16 : decode cX5_beginSize 16 = .ok (.return_, 1) := dl_o177 kcX5_beginSize (by decide +kernel)
def F_X5_beginSize (N : Nat) (l1 : Int32) (V : sv_V) : Option sv_V := sx_let (sv_I V 69 12 l1) (fun V1 => (F_X0_forgetAll N  V1).bind (fun V2 => (F_X5_beginCount  V2).bind (fun V4 => some V4)))
set_option maxRecDepth 20000 in
theorem t_X5_beginSize {g : sx_G} (hG : sx_Go g) {P : Option Value → sv_V → Prop} {Vr : sv_V} (hP : P none Vr) {N : Nat} {l1 : Int32} {V : sv_V} (h : F_X5_beginSize N l1 V = some Vr) : sv_N g qX5_beginSize 2 0 [(0, .ref 69), (1, .int l1)] [] V P := by
  unfold F_X5_beginSize at h
  refine sx_aload_n (pc := 0) dX5_beginSize_0 sx_m0 ?_
  refine sx_iload_n (pc := 1) dX5_beginSize_1 sx_m1 ?_
  obtain ⟨V1, hV1⟩ : ∃ z : sv_V, z = sv_I V 69 12 l1 := ⟨_, rfl⟩
  have h := sx_letE hV1 h
  refine sv_putI (pc := 2) hG dX5_beginSize_2 f_5_59 lay_69 rfl hV1 ?_
  refine sx_aload_n (pc := 5) dX5_beginSize_5 sx_m0 ?_
  refine sv_getO (pc := 6) hG dX5_beginSize_6 f_5_21 lay_69 rfl cr_69_2 ?_
  obtain ⟨V2, g3, h⟩ := sx_bnd h
  refine sv_cV (pc := 9) (y := qX0_forgetAll) (o := none) (as := []) (V1 := V2) hG dX5_beginSize_9 l_X5_62 y0X0_forgetAll yvX0_forgetAll rfl (Nat.le_of_ble_eq_true rfl) lay_73 kr_0 (by decide) (Nat.le_of_ble_eq_true rfl) rfl rfl rfl (t_X0_forgetAll hG ⟨rfl, rfl⟩ g3) ?_
  refine sx_aload_n (pc := 12) dX5_beginSize_12 sx_m0 ?_
  obtain ⟨V4, g5, h⟩ := sx_bnd h
  refine sv_cV (pc := 13) (y := qX5_beginCount) (o := none) (as := []) (V1 := V4) hG dX5_beginSize_13 l_X5_65 y0X5_beginCount yvX5_beginCount rfl (Nat.le_of_ble_eq_true rfl) lay_69 kr_5 (by decide) (Nat.le_of_ble_eq_true rfl) rfl rfl rfl (t_X5_beginCount hG ⟨rfl, rfl⟩ g5) ?_
  exact sv_vret (pc := 16) dX5_beginSize_16 rfl h hP
def ncX5_scaled : Nat := 16598169920475575659530113407952664079408467758403562015
theorem kcX5_scaled : CK cX5_scaled ncX5_scaled 23 := ⟨by decide +kernel, by decide +kernel⟩
theorem dX5_scaled_0 : decode cX5_scaled 0 = .ok (.lload_n 1, 1) := dl_o31 kcX5_scaled (by decide +kernel)
theorem dX5_scaled_1 : decode cX5_scaled 1 = .ok (.aload_n 0, 1) := dl_o42 kcX5_scaled (by decide +kernel)
theorem dX5_scaled_2 : decode cX5_scaled 2 = .ok (.getfield 59, 3) := dl_o180 kcX5_scaled (by decide +kernel)
theorem dX5_scaled_5 : decode cX5_scaled 5 = .ok (.i2l, 1) := dl_o133 kcX5_scaled (by decide +kernel)
theorem dX5_scaled_6 : decode cX5_scaled 6 = .ok (.lmul, 1) := dl_o105 kcX5_scaled (by decide +kernel)
theorem dX5_scaled_7 : decode cX5_scaled 7 = .ok (.ldc2_w 68, 3) := dl_o20 kcX5_scaled (by decide +kernel)
theorem dX5_scaled_10 : decode cX5_scaled 10 = .ok (.lmul, 1) := dl_o105 kcX5_scaled (by decide +kernel)
theorem dX5_scaled_11 : decode cX5_scaled 11 = .ok (.aload_n 0, 1) := dl_o42 kcX5_scaled (by decide +kernel)
theorem dX5_scaled_12 : decode cX5_scaled 12 = .ok (.getfield 45, 3) := dl_o180 kcX5_scaled (by decide +kernel)
theorem dX5_scaled_15 : decode cX5_scaled 15 = .ok (.getfield 70, 3) := dl_o180 kcX5_scaled (by decide +kernel)
theorem dX5_scaled_18 : decode cX5_scaled 18 = .ok (.i2l, 1) := dl_o133 kcX5_scaled (by decide +kernel)
theorem dX5_scaled_19 : decode cX5_scaled 19 = .ok (.invokestatic 75, 3) := dl_o184 kcX5_scaled (by decide +kernel)
theorem dX5_scaled_22 : decode cX5_scaled 22 = .ok (.lreturn, 1) := dl_o173 kcX5_scaled (by decide +kernel)
def F_X5_scaled (l1 : Int64) (V : sv_V) : Option (Int64 × sv_V) := (F_X11_nearest ((l1 * ((V.1 69 12).toInt64)) * (64 : Int64)) ((V.1 2 6).toInt64) V).bind (fun (x3, V1) => some (x3, V1))
set_option maxRecDepth 20000 in
theorem t_X5_scaled {g : sx_G} (hG : sx_Go g) {P : Option Value → sv_V → Prop} {r : Int64} {Vr : sv_V} (hP : P (some (.long r)) Vr) {l1 : Int64} {V : sv_V} (h : F_X5_scaled l1 V = some (r, Vr)) : sv_N g qX5_scaled 1 0 [(0, .ref 69), (1, .long l1)] [] V P := by
  unfold F_X5_scaled at h
  refine sx_lload_n (pc := 0) dX5_scaled_0 sx_m1 ?_
  refine sx_aload_n (pc := 1) dX5_scaled_1 sx_m0 ?_
  refine sv_getI (pc := 2) hG dX5_scaled_2 f_5_59 lay_69 rfl ?_
  refine sx_i2l (pc := 5) dX5_scaled_5 ?_
  refine sx_lmul (pc := 6) dX5_scaled_6 ?_
  refine sx_ldc2 (pc := 7) dX5_scaled_7 k_X5_68 ?_
  refine sx_lmul (pc := 10) dX5_scaled_10 ?_
  refine sx_aload_n (pc := 11) dX5_scaled_11 sx_m0 ?_
  refine sv_getO (pc := 12) hG dX5_scaled_12 f_5_45 lay_69 rfl cr_69_0 ?_
  refine sv_getI (pc := 15) hG dX5_scaled_15 f_5_70 lay_2 rfl ?_
  refine sx_i2l (pc := 18) dX5_scaled_18 ?_
  obtain ⟨⟨x3, V1⟩, g2, h⟩ := sx_bnd h
  refine sv_cN (pc := 19) (y := qX11_nearest) (o := (some (.long x3))) (as := [.long ((l1 * ((V.1 69 12).toInt64)) * (64 : Int64)), .long ((V.1 2 6).toInt64)]) (V1 := V1) dX5_scaled_19 n_X5_75 y0X11_nearest ysX11_nearest rfl (Nat.le_of_ble_eq_true rfl) (by decide) (Nat.le_of_ble_eq_true rfl) rfl rfl rfl (t_X11_nearest hG ⟨rfl, rfl⟩ g2) ?_
  exact sv_lret (pc := 22) dX5_scaled_22 rfl h hP
def ncX5_isThere : Nat := 3851408627680740150243111835150840680504761387
theorem kcX5_isThere : CK cX5_isThere ncX5_isThere 19 := ⟨by decide +kernel, by decide +kernel⟩
theorem dX5_isThere_0 : decode cX5_isThere 0 = .ok (.aload_n 1, 1) := dl_o43 kcX5_isThere (by decide +kernel)
theorem dX5_isThere_1 : decode cX5_isThere 1 = .ok (.iload_n 2, 1) := dl_o28 kcX5_isThere (by decide +kernel)
theorem dX5_isThere_2 : decode cX5_isThere 2 = .ok (.invokevirtual 180, 3) := dl_o182 kcX5_isThere (by decide +kernel)
theorem dX5_isThere_5 : decode cX5_isThere 5 = .ok (.ifCond .ne 8, 3) := dl_o154 kcX5_isThere 8 (by decide +kernel) (by decide +kernel)
theorem dX5_isThere_8 : decode cX5_isThere 8 = .ok (.aload_n 0, 1) := dl_o42 kcX5_isThere (by decide +kernel)
theorem dX5_isThere_9 : decode cX5_isThere 9 = .ok (.iconst 5, 1) := dl_o8 kcX5_isThere (by decide +kernel)
theorem dX5_isThere_10 : decode cX5_isThere 10 = .ok (.putfield 56, 3) := dl_o181 kcX5_isThere (by decide +kernel)
theorem dX5_isThere_13 : decode cX5_isThere 13 = .ok (.aload_n 1, 1) := dl_o43 kcX5_isThere (by decide +kernel)
theorem dX5_isThere_14 : decode cX5_isThere 14 = .ok (.iload_n 2, 1) := dl_o28 kcX5_isThere (by decide +kernel)
theorem dX5_isThere_15 : decode cX5_isThere 15 = .ok (.invokevirtual 180, 3) := dl_o182 kcX5_isThere (by decide +kernel)
theorem dX5_isThere_18 : decode cX5_isThere 18 = .ok (.ireturn, 1) := dl_o172 kcX5_isThere (by decide +kernel)
def B_X5_isThere_13  (l1 : Nat) (l2 : Int32) (V : sv_V) : Option (Int32 × sv_V) := (F_X8_has l1 l2 V).bind (fun (x3, V1) => if lay l1 = .inl 8 then if sv_bl x3 = true then some (x3, V1) else none else none)
set_option maxRecDepth 20000 in
theorem tB_X5_isThere_13 {g : sx_G} (hG : sx_Go g) {P : Option Value → sv_V → Prop} {r : Int32} {Vr : sv_V} (hP : P (some (.int r)) Vr)   {l1 : Nat} {l2 : Int32} {V : sv_V} (h : B_X5_isThere_13  l1 l2 V = some (r, Vr)) : sv_N g qX5_isThere 1 13 [(1, .ref l1), (2, .int l2)] [] V P := by
  unfold B_X5_isThere_13 at h
  refine sx_aload_n (pc := 13) dX5_isThere_13 sx_m0 ?_
  refine sx_iload_n (pc := 14) dX5_isThere_14 sx_m1 ?_
  obtain ⟨⟨x3, V1⟩, g2, h⟩ := sx_bnd h
  obtain ⟨g4, h⟩ := sx_grd h
  refine sv_cV (pc := 15) (y := qX8_has) (o := (some (.int x3))) (as := [.int l2]) (V1 := V1) hG dX5_isThere_15 l_X5_180 y0X8_has yvX8_has rfl (Nat.le_of_ble_eq_true rfl) g4 kr_8 (by decide) (Nat.le_of_ble_eq_true rfl) rfl rfl rfl (t_X8_has hG ⟨rfl, rfl⟩ g2) ?_
  obtain ⟨g5, h⟩ := sx_grd h
  exact sv_zret (pc := 18) dX5_isThere_18 rfl g5 h hP
def F_X5_isThere (l1 : Nat) (l2 : Int32) (V : sv_V) : Option (Int32 × sv_V) := (F_X8_has l1 l2 V).bind (fun (x8, V6) => if lay l1 = .inl 8 then if x8 = 0 then (sx_let (sv_I V6 69 14 (5 : Int32)) (fun V11 => B_X5_isThere_13  l1 l2 V11)) else (B_X5_isThere_13  l1 l2 V6) else none)
set_option maxRecDepth 20000 in
theorem t_X5_isThere {g : sx_G} (hG : sx_Go g) {P : Option Value → sv_V → Prop} {r : Int32} {Vr : sv_V} (hP : P (some (.int r)) Vr) {l1 : Nat} {l2 : Int32} {V : sv_V} (h : F_X5_isThere l1 l2 V = some (r, Vr)) : sv_N g qX5_isThere 1 0 [(0, .ref 69), (1, .ref l1), (2, .int l2)] [] V P := by
  unfold F_X5_isThere at h
  refine sx_aload_n (pc := 0) dX5_isThere_0 sx_m1 ?_
  refine sx_iload_n (pc := 1) dX5_isThere_1 sx_m2 ?_
  obtain ⟨⟨x8, V6⟩, g7, h⟩ := sx_bnd h
  obtain ⟨g9, h⟩ := sx_grd h
  refine sv_cV (pc := 2) (y := qX8_has) (o := (some (.int x8))) (as := [.int l2]) (V1 := V6) hG dX5_isThere_2 l_X5_180 y0X8_has yvX8_has rfl (Nat.le_of_ble_eq_true rfl) g9 kr_8 (by decide) (Nat.le_of_ble_eq_true rfl) rfl rfl rfl (t_X8_has hG ⟨rfl, rfl⟩ g7) ?_
  refine sx_if_ne (pc := 5) (tgt := 13) dX5_isThere_5 (by decide) (fun c10 => ?_) (fun c10 => ?_)
  · have h := sx_neg c10 h
    refine sx_wk (sx_s1 sx_m1 (sx_s1 sx_m2 sx_s0)) ?_
    exact tB_X5_isThere_13 hG hP  h
  · have h := sx_pos c10 h
    refine sx_aload_n (pc := 8) dX5_isThere_8 sx_m0 ?_
    refine sx_iconst (pc := 9) (v := 5) dX5_isThere_9 (by decide) ?_
    obtain ⟨V11, hV11⟩ : ∃ z : sv_V, z = sv_I V6 69 14 (5 : Int32) := ⟨_, rfl⟩
    have h := sx_letE hV11 h
    refine sv_putI (pc := 10) hG dX5_isThere_10 f_5_56 lay_69 rfl hV11 ?_
    refine sx_wk (sx_s1 sx_m1 (sx_s1 sx_m2 sx_s0)) ?_
    exact tB_X5_isThere_13 hG hP  h
def ncX5_longByP : Nat := 1197602144227535589382288322468886966136177468008275878139914960676071967
theorem kcX5_longByP : CK cX5_longByP ncX5_longByP 30 := ⟨by decide +kernel, by decide +kernel⟩
theorem dX5_longByP_0 : decode cX5_longByP 0 = .ok (.lload_n 1, 1) := dl_o31 kcX5_longByP (by decide +kernel)
theorem dX5_longByP_1 : decode cX5_longByP 1 = .ok (.aload_n 0, 1) := dl_o42 kcX5_longByP (by decide +kernel)
theorem dX5_longByP_2 : decode cX5_longByP 2 = .ok (.getfield 12, 3) := dl_o180 kcX5_longByP (by decide +kernel)
theorem dX5_longByP_5 : decode cX5_longByP 5 = .ok (.getfield 184, 3) := dl_o180 kcX5_longByP (by decide +kernel)
theorem dX5_longByP_8 : decode cX5_longByP 8 = .ok (.i2l, 1) := dl_o133 kcX5_longByP (by decide +kernel)
theorem dX5_longByP_9 : decode cX5_longByP 9 = .ok (.lmul, 1) := dl_o105 kcX5_longByP (by decide +kernel)
theorem dX5_longByP_10 : decode cX5_longByP 10 = .ok (.lload_n 3, 1) := dl_o33 kcX5_longByP (by decide +kernel)
theorem dX5_longByP_11 : decode cX5_longByP 11 = .ok (.aload_n 0, 1) := dl_o42 kcX5_longByP (by decide +kernel)
theorem dX5_longByP_12 : decode cX5_longByP 12 = .ok (.getfield 12, 3) := dl_o180 kcX5_longByP (by decide +kernel)
theorem dX5_longByP_15 : decode cX5_longByP 15 = .ok (.getfield 187, 3) := dl_o180 kcX5_longByP (by decide +kernel)
theorem dX5_longByP_18 : decode cX5_longByP 18 = .ok (.i2l, 1) := dl_o133 kcX5_longByP (by decide +kernel)
theorem dX5_longByP_19 : decode cX5_longByP 19 = .ok (.lmul, 1) := dl_o105 kcX5_longByP (by decide +kernel)
theorem dX5_longByP_20 : decode cX5_longByP 20 = .ok (.ladd, 1) := dl_o97 kcX5_longByP (by decide +kernel)
theorem dX5_longByP_21 : decode cX5_longByP 21 = .ok (.ldc2_w 190, 3) := dl_o20 kcX5_longByP (by decide +kernel)
theorem dX5_longByP_24 : decode cX5_longByP 24 = .ok (.invokestatic 75, 3) := dl_o184 kcX5_longByP (by decide +kernel)
theorem dX5_longByP_27 : decode cX5_longByP 27 = .ok (.l2i, 1) := dl_o136 kcX5_longByP (by decide +kernel)
theorem dX5_longByP_28 : decode cX5_longByP 28 = .ok (.i2l, 1) := dl_o133 kcX5_longByP (by decide +kernel)
theorem dX5_longByP_29 : decode cX5_longByP 29 = .ok (.lreturn, 1) := dl_o173 kcX5_longByP (by decide +kernel)
def F_X5_longByP (l1 : Int64) (l3 : Int64) (V : sv_V) : Option (Int64 × sv_V) := (F_X11_nearest ((l1 * ((V.1 70 2).toInt64)) + (l3 * ((V.1 70 3).toInt64))) (16384 : Int64) V).bind (fun (x3, V1) => some (x3.toInt32.toInt64, V1))
set_option maxRecDepth 20000 in
theorem t_X5_longByP {g : sx_G} (hG : sx_Go g) {P : Option Value → sv_V → Prop} {r : Int64} {Vr : sv_V} (hP : P (some (.long r)) Vr) {l1 : Int64} {l3 : Int64} {V : sv_V} (h : F_X5_longByP l1 l3 V = some (r, Vr)) : sv_N g qX5_longByP 1 0 [(0, .ref 69), (1, .long l1), (3, .long l3)] [] V P := by
  unfold F_X5_longByP at h
  refine sx_lload_n (pc := 0) dX5_longByP_0 sx_m1 ?_
  refine sx_aload_n (pc := 1) dX5_longByP_1 sx_m0 ?_
  refine sv_getO (pc := 2) hG dX5_longByP_2 f_5_12 lay_69 rfl cr_69_1 ?_
  refine sv_getI (pc := 5) hG dX5_longByP_5 f_5_184 lay_70 rfl ?_
  refine sx_i2l (pc := 8) dX5_longByP_8 ?_
  refine sx_lmul (pc := 9) dX5_longByP_9 ?_
  refine sx_lload_n (pc := 10) dX5_longByP_10 sx_m2 ?_
  refine sx_aload_n (pc := 11) dX5_longByP_11 sx_m0 ?_
  refine sv_getO (pc := 12) hG dX5_longByP_12 f_5_12 lay_69 rfl cr_69_1 ?_
  refine sv_getI (pc := 15) hG dX5_longByP_15 f_5_187 lay_70 rfl ?_
  refine sx_i2l (pc := 18) dX5_longByP_18 ?_
  refine sx_lmul (pc := 19) dX5_longByP_19 ?_
  refine sx_ladd (pc := 20) dX5_longByP_20 ?_
  refine sx_ldc2 (pc := 21) dX5_longByP_21 k_X5_190 ?_
  obtain ⟨⟨x3, V1⟩, g2, h⟩ := sx_bnd h
  refine sv_cN (pc := 24) (y := qX11_nearest) (o := (some (.long x3))) (as := [.long ((l1 * ((V.1 70 2).toInt64)) + (l3 * ((V.1 70 3).toInt64))), .long (16384 : Int64)]) (V1 := V1) dX5_longByP_24 n_X5_75 y0X11_nearest ysX11_nearest rfl (Nat.le_of_ble_eq_true rfl) (by decide) (Nat.le_of_ble_eq_true rfl) rfl rfl rfl (t_X11_nearest hG ⟨rfl, rfl⟩ g2) ?_
  refine sx_l2i (pc := 27) dX5_longByP_27 ?_
  refine sx_i2l (pc := 28) dX5_longByP_28 ?_
  exact sv_lret (pc := 29) dX5_longByP_29 rfl h hP
def ncX5_longByD : Nat := 1197602144227535589382288322469583864423631549981448869912395974276557343
theorem kcX5_longByD : CK cX5_longByD ncX5_longByD 30 := ⟨by decide +kernel, by decide +kernel⟩
theorem dX5_longByD_0 : decode cX5_longByD 0 = .ok (.lload_n 1, 1) := dl_o31 kcX5_longByD (by decide +kernel)
theorem dX5_longByD_1 : decode cX5_longByD 1 = .ok (.aload_n 0, 1) := dl_o42 kcX5_longByD (by decide +kernel)
theorem dX5_longByD_2 : decode cX5_longByD 2 = .ok (.getfield 12, 3) := dl_o180 kcX5_longByD (by decide +kernel)
theorem dX5_longByD_5 : decode cX5_longByD 5 = .ok (.getfield 192, 3) := dl_o180 kcX5_longByD (by decide +kernel)
theorem dX5_longByD_8 : decode cX5_longByD 8 = .ok (.i2l, 1) := dl_o133 kcX5_longByD (by decide +kernel)
theorem dX5_longByD_9 : decode cX5_longByD 9 = .ok (.lmul, 1) := dl_o105 kcX5_longByD (by decide +kernel)
theorem dX5_longByD_10 : decode cX5_longByD 10 = .ok (.lload_n 3, 1) := dl_o33 kcX5_longByD (by decide +kernel)
theorem dX5_longByD_11 : decode cX5_longByD 11 = .ok (.aload_n 0, 1) := dl_o42 kcX5_longByD (by decide +kernel)
theorem dX5_longByD_12 : decode cX5_longByD 12 = .ok (.getfield 12, 3) := dl_o180 kcX5_longByD (by decide +kernel)
theorem dX5_longByD_15 : decode cX5_longByD 15 = .ok (.getfield 195, 3) := dl_o180 kcX5_longByD (by decide +kernel)
theorem dX5_longByD_18 : decode cX5_longByD 18 = .ok (.i2l, 1) := dl_o133 kcX5_longByD (by decide +kernel)
theorem dX5_longByD_19 : decode cX5_longByD 19 = .ok (.lmul, 1) := dl_o105 kcX5_longByD (by decide +kernel)
theorem dX5_longByD_20 : decode cX5_longByD 20 = .ok (.ladd, 1) := dl_o97 kcX5_longByD (by decide +kernel)
theorem dX5_longByD_21 : decode cX5_longByD 21 = .ok (.ldc2_w 190, 3) := dl_o20 kcX5_longByD (by decide +kernel)
theorem dX5_longByD_24 : decode cX5_longByD 24 = .ok (.invokestatic 75, 3) := dl_o184 kcX5_longByD (by decide +kernel)
theorem dX5_longByD_27 : decode cX5_longByD 27 = .ok (.l2i, 1) := dl_o136 kcX5_longByD (by decide +kernel)
theorem dX5_longByD_28 : decode cX5_longByD 28 = .ok (.i2l, 1) := dl_o133 kcX5_longByD (by decide +kernel)
theorem dX5_longByD_29 : decode cX5_longByD 29 = .ok (.lreturn, 1) := dl_o173 kcX5_longByD (by decide +kernel)
def F_X5_longByD (l1 : Int64) (l3 : Int64) (V : sv_V) : Option (Int64 × sv_V) := (F_X11_nearest ((l1 * ((V.1 70 4).toInt64)) + (l3 * ((V.1 70 5).toInt64))) (16384 : Int64) V).bind (fun (x3, V1) => some (x3.toInt32.toInt64, V1))
set_option maxRecDepth 20000 in
theorem t_X5_longByD {g : sx_G} (hG : sx_Go g) {P : Option Value → sv_V → Prop} {r : Int64} {Vr : sv_V} (hP : P (some (.long r)) Vr) {l1 : Int64} {l3 : Int64} {V : sv_V} (h : F_X5_longByD l1 l3 V = some (r, Vr)) : sv_N g qX5_longByD 1 0 [(0, .ref 69), (1, .long l1), (3, .long l3)] [] V P := by
  unfold F_X5_longByD at h
  refine sx_lload_n (pc := 0) dX5_longByD_0 sx_m1 ?_
  refine sx_aload_n (pc := 1) dX5_longByD_1 sx_m0 ?_
  refine sv_getO (pc := 2) hG dX5_longByD_2 f_5_12 lay_69 rfl cr_69_1 ?_
  refine sv_getI (pc := 5) hG dX5_longByD_5 f_5_192 lay_70 rfl ?_
  refine sx_i2l (pc := 8) dX5_longByD_8 ?_
  refine sx_lmul (pc := 9) dX5_longByD_9 ?_
  refine sx_lload_n (pc := 10) dX5_longByD_10 sx_m2 ?_
  refine sx_aload_n (pc := 11) dX5_longByD_11 sx_m0 ?_
  refine sv_getO (pc := 12) hG dX5_longByD_12 f_5_12 lay_69 rfl cr_69_1 ?_
  refine sv_getI (pc := 15) hG dX5_longByD_15 f_5_195 lay_70 rfl ?_
  refine sx_i2l (pc := 18) dX5_longByD_18 ?_
  refine sx_lmul (pc := 19) dX5_longByD_19 ?_
  refine sx_ladd (pc := 20) dX5_longByD_20 ?_
  refine sx_ldc2 (pc := 21) dX5_longByD_21 k_X5_190 ?_
  obtain ⟨⟨x3, V1⟩, g2, h⟩ := sx_bnd h
  refine sv_cN (pc := 24) (y := qX11_nearest) (o := (some (.long x3))) (as := [.long ((l1 * ((V.1 70 4).toInt64)) + (l3 * ((V.1 70 5).toInt64))), .long (16384 : Int64)]) (V1 := V1) dX5_longByD_24 n_X5_75 y0X11_nearest ysX11_nearest rfl (Nat.le_of_ble_eq_true rfl) (by decide) (Nat.le_of_ble_eq_true rfl) rfl rfl rfl (t_X11_nearest hG ⟨rfl, rfl⟩ g2) ?_
  refine sx_l2i (pc := 27) dX5_longByD_27 ?_
  refine sx_i2l (pc := 28) dX5_longByD_28 ?_
  exact sv_lret (pc := 29) dX5_longByD_29 rfl h hP
def ncX5_longBetween : Nat := 595595374298538080937854476279224817557223853262962531571495788202350457031520337323106674079029673302190699559450601399274578589005990137647413462406285800491
theorem kcX5_longBetween : CK cX5_longBetween ncX5_longBetween 66 := ⟨by decide +kernel, by decide +kernel⟩
theorem dX5_longBetween_0 : decode cX5_longBetween 0 = .ok (.aload_n 1, 1) := dl_o43 kcX5_longBetween (by decide +kernel)
theorem dX5_longBetween_1 : decode cX5_longBetween 1 = .ok (.getfield 198, 3) := dl_o180 kcX5_longBetween (by decide +kernel)
theorem dX5_longBetween_4 : decode cX5_longBetween 4 = .ok (.iload_n 2, 1) := dl_o28 kcX5_longBetween (by decide +kernel)
theorem dX5_longBetween_5 : decode cX5_longBetween 5 = .ok (.iaload, 1) := dl_o46 kcX5_longBetween (by decide +kernel)
theorem dX5_longBetween_6 : decode cX5_longBetween 6 = .ok (.aload_n 3, 1) := dl_o45 kcX5_longBetween (by decide +kernel)
theorem dX5_longBetween_7 : decode cX5_longBetween 7 = .ok (.getfield 198, 3) := dl_o180 kcX5_longBetween (by decide +kernel)
theorem dX5_longBetween_10 : decode cX5_longBetween 10 = .ok (.iload 4, 2) := dl_o21 kcX5_longBetween (by decide +kernel)
theorem dX5_longBetween_12 : decode cX5_longBetween 12 = .ok (.iaload, 1) := dl_o46 kcX5_longBetween (by decide +kernel)
theorem dX5_longBetween_13 : decode cX5_longBetween 13 = .ok (.isub, 1) := dl_o100 kcX5_longBetween (by decide +kernel)
theorem dX5_longBetween_14 : decode cX5_longBetween 14 = .ok (.i2l, 1) := dl_o133 kcX5_longBetween (by decide +kernel)
theorem dX5_longBetween_15 : decode cX5_longBetween 15 = .ok (.lstore 5, 2) := dl_o55 kcX5_longBetween (by decide +kernel)
theorem dX5_longBetween_17 : decode cX5_longBetween 17 = .ok (.aload_n 1, 1) := dl_o43 kcX5_longBetween (by decide +kernel)
theorem dX5_longBetween_18 : decode cX5_longBetween 18 = .ok (.getfield 201, 3) := dl_o180 kcX5_longBetween (by decide +kernel)
theorem dX5_longBetween_21 : decode cX5_longBetween 21 = .ok (.iload_n 2, 1) := dl_o28 kcX5_longBetween (by decide +kernel)
theorem dX5_longBetween_22 : decode cX5_longBetween 22 = .ok (.iaload, 1) := dl_o46 kcX5_longBetween (by decide +kernel)
theorem dX5_longBetween_23 : decode cX5_longBetween 23 = .ok (.aload_n 3, 1) := dl_o45 kcX5_longBetween (by decide +kernel)
theorem dX5_longBetween_24 : decode cX5_longBetween 24 = .ok (.getfield 201, 3) := dl_o180 kcX5_longBetween (by decide +kernel)
theorem dX5_longBetween_27 : decode cX5_longBetween 27 = .ok (.iload 4, 2) := dl_o21 kcX5_longBetween (by decide +kernel)
theorem dX5_longBetween_29 : decode cX5_longBetween 29 = .ok (.iaload, 1) := dl_o46 kcX5_longBetween (by decide +kernel)
theorem dX5_longBetween_30 : decode cX5_longBetween 30 = .ok (.isub, 1) := dl_o100 kcX5_longBetween (by decide +kernel)
theorem dX5_longBetween_31 : decode cX5_longBetween 31 = .ok (.i2l, 1) := dl_o133 kcX5_longBetween (by decide +kernel)
theorem dX5_longBetween_32 : decode cX5_longBetween 32 = .ok (.lstore 7, 2) := dl_o55 kcX5_longBetween (by decide +kernel)
theorem dX5_longBetween_34 : decode cX5_longBetween 34 = .ok (.lload 5, 2) := dl_o22 kcX5_longBetween (by decide +kernel)
theorem dX5_longBetween_36 : decode cX5_longBetween 36 = .ok (.aload_n 0, 1) := dl_o42 kcX5_longBetween (by decide +kernel)
theorem dX5_longBetween_37 : decode cX5_longBetween 37 = .ok (.getfield 12, 3) := dl_o180 kcX5_longBetween (by decide +kernel)
theorem dX5_longBetween_40 : decode cX5_longBetween 40 = .ok (.getfield 184, 3) := dl_o180 kcX5_longBetween (by decide +kernel)
theorem dX5_longBetween_43 : decode cX5_longBetween 43 = .ok (.i2l, 1) := dl_o133 kcX5_longBetween (by decide +kernel)
theorem dX5_longBetween_44 : decode cX5_longBetween 44 = .ok (.lmul, 1) := dl_o105 kcX5_longBetween (by decide +kernel)
theorem dX5_longBetween_45 : decode cX5_longBetween 45 = .ok (.lload 7, 2) := dl_o22 kcX5_longBetween (by decide +kernel)
theorem dX5_longBetween_47 : decode cX5_longBetween 47 = .ok (.aload_n 0, 1) := dl_o42 kcX5_longBetween (by decide +kernel)
theorem dX5_longBetween_48 : decode cX5_longBetween 48 = .ok (.getfield 12, 3) := dl_o180 kcX5_longBetween (by decide +kernel)
theorem dX5_longBetween_51 : decode cX5_longBetween 51 = .ok (.getfield 187, 3) := dl_o180 kcX5_longBetween (by decide +kernel)
theorem dX5_longBetween_54 : decode cX5_longBetween 54 = .ok (.i2l, 1) := dl_o133 kcX5_longBetween (by decide +kernel)
theorem dX5_longBetween_55 : decode cX5_longBetween 55 = .ok (.lmul, 1) := dl_o105 kcX5_longBetween (by decide +kernel)
theorem dX5_longBetween_56 : decode cX5_longBetween 56 = .ok (.ladd, 1) := dl_o97 kcX5_longBetween (by decide +kernel)
theorem dX5_longBetween_57 : decode cX5_longBetween 57 = .ok (.ldc2_w 190, 3) := dl_o20 kcX5_longBetween (by decide +kernel)
theorem dX5_longBetween_60 : decode cX5_longBetween 60 = .ok (.invokestatic 75, 3) := dl_o184 kcX5_longBetween (by decide +kernel)
theorem dX5_longBetween_63 : decode cX5_longBetween 63 = .ok (.l2i, 1) := dl_o136 kcX5_longBetween (by decide +kernel)
theorem dX5_longBetween_64 : decode cX5_longBetween 64 = .ok (.i2l, 1) := dl_o133 kcX5_longBetween (by decide +kernel)
theorem dX5_longBetween_65 : decode cX5_longBetween 65 = .ok (.lreturn, 1) := dl_o173 kcX5_longBetween (by decide +kernel)
def F_X5_longBetween (l1 : Nat) (l2 : Int32) (l3 : Nat) (l4 : Int32) (V : sv_V) : Option (Int64 × sv_V) := if lay l1 = .inl 8 then (cr l1 0).bind (fun b2 => (sv_len 0 b2).bind (fun n4 => if sx_in l2 n4 = true then if lay l3 = .inl 8 then (cr l3 0).bind (fun b8 => (sv_len 0 b8).bind (fun n10 => if sx_in l4 n10 = true then sx_let (((V.1 b2 l2.toNatClampNeg) - (V.1 b8 l4.toNatClampNeg)).toInt64) (fun x13 => (cr l1 1).bind (fun b14 => (sv_len 0 b14).bind (fun n16 => if sx_in l2 n16 = true then (cr l3 1).bind (fun b19 => (sv_len 0 b19).bind (fun n21 => if sx_in l4 n21 = true then sx_let (((V.1 b14 l2.toNatClampNeg) - (V.1 b19 l4.toNatClampNeg)).toInt64) (fun x24 => (F_X11_nearest ((x13 * ((V.1 70 2).toInt64)) + (x24 * ((V.1 70 3).toInt64))) (16384 : Int64) V).bind (fun (x27, V25) => some (x27.toInt32.toInt64, V25))) else none)) else none))) else none)) else none else none)) else none
set_option maxRecDepth 20000 in
theorem t_X5_longBetween {g : sx_G} (hG : sx_Go g) {P : Option Value → sv_V → Prop} {r : Int64} {Vr : sv_V} (hP : P (some (.long r)) Vr) {l1 : Nat} {l2 : Int32} {l3 : Nat} {l4 : Int32} {V : sv_V} (h : F_X5_longBetween l1 l2 l3 l4 V = some (r, Vr)) : sv_N g qX5_longBetween 1 0 [(0, .ref 69), (1, .ref l1), (2, .int l2), (3, .ref l3), (4, .int l4)] [] V P := by
  unfold F_X5_longBetween at h
  refine sx_aload_n (pc := 0) dX5_longBetween_0 sx_m1 ?_
  obtain ⟨g1, h⟩ := sx_grd h
  obtain ⟨b2, g3, h⟩ := sx_bnd h
  refine sv_getA (pc := 1) hG dX5_longBetween_1 f_5_198 g1 rfl g3 ?_
  refine sx_iload_n (pc := 4) dX5_longBetween_4 sx_m2 ?_
  obtain ⟨n4, g5, h⟩ := sx_bnd h
  obtain ⟨g6, h⟩ := sx_grd h
  refine sv_iald (pc := 5) hG dX5_longBetween_5 (sv_len_e g5) g6 ?_
  refine sx_aload_n (pc := 6) dX5_longBetween_6 sx_m3 ?_
  obtain ⟨g7, h⟩ := sx_grd h
  obtain ⟨b8, g9, h⟩ := sx_bnd h
  refine sv_getA (pc := 7) hG dX5_longBetween_7 f_5_198 g7 rfl g9 ?_
  refine sx_iload (pc := 10) dX5_longBetween_10 sx_m4 ?_
  obtain ⟨n10, g11, h⟩ := sx_bnd h
  obtain ⟨g12, h⟩ := sx_grd h
  refine sv_iald (pc := 12) hG dX5_longBetween_12 (sv_len_e g11) g12 ?_
  refine sx_isub (pc := 13) dX5_longBetween_13 ?_
  refine sx_i2l (pc := 14) dX5_longBetween_14 ?_
  refine sv_tJ (fun x13 hx13 => ?_)
  have h := sx_letE hx13 h
  refine sx_lstore (pc := 15) (lo' := [(5, .long x13), (0, .ref 69), (1, .ref l1), (2, .int l2), (3, .ref l3), (4, .int l4)]) dX5_longBetween_15 (by decide) rfl ?_
  refine sx_aload_n (pc := 17) dX5_longBetween_17 sx_m2 ?_
  obtain ⟨b14, g15, h⟩ := sx_bnd h
  refine sv_getA (pc := 18) hG dX5_longBetween_18 f_5_201 g1 rfl g15 ?_
  refine sx_iload_n (pc := 21) dX5_longBetween_21 sx_m3 ?_
  obtain ⟨n16, g17, h⟩ := sx_bnd h
  obtain ⟨g18, h⟩ := sx_grd h
  refine sv_iald (pc := 22) hG dX5_longBetween_22 (sv_len_e g17) g18 ?_
  refine sx_aload_n (pc := 23) dX5_longBetween_23 sx_m4 ?_
  obtain ⟨b19, g20, h⟩ := sx_bnd h
  refine sv_getA (pc := 24) hG dX5_longBetween_24 f_5_201 g7 rfl g20 ?_
  refine sx_iload (pc := 27) dX5_longBetween_27 sx_m5 ?_
  obtain ⟨n21, g22, h⟩ := sx_bnd h
  obtain ⟨g23, h⟩ := sx_grd h
  refine sv_iald (pc := 29) hG dX5_longBetween_29 (sv_len_e g22) g23 ?_
  refine sx_isub (pc := 30) dX5_longBetween_30 ?_
  refine sx_i2l (pc := 31) dX5_longBetween_31 ?_
  refine sv_tJ (fun x24 hx24 => ?_)
  have h := sx_letE hx24 h
  refine sx_lstore (pc := 32) (lo' := [(7, .long x24), (5, .long x13), (0, .ref 69), (1, .ref l1), (2, .int l2), (3, .ref l3), (4, .int l4)]) dX5_longBetween_32 (by decide) rfl ?_
  refine sx_lload (pc := 34) dX5_longBetween_34 sx_m1 ?_
  refine sx_aload_n (pc := 36) dX5_longBetween_36 sx_m2 ?_
  refine sv_getO (pc := 37) hG dX5_longBetween_37 f_5_12 lay_69 rfl cr_69_1 ?_
  refine sv_getI (pc := 40) hG dX5_longBetween_40 f_5_184 lay_70 rfl ?_
  refine sx_i2l (pc := 43) dX5_longBetween_43 ?_
  refine sx_lmul (pc := 44) dX5_longBetween_44 ?_
  refine sx_lload (pc := 45) dX5_longBetween_45 sx_m0 ?_
  refine sx_aload_n (pc := 47) dX5_longBetween_47 sx_m2 ?_
  refine sv_getO (pc := 48) hG dX5_longBetween_48 f_5_12 lay_69 rfl cr_69_1 ?_
  refine sv_getI (pc := 51) hG dX5_longBetween_51 f_5_187 lay_70 rfl ?_
  refine sx_i2l (pc := 54) dX5_longBetween_54 ?_
  refine sx_lmul (pc := 55) dX5_longBetween_55 ?_
  refine sx_ladd (pc := 56) dX5_longBetween_56 ?_
  refine sx_ldc2 (pc := 57) dX5_longBetween_57 k_X5_190 ?_
  obtain ⟨⟨x27, V25⟩, g26, h⟩ := sx_bnd h
  refine sv_cN (pc := 60) (y := qX11_nearest) (o := (some (.long x27))) (as := [.long ((x13 * ((V.1 70 2).toInt64)) + (x24 * ((V.1 70 3).toInt64))), .long (16384 : Int64)]) (V1 := V25) dX5_longBetween_60 n_X5_75 y0X11_nearest ysX11_nearest rfl (Nat.le_of_ble_eq_true rfl) (by decide) (Nat.le_of_ble_eq_true rfl) rfl rfl rfl (t_X11_nearest hG ⟨rfl, rfl⟩ g26) ?_
  refine sx_l2i (pc := 63) dX5_longBetween_63 ?_
  refine sx_i2l (pc := 64) dX5_longBetween_64 ?_
  exact sv_lret (pc := 65) dX5_longBetween_65 rfl h hP
def ncX5_originalBetween : Nat := 595595374298538080937854476279571401268988955120409833345633546036368913771221035535287206165669791971119709347612835028278745506837827640138375040469301244971
theorem kcX5_originalBetween : CK cX5_originalBetween ncX5_originalBetween 66 := ⟨by decide +kernel, by decide +kernel⟩
theorem dX5_originalBetween_0 : decode cX5_originalBetween 0 = .ok (.aload_n 1, 1) := dl_o43 kcX5_originalBetween (by decide +kernel)
theorem dX5_originalBetween_1 : decode cX5_originalBetween 1 = .ok (.getfield 204, 3) := dl_o180 kcX5_originalBetween (by decide +kernel)
theorem dX5_originalBetween_4 : decode cX5_originalBetween 4 = .ok (.iload_n 2, 1) := dl_o28 kcX5_originalBetween (by decide +kernel)
theorem dX5_originalBetween_5 : decode cX5_originalBetween 5 = .ok (.iaload, 1) := dl_o46 kcX5_originalBetween (by decide +kernel)
theorem dX5_originalBetween_6 : decode cX5_originalBetween 6 = .ok (.aload_n 3, 1) := dl_o45 kcX5_originalBetween (by decide +kernel)
theorem dX5_originalBetween_7 : decode cX5_originalBetween 7 = .ok (.getfield 204, 3) := dl_o180 kcX5_originalBetween (by decide +kernel)
theorem dX5_originalBetween_10 : decode cX5_originalBetween 10 = .ok (.iload 4, 2) := dl_o21 kcX5_originalBetween (by decide +kernel)
theorem dX5_originalBetween_12 : decode cX5_originalBetween 12 = .ok (.iaload, 1) := dl_o46 kcX5_originalBetween (by decide +kernel)
theorem dX5_originalBetween_13 : decode cX5_originalBetween 13 = .ok (.isub, 1) := dl_o100 kcX5_originalBetween (by decide +kernel)
theorem dX5_originalBetween_14 : decode cX5_originalBetween 14 = .ok (.i2l, 1) := dl_o133 kcX5_originalBetween (by decide +kernel)
theorem dX5_originalBetween_15 : decode cX5_originalBetween 15 = .ok (.lstore 5, 2) := dl_o55 kcX5_originalBetween (by decide +kernel)
theorem dX5_originalBetween_17 : decode cX5_originalBetween 17 = .ok (.aload_n 1, 1) := dl_o43 kcX5_originalBetween (by decide +kernel)
theorem dX5_originalBetween_18 : decode cX5_originalBetween 18 = .ok (.getfield 207, 3) := dl_o180 kcX5_originalBetween (by decide +kernel)
theorem dX5_originalBetween_21 : decode cX5_originalBetween 21 = .ok (.iload_n 2, 1) := dl_o28 kcX5_originalBetween (by decide +kernel)
theorem dX5_originalBetween_22 : decode cX5_originalBetween 22 = .ok (.iaload, 1) := dl_o46 kcX5_originalBetween (by decide +kernel)
theorem dX5_originalBetween_23 : decode cX5_originalBetween 23 = .ok (.aload_n 3, 1) := dl_o45 kcX5_originalBetween (by decide +kernel)
theorem dX5_originalBetween_24 : decode cX5_originalBetween 24 = .ok (.getfield 207, 3) := dl_o180 kcX5_originalBetween (by decide +kernel)
theorem dX5_originalBetween_27 : decode cX5_originalBetween 27 = .ok (.iload 4, 2) := dl_o21 kcX5_originalBetween (by decide +kernel)
theorem dX5_originalBetween_29 : decode cX5_originalBetween 29 = .ok (.iaload, 1) := dl_o46 kcX5_originalBetween (by decide +kernel)
theorem dX5_originalBetween_30 : decode cX5_originalBetween 30 = .ok (.isub, 1) := dl_o100 kcX5_originalBetween (by decide +kernel)
theorem dX5_originalBetween_31 : decode cX5_originalBetween 31 = .ok (.i2l, 1) := dl_o133 kcX5_originalBetween (by decide +kernel)
theorem dX5_originalBetween_32 : decode cX5_originalBetween 32 = .ok (.lstore 7, 2) := dl_o55 kcX5_originalBetween (by decide +kernel)
theorem dX5_originalBetween_34 : decode cX5_originalBetween 34 = .ok (.lload 5, 2) := dl_o22 kcX5_originalBetween (by decide +kernel)
theorem dX5_originalBetween_36 : decode cX5_originalBetween 36 = .ok (.aload_n 0, 1) := dl_o42 kcX5_originalBetween (by decide +kernel)
theorem dX5_originalBetween_37 : decode cX5_originalBetween 37 = .ok (.getfield 12, 3) := dl_o180 kcX5_originalBetween (by decide +kernel)
theorem dX5_originalBetween_40 : decode cX5_originalBetween 40 = .ok (.getfield 192, 3) := dl_o180 kcX5_originalBetween (by decide +kernel)
theorem dX5_originalBetween_43 : decode cX5_originalBetween 43 = .ok (.i2l, 1) := dl_o133 kcX5_originalBetween (by decide +kernel)
theorem dX5_originalBetween_44 : decode cX5_originalBetween 44 = .ok (.lmul, 1) := dl_o105 kcX5_originalBetween (by decide +kernel)
theorem dX5_originalBetween_45 : decode cX5_originalBetween 45 = .ok (.lload 7, 2) := dl_o22 kcX5_originalBetween (by decide +kernel)
theorem dX5_originalBetween_47 : decode cX5_originalBetween 47 = .ok (.aload_n 0, 1) := dl_o42 kcX5_originalBetween (by decide +kernel)
theorem dX5_originalBetween_48 : decode cX5_originalBetween 48 = .ok (.getfield 12, 3) := dl_o180 kcX5_originalBetween (by decide +kernel)
theorem dX5_originalBetween_51 : decode cX5_originalBetween 51 = .ok (.getfield 195, 3) := dl_o180 kcX5_originalBetween (by decide +kernel)
theorem dX5_originalBetween_54 : decode cX5_originalBetween 54 = .ok (.i2l, 1) := dl_o133 kcX5_originalBetween (by decide +kernel)
theorem dX5_originalBetween_55 : decode cX5_originalBetween 55 = .ok (.lmul, 1) := dl_o105 kcX5_originalBetween (by decide +kernel)
theorem dX5_originalBetween_56 : decode cX5_originalBetween 56 = .ok (.ladd, 1) := dl_o97 kcX5_originalBetween (by decide +kernel)
theorem dX5_originalBetween_57 : decode cX5_originalBetween 57 = .ok (.ldc2_w 190, 3) := dl_o20 kcX5_originalBetween (by decide +kernel)
theorem dX5_originalBetween_60 : decode cX5_originalBetween 60 = .ok (.invokestatic 75, 3) := dl_o184 kcX5_originalBetween (by decide +kernel)
theorem dX5_originalBetween_63 : decode cX5_originalBetween 63 = .ok (.l2i, 1) := dl_o136 kcX5_originalBetween (by decide +kernel)
theorem dX5_originalBetween_64 : decode cX5_originalBetween 64 = .ok (.i2l, 1) := dl_o133 kcX5_originalBetween (by decide +kernel)
theorem dX5_originalBetween_65 : decode cX5_originalBetween 65 = .ok (.lreturn, 1) := dl_o173 kcX5_originalBetween (by decide +kernel)
def F_X5_originalBetween (l1 : Nat) (l2 : Int32) (l3 : Nat) (l4 : Int32) (V : sv_V) : Option (Int64 × sv_V) := if lay l1 = .inl 8 then (cr l1 2).bind (fun b2 => (sv_len 0 b2).bind (fun n4 => if sx_in l2 n4 = true then if lay l3 = .inl 8 then (cr l3 2).bind (fun b8 => (sv_len 0 b8).bind (fun n10 => if sx_in l4 n10 = true then sx_let (((V.1 b2 l2.toNatClampNeg) - (V.1 b8 l4.toNatClampNeg)).toInt64) (fun x13 => (cr l1 3).bind (fun b14 => (sv_len 0 b14).bind (fun n16 => if sx_in l2 n16 = true then (cr l3 3).bind (fun b19 => (sv_len 0 b19).bind (fun n21 => if sx_in l4 n21 = true then sx_let (((V.1 b14 l2.toNatClampNeg) - (V.1 b19 l4.toNatClampNeg)).toInt64) (fun x24 => (F_X11_nearest ((x13 * ((V.1 70 4).toInt64)) + (x24 * ((V.1 70 5).toInt64))) (16384 : Int64) V).bind (fun (x27, V25) => some (x27.toInt32.toInt64, V25))) else none)) else none))) else none)) else none else none)) else none
set_option maxRecDepth 20000 in
theorem t_X5_originalBetween {g : sx_G} (hG : sx_Go g) {P : Option Value → sv_V → Prop} {r : Int64} {Vr : sv_V} (hP : P (some (.long r)) Vr) {l1 : Nat} {l2 : Int32} {l3 : Nat} {l4 : Int32} {V : sv_V} (h : F_X5_originalBetween l1 l2 l3 l4 V = some (r, Vr)) : sv_N g qX5_originalBetween 1 0 [(0, .ref 69), (1, .ref l1), (2, .int l2), (3, .ref l3), (4, .int l4)] [] V P := by
  unfold F_X5_originalBetween at h
  refine sx_aload_n (pc := 0) dX5_originalBetween_0 sx_m1 ?_
  obtain ⟨g1, h⟩ := sx_grd h
  obtain ⟨b2, g3, h⟩ := sx_bnd h
  refine sv_getA (pc := 1) hG dX5_originalBetween_1 f_5_204 g1 rfl g3 ?_
  refine sx_iload_n (pc := 4) dX5_originalBetween_4 sx_m2 ?_
  obtain ⟨n4, g5, h⟩ := sx_bnd h
  obtain ⟨g6, h⟩ := sx_grd h
  refine sv_iald (pc := 5) hG dX5_originalBetween_5 (sv_len_e g5) g6 ?_
  refine sx_aload_n (pc := 6) dX5_originalBetween_6 sx_m3 ?_
  obtain ⟨g7, h⟩ := sx_grd h
  obtain ⟨b8, g9, h⟩ := sx_bnd h
  refine sv_getA (pc := 7) hG dX5_originalBetween_7 f_5_204 g7 rfl g9 ?_
  refine sx_iload (pc := 10) dX5_originalBetween_10 sx_m4 ?_
  obtain ⟨n10, g11, h⟩ := sx_bnd h
  obtain ⟨g12, h⟩ := sx_grd h
  refine sv_iald (pc := 12) hG dX5_originalBetween_12 (sv_len_e g11) g12 ?_
  refine sx_isub (pc := 13) dX5_originalBetween_13 ?_
  refine sx_i2l (pc := 14) dX5_originalBetween_14 ?_
  refine sv_tJ (fun x13 hx13 => ?_)
  have h := sx_letE hx13 h
  refine sx_lstore (pc := 15) (lo' := [(5, .long x13), (0, .ref 69), (1, .ref l1), (2, .int l2), (3, .ref l3), (4, .int l4)]) dX5_originalBetween_15 (by decide) rfl ?_
  refine sx_aload_n (pc := 17) dX5_originalBetween_17 sx_m2 ?_
  obtain ⟨b14, g15, h⟩ := sx_bnd h
  refine sv_getA (pc := 18) hG dX5_originalBetween_18 f_5_207 g1 rfl g15 ?_
  refine sx_iload_n (pc := 21) dX5_originalBetween_21 sx_m3 ?_
  obtain ⟨n16, g17, h⟩ := sx_bnd h
  obtain ⟨g18, h⟩ := sx_grd h
  refine sv_iald (pc := 22) hG dX5_originalBetween_22 (sv_len_e g17) g18 ?_
  refine sx_aload_n (pc := 23) dX5_originalBetween_23 sx_m4 ?_
  obtain ⟨b19, g20, h⟩ := sx_bnd h
  refine sv_getA (pc := 24) hG dX5_originalBetween_24 f_5_207 g7 rfl g20 ?_
  refine sx_iload (pc := 27) dX5_originalBetween_27 sx_m5 ?_
  obtain ⟨n21, g22, h⟩ := sx_bnd h
  obtain ⟨g23, h⟩ := sx_grd h
  refine sv_iald (pc := 29) hG dX5_originalBetween_29 (sv_len_e g22) g23 ?_
  refine sx_isub (pc := 30) dX5_originalBetween_30 ?_
  refine sx_i2l (pc := 31) dX5_originalBetween_31 ?_
  refine sv_tJ (fun x24 hx24 => ?_)
  have h := sx_letE hx24 h
  refine sx_lstore (pc := 32) (lo' := [(7, .long x24), (5, .long x13), (0, .ref 69), (1, .ref l1), (2, .int l2), (3, .ref l3), (4, .int l4)]) dX5_originalBetween_32 (by decide) rfl ?_
  refine sx_lload (pc := 34) dX5_originalBetween_34 sx_m1 ?_
  refine sx_aload_n (pc := 36) dX5_originalBetween_36 sx_m2 ?_
  refine sv_getO (pc := 37) hG dX5_originalBetween_37 f_5_12 lay_69 rfl cr_69_1 ?_
  refine sv_getI (pc := 40) hG dX5_originalBetween_40 f_5_192 lay_70 rfl ?_
  refine sx_i2l (pc := 43) dX5_originalBetween_43 ?_
  refine sx_lmul (pc := 44) dX5_originalBetween_44 ?_
  refine sx_lload (pc := 45) dX5_originalBetween_45 sx_m0 ?_
  refine sx_aload_n (pc := 47) dX5_originalBetween_47 sx_m2 ?_
  refine sv_getO (pc := 48) hG dX5_originalBetween_48 f_5_12 lay_69 rfl cr_69_1 ?_
  refine sv_getI (pc := 51) hG dX5_originalBetween_51 f_5_195 lay_70 rfl ?_
  refine sx_i2l (pc := 54) dX5_originalBetween_54 ?_
  refine sx_lmul (pc := 55) dX5_originalBetween_55 ?_
  refine sx_ladd (pc := 56) dX5_originalBetween_56 ?_
  refine sx_ldc2 (pc := 57) dX5_originalBetween_57 k_X5_190 ?_
  obtain ⟨⟨x27, V25⟩, g26, h⟩ := sx_bnd h
  refine sv_cN (pc := 60) (y := qX11_nearest) (o := (some (.long x27))) (as := [.long ((x13 * ((V.1 70 4).toInt64)) + (x24 * ((V.1 70 5).toInt64))), .long (16384 : Int64)]) (V1 := V25) dX5_originalBetween_60 n_X5_75 y0X11_nearest ysX11_nearest rfl (Nat.le_of_ble_eq_true rfl) (by decide) (Nat.le_of_ble_eq_true rfl) rfl rfl rfl (t_X11_nearest hG ⟨rfl, rfl⟩ g26) ?_
  refine sx_l2i (pc := 63) dX5_originalBetween_63 ?_
  refine sx_i2l (pc := 64) dX5_originalBetween_64 ?_
  exact sv_lret (pc := 65) dX5_originalBetween_65 rfl h hP
def ncX5_move : Nat := 8159999404820739576146553542303904413715675928757742683531396386215150143282324638455437319980131150978293950443055040087610571389572305229353814166600528929242871129845814647082981040757545380648501880147437010955368282390922073367400925054138900636727726646371643267682227493576087288155006872003170224557831210
theorem kcX5_move : CK cX5_move ncX5_move 130 := ⟨by decide +kernel, by decide +kernel⟩
theorem dX5_move_0 : decode cX5_move 0 = .ok (.aload_n 0, 1) := dl_o42 kcX5_move (by decide +kernel)
theorem dX5_move_1 : decode cX5_move 1 = .ok (.getfield 12, 3) := dl_o180 kcX5_move (by decide +kernel)
theorem dX5_move_4 : decode cX5_move 4 = .ok (.getfield 210, 3) := dl_o180 kcX5_move (by decide +kernel)
theorem dX5_move_7 : decode cX5_move 7 = .ok (.i2l, 1) := dl_o133 kcX5_move (by decide +kernel)
theorem dX5_move_8 : decode cX5_move 8 = .ok (.aload_n 0, 1) := dl_o42 kcX5_move (by decide +kernel)
theorem dX5_move_9 : decode cX5_move 9 = .ok (.getfield 12, 3) := dl_o180 kcX5_move (by decide +kernel)
theorem dX5_move_12 : decode cX5_move 12 = .ok (.getfield 184, 3) := dl_o180 kcX5_move (by decide +kernel)
theorem dX5_move_15 : decode cX5_move 15 = .ok (.i2l, 1) := dl_o133 kcX5_move (by decide +kernel)
theorem dX5_move_16 : decode cX5_move 16 = .ok (.lmul, 1) := dl_o105 kcX5_move (by decide +kernel)
theorem dX5_move_17 : decode cX5_move 17 = .ok (.aload_n 0, 1) := dl_o42 kcX5_move (by decide +kernel)
theorem dX5_move_18 : decode cX5_move 18 = .ok (.getfield 12, 3) := dl_o180 kcX5_move (by decide +kernel)
theorem dX5_move_21 : decode cX5_move 21 = .ok (.getfield 213, 3) := dl_o180 kcX5_move (by decide +kernel)
theorem dX5_move_24 : decode cX5_move 24 = .ok (.i2l, 1) := dl_o133 kcX5_move (by decide +kernel)
theorem dX5_move_25 : decode cX5_move 25 = .ok (.aload_n 0, 1) := dl_o42 kcX5_move (by decide +kernel)
theorem dX5_move_26 : decode cX5_move 26 = .ok (.getfield 12, 3) := dl_o180 kcX5_move (by decide +kernel)
theorem dX5_move_29 : decode cX5_move 29 = .ok (.getfield 187, 3) := dl_o180 kcX5_move (by decide +kernel)
theorem dX5_move_32 : decode cX5_move 32 = .ok (.i2l, 1) := dl_o133 kcX5_move (by decide +kernel)
theorem dX5_move_33 : decode cX5_move 33 = .ok (.lmul, 1) := dl_o105 kcX5_move (by decide +kernel)
theorem dX5_move_34 : decode cX5_move 34 = .ok (.ladd, 1) := dl_o97 kcX5_move (by decide +kernel)
theorem dX5_move_35 : decode cX5_move 35 = .ok (.ldc2_w 190, 3) := dl_o20 kcX5_move (by decide +kernel)
theorem dX5_move_38 : decode cX5_move 38 = .ok (.invokestatic 75, 3) := dl_o184 kcX5_move (by decide +kernel)
theorem dX5_move_41 : decode cX5_move 41 = .ok (.lstore 5, 2) := dl_o55 kcX5_move (by decide +kernel)
theorem dX5_move_43 : decode cX5_move 43 = .ok (.lload 5, 2) := dl_o22 kcX5_move (by decide +kernel)
theorem dX5_move_45 : decode cX5_move 45 = .ok (.ldc2_w 216, 3) := dl_o20 kcX5_move (by decide +kernel)
theorem dX5_move_48 : decode cX5_move 48 = .ok (.lcmp, 1) := dl_o148 kcX5_move (by decide +kernel)
theorem dX5_move_49 : decode cX5_move 49 = .ok (.ifCond .le 17, 3) := dl_o158 kcX5_move 17 (by decide +kernel) (by decide +kernel)
theorem dX5_move_52 : decode cX5_move 52 = .ok (.lload 5, 2) := dl_o22 kcX5_move (by decide +kernel)
theorem dX5_move_54 : decode cX5_move 54 = .ok (.ldc2_w 218, 3) := dl_o20 kcX5_move (by decide +kernel)
theorem dX5_move_57 : decode cX5_move 57 = .ok (.lcmp, 1) := dl_o148 kcX5_move (by decide +kernel)
theorem dX5_move_58 : decode cX5_move 58 = .ok (.ifCond .ge 8, 3) := dl_o156 kcX5_move 8 (by decide +kernel) (by decide +kernel)
theorem dX5_move_61 : decode cX5_move 61 = .ok (.ldc2_w 190, 3) := dl_o20 kcX5_move (by decide +kernel)
theorem dX5_move_64 : decode cX5_move 64 = .ok (.lstore 5, 2) := dl_o55 kcX5_move (by decide +kernel)
theorem dX5_move_66 : decode cX5_move 66 = .ok (.aload_n 1, 1) := dl_o43 kcX5_move (by decide +kernel)
theorem dX5_move_67 : decode cX5_move 67 = .ok (.getfield 198, 3) := dl_o180 kcX5_move (by decide +kernel)
theorem dX5_move_70 : decode cX5_move 70 = .ok (.iload_n 2, 1) := dl_o28 kcX5_move (by decide +kernel)
theorem dX5_move_71 : decode cX5_move 71 = .ok (.dup2, 1) := dl_o92 kcX5_move (by decide +kernel)
theorem dX5_move_72 : decode cX5_move 72 = .ok (.iaload, 1) := dl_o46 kcX5_move (by decide +kernel)
theorem dX5_move_73 : decode cX5_move 73 = .ok (.lload_n 3, 1) := dl_o33 kcX5_move (by decide +kernel)
theorem dX5_move_74 : decode cX5_move 74 = .ok (.aload_n 0, 1) := dl_o42 kcX5_move (by decide +kernel)
theorem dX5_move_75 : decode cX5_move 75 = .ok (.getfield 12, 3) := dl_o180 kcX5_move (by decide +kernel)
theorem dX5_move_78 : decode cX5_move 78 = .ok (.getfield 210, 3) := dl_o180 kcX5_move (by decide +kernel)
theorem dX5_move_81 : decode cX5_move 81 = .ok (.i2l, 1) := dl_o133 kcX5_move (by decide +kernel)
theorem dX5_move_82 : decode cX5_move 82 = .ok (.lmul, 1) := dl_o105 kcX5_move (by decide +kernel)
theorem dX5_move_83 : decode cX5_move 83 = .ok (.lload 5, 2) := dl_o22 kcX5_move (by decide +kernel)
theorem dX5_move_85 : decode cX5_move 85 = .ok (.invokestatic 75, 3) := dl_o184 kcX5_move (by decide +kernel)
theorem dX5_move_88 : decode cX5_move 88 = .ok (.l2i, 1) := dl_o136 kcX5_move (by decide +kernel)
theorem dX5_move_89 : decode cX5_move 89 = .ok (.iadd, 1) := dl_o96 kcX5_move (by decide +kernel)
theorem dX5_move_90 : decode cX5_move 90 = .ok (.iastore, 1) := dl_o79 kcX5_move (by decide +kernel)
theorem dX5_move_91 : decode cX5_move 91 = .ok (.aload_n 1, 1) := dl_o43 kcX5_move (by decide +kernel)
theorem dX5_move_92 : decode cX5_move 92 = .ok (.getfield 201, 3) := dl_o180 kcX5_move (by decide +kernel)
theorem dX5_move_95 : decode cX5_move 95 = .ok (.iload_n 2, 1) := dl_o28 kcX5_move (by decide +kernel)
theorem dX5_move_96 : decode cX5_move 96 = .ok (.dup2, 1) := dl_o92 kcX5_move (by decide +kernel)
theorem dX5_move_97 : decode cX5_move 97 = .ok (.iaload, 1) := dl_o46 kcX5_move (by decide +kernel)
theorem dX5_move_98 : decode cX5_move 98 = .ok (.lload_n 3, 1) := dl_o33 kcX5_move (by decide +kernel)
theorem dX5_move_99 : decode cX5_move 99 = .ok (.aload_n 0, 1) := dl_o42 kcX5_move (by decide +kernel)
theorem dX5_move_100 : decode cX5_move 100 = .ok (.getfield 12, 3) := dl_o180 kcX5_move (by decide +kernel)
theorem dX5_move_103 : decode cX5_move 103 = .ok (.getfield 213, 3) := dl_o180 kcX5_move (by decide +kernel)
theorem dX5_move_106 : decode cX5_move 106 = .ok (.i2l, 1) := dl_o133 kcX5_move (by decide +kernel)
theorem dX5_move_107 : decode cX5_move 107 = .ok (.lmul, 1) := dl_o105 kcX5_move (by decide +kernel)
theorem dX5_move_108 : decode cX5_move 108 = .ok (.lload 5, 2) := dl_o22 kcX5_move (by decide +kernel)
theorem dX5_move_110 : decode cX5_move 110 = .ok (.invokestatic 75, 3) := dl_o184 kcX5_move (by decide +kernel)
theorem dX5_move_113 : decode cX5_move 113 = .ok (.l2i, 1) := dl_o136 kcX5_move (by decide +kernel)
theorem dX5_move_114 : decode cX5_move 114 = .ok (.iadd, 1) := dl_o96 kcX5_move (by decide +kernel)
theorem dX5_move_115 : decode cX5_move 115 = .ok (.iastore, 1) := dl_o79 kcX5_move (by decide +kernel)
theorem dX5_move_116 : decode cX5_move 116 = .ok (.aload_n 1, 1) := dl_o43 kcX5_move (by decide +kernel)
theorem dX5_move_117 : decode cX5_move 117 = .ok (.getfield 220, 3) := dl_o180 kcX5_move (by decide +kernel)
theorem dX5_move_120 : decode cX5_move 120 = .ok (.iload_n 2, 1) := dl_o28 kcX5_move (by decide +kernel)
theorem dX5_move_121 : decode cX5_move 121 = .ok (.dup2, 1) := dl_o92 kcX5_move (by decide +kernel)
theorem dX5_move_122 : decode cX5_move 122 = .ok (.iaload, 1) := dl_o46 kcX5_move (by decide +kernel)
theorem dX5_move_123 : decode cX5_move 123 = .ok (.aload_n 0, 1) := dl_o42 kcX5_move (by decide +kernel)
theorem dX5_move_124 : decode cX5_move 124 = .ok (.invokevirtual 223, 3) := dl_o182 kcX5_move (by decide +kernel)
theorem dX5_move_127 : decode cX5_move 127 = .ok (.ior, 1) := dl_o128 kcX5_move (by decide +kernel)
theorem dX5_move_128 : decode cX5_move 128 = .ok (.iastore, 1) := dl_o79 kcX5_move (by decide +kernel)
theorem dX5_move_129 : decode cX5_move 129 = .ok (.return_, 1) := dl_o177 kcX5_move (by decide +kernel)
def B_X5_move_66  (l1 : Nat) (l2 : Int32) (l3 : Int64) (l5 : Int64) (V : sv_V) : Option sv_V := if lay l1 = .inl 8 then (cr l1 0).bind (fun b2 => (sv_len 0 b2).bind (fun n4 => if sx_in l2 n4 = true then (F_X11_nearest (l3 * ((V.1 70 0).toInt64)) l5 V).bind (fun (x9, V7) => if sx_in l2 n4 = true then sx_let (sv_I V7 b2 l2.toNatClampNeg ((V.1 b2 l2.toNatClampNeg) + x9.toInt32)) (fun V11 => (cr l1 1).bind (fun b12 => (sv_len 0 b12).bind (fun n14 => if sx_in l2 n14 = true then (F_X11_nearest (l3 * ((V11.1 70 1).toInt64)) l5 V11).bind (fun (x19, V17) => if sx_in l2 n14 = true then sx_let (sv_I V17 b12 l2.toNatClampNeg ((V11.1 b12 l2.toNatClampNeg) + x19.toInt32)) (fun V21 => (cr l1 4).bind (fun b22 => (sv_len 0 b22).bind (fun n24 => if sx_in l2 n24 = true then (F_X5_touchBits  V21).bind (fun (x29, V27) => if sx_in l2 n24 = true then sx_let (sv_I V27 b22 l2.toNatClampNeg ((V21.1 b22 l2.toNatClampNeg) ||| x29)) (fun V31 => some V31) else none) else none))) else none) else none))) else none) else none)) else none
set_option maxRecDepth 20000 in
theorem tB_X5_move_66 {g : sx_G} (hG : sx_Go g) {P : Option Value → sv_V → Prop} {Vr : sv_V} (hP : P none Vr)   {l1 : Nat} {l2 : Int32} {l3 : Int64} {l5 : Int64} {V : sv_V} (h : B_X5_move_66  l1 l2 l3 l5 V = some Vr) : sv_N g qX5_move 1 66 [(0, .ref 69), (1, .ref l1), (2, .int l2), (3, .long l3), (5, .long l5)] [] V P := by
  unfold B_X5_move_66 at h
  refine sx_aload_n (pc := 66) dX5_move_66 sx_m1 ?_
  obtain ⟨g1, h⟩ := sx_grd h
  obtain ⟨b2, g3, h⟩ := sx_bnd h
  refine sv_getA (pc := 67) hG dX5_move_67 f_5_198 g1 rfl g3 ?_
  refine sx_iload_n (pc := 70) dX5_move_70 sx_m2 ?_
  refine sx_dup2 (pc := 71) dX5_move_71 rfl rfl ?_
  obtain ⟨n4, g5, h⟩ := sx_bnd h
  obtain ⟨g6, h⟩ := sx_grd h
  refine sv_iald (pc := 72) hG dX5_move_72 (sv_len_e g5) g6 ?_
  refine sx_lload_n (pc := 73) dX5_move_73 sx_m3 ?_
  refine sx_aload_n (pc := 74) dX5_move_74 sx_m0 ?_
  refine sv_getO (pc := 75) hG dX5_move_75 f_5_12 lay_69 rfl cr_69_1 ?_
  refine sv_getI (pc := 78) hG dX5_move_78 f_5_210 lay_70 rfl ?_
  refine sx_i2l (pc := 81) dX5_move_81 ?_
  refine sx_lmul (pc := 82) dX5_move_82 ?_
  refine sx_lload (pc := 83) dX5_move_83 sx_m4 ?_
  obtain ⟨⟨x9, V7⟩, g8, h⟩ := sx_bnd h
  refine sv_cN (pc := 85) (y := qX11_nearest) (o := (some (.long x9))) (as := [.long (l3 * ((V.1 70 0).toInt64)), .long l5]) (V1 := V7) dX5_move_85 n_X5_75 y0X11_nearest ysX11_nearest rfl (Nat.le_of_ble_eq_true rfl) (by decide) (Nat.le_of_ble_eq_true rfl) rfl rfl rfl (t_X11_nearest hG ⟨rfl, rfl⟩ g8) ?_
  refine sx_l2i (pc := 88) dX5_move_88 ?_
  refine sx_iadd (pc := 89) dX5_move_89 ?_
  obtain ⟨g10, h⟩ := sx_grd h
  obtain ⟨V11, hV11⟩ : ∃ z : sv_V, z = sv_I V7 b2 l2.toNatClampNeg ((V.1 b2 l2.toNatClampNeg) + x9.toInt32) := ⟨_, rfl⟩
  have h := sx_letE hV11 h
  refine sv_iast (pc := 90) hG dX5_move_90 (sv_len_e g5) g10 hV11 ?_
  refine sx_aload_n (pc := 91) dX5_move_91 sx_m1 ?_
  obtain ⟨b12, g13, h⟩ := sx_bnd h
  refine sv_getA (pc := 92) hG dX5_move_92 f_5_201 g1 rfl g13 ?_
  refine sx_iload_n (pc := 95) dX5_move_95 sx_m2 ?_
  refine sx_dup2 (pc := 96) dX5_move_96 rfl rfl ?_
  obtain ⟨n14, g15, h⟩ := sx_bnd h
  obtain ⟨g16, h⟩ := sx_grd h
  refine sv_iald (pc := 97) hG dX5_move_97 (sv_len_e g15) g16 ?_
  refine sx_lload_n (pc := 98) dX5_move_98 sx_m3 ?_
  refine sx_aload_n (pc := 99) dX5_move_99 sx_m0 ?_
  refine sv_getO (pc := 100) hG dX5_move_100 f_5_12 lay_69 rfl cr_69_1 ?_
  refine sv_getI (pc := 103) hG dX5_move_103 f_5_213 lay_70 rfl ?_
  refine sx_i2l (pc := 106) dX5_move_106 ?_
  refine sx_lmul (pc := 107) dX5_move_107 ?_
  refine sx_lload (pc := 108) dX5_move_108 sx_m4 ?_
  obtain ⟨⟨x19, V17⟩, g18, h⟩ := sx_bnd h
  refine sv_cN (pc := 110) (y := qX11_nearest) (o := (some (.long x19))) (as := [.long (l3 * ((V11.1 70 1).toInt64)), .long l5]) (V1 := V17) dX5_move_110 n_X5_75 y0X11_nearest ysX11_nearest rfl (Nat.le_of_ble_eq_true rfl) (by decide) (Nat.le_of_ble_eq_true rfl) rfl rfl rfl (t_X11_nearest hG ⟨rfl, rfl⟩ g18) ?_
  refine sx_l2i (pc := 113) dX5_move_113 ?_
  refine sx_iadd (pc := 114) dX5_move_114 ?_
  obtain ⟨g20, h⟩ := sx_grd h
  obtain ⟨V21, hV21⟩ : ∃ z : sv_V, z = sv_I V17 b12 l2.toNatClampNeg ((V11.1 b12 l2.toNatClampNeg) + x19.toInt32) := ⟨_, rfl⟩
  have h := sx_letE hV21 h
  refine sv_iast (pc := 115) hG dX5_move_115 (sv_len_e g15) g20 hV21 ?_
  refine sx_aload_n (pc := 116) dX5_move_116 sx_m1 ?_
  obtain ⟨b22, g23, h⟩ := sx_bnd h
  refine sv_getA (pc := 117) hG dX5_move_117 f_5_220 g1 rfl g23 ?_
  refine sx_iload_n (pc := 120) dX5_move_120 sx_m2 ?_
  refine sx_dup2 (pc := 121) dX5_move_121 rfl rfl ?_
  obtain ⟨n24, g25, h⟩ := sx_bnd h
  obtain ⟨g26, h⟩ := sx_grd h
  refine sv_iald (pc := 122) hG dX5_move_122 (sv_len_e g25) g26 ?_
  refine sx_aload_n (pc := 123) dX5_move_123 sx_m0 ?_
  obtain ⟨⟨x29, V27⟩, g28, h⟩ := sx_bnd h
  refine sv_cV (pc := 124) (y := qX5_touchBits) (o := (some (.int x29))) (as := []) (V1 := V27) hG dX5_move_124 l_X5_223 y0X5_touchBits yvX5_touchBits rfl (Nat.le_of_ble_eq_true rfl) lay_69 kr_5 (by decide) (Nat.le_of_ble_eq_true rfl) rfl rfl rfl (t_X5_touchBits hG ⟨rfl, rfl⟩ g28) ?_
  refine sx_ior (pc := 127) dX5_move_127 ?_
  obtain ⟨g30, h⟩ := sx_grd h
  obtain ⟨V31, hV31⟩ : ∃ z : sv_V, z = sv_I V27 b22 l2.toNatClampNeg ((V21.1 b22 l2.toNatClampNeg) ||| x29) := ⟨_, rfl⟩
  have h := sx_letE hV31 h
  refine sv_iast (pc := 128) hG dX5_move_128 (sv_len_e g25) g30 hV31 ?_
  exact sv_vret (pc := 129) dX5_move_129 rfl h hP
def F_X5_move (l1 : Nat) (l2 : Int32) (l3 : Int64) (V : sv_V) : Option sv_V := (F_X11_nearest ((((V.1 70 0).toInt64) * ((V.1 70 2).toInt64)) + (((V.1 70 1).toInt64) * ((V.1 70 3).toInt64))) (16384 : Int64) V).bind (fun (x34, V32) => if (lg_cmp x34 (-1024 : Int64)) ≤ 0 then (B_X5_move_66  l1 l2 l3 x34 V32) else (if 0 ≤ (lg_cmp x34 (1024 : Int64)) then (B_X5_move_66  l1 l2 l3 x34 V32) else (B_X5_move_66  l1 l2 l3 (16384 : Int64) V32)))
set_option maxRecDepth 20000 in
theorem t_X5_move {g : sx_G} (hG : sx_Go g) {P : Option Value → sv_V → Prop} {Vr : sv_V} (hP : P none Vr) {l1 : Nat} {l2 : Int32} {l3 : Int64} {V : sv_V} (h : F_X5_move l1 l2 l3 V = some Vr) : sv_N g qX5_move 1 0 [(0, .ref 69), (1, .ref l1), (2, .int l2), (3, .long l3)] [] V P := by
  unfold F_X5_move at h
  refine sx_aload_n (pc := 0) dX5_move_0 sx_m0 ?_
  refine sv_getO (pc := 1) hG dX5_move_1 f_5_12 lay_69 rfl cr_69_1 ?_
  refine sv_getI (pc := 4) hG dX5_move_4 f_5_210 lay_70 rfl ?_
  refine sx_i2l (pc := 7) dX5_move_7 ?_
  refine sx_aload_n (pc := 8) dX5_move_8 sx_m0 ?_
  refine sv_getO (pc := 9) hG dX5_move_9 f_5_12 lay_69 rfl cr_69_1 ?_
  refine sv_getI (pc := 12) hG dX5_move_12 f_5_184 lay_70 rfl ?_
  refine sx_i2l (pc := 15) dX5_move_15 ?_
  refine sx_lmul (pc := 16) dX5_move_16 ?_
  refine sx_aload_n (pc := 17) dX5_move_17 sx_m0 ?_
  refine sv_getO (pc := 18) hG dX5_move_18 f_5_12 lay_69 rfl cr_69_1 ?_
  refine sv_getI (pc := 21) hG dX5_move_21 f_5_213 lay_70 rfl ?_
  refine sx_i2l (pc := 24) dX5_move_24 ?_
  refine sx_aload_n (pc := 25) dX5_move_25 sx_m0 ?_
  refine sv_getO (pc := 26) hG dX5_move_26 f_5_12 lay_69 rfl cr_69_1 ?_
  refine sv_getI (pc := 29) hG dX5_move_29 f_5_187 lay_70 rfl ?_
  refine sx_i2l (pc := 32) dX5_move_32 ?_
  refine sx_lmul (pc := 33) dX5_move_33 ?_
  refine sx_ladd (pc := 34) dX5_move_34 ?_
  refine sx_ldc2 (pc := 35) dX5_move_35 k_X5_190 ?_
  obtain ⟨⟨x34, V32⟩, g33, h⟩ := sx_bnd h
  refine sv_cN (pc := 38) (y := qX11_nearest) (o := (some (.long x34))) (as := [.long ((((V.1 70 0).toInt64) * ((V.1 70 2).toInt64)) + (((V.1 70 1).toInt64) * ((V.1 70 3).toInt64))), .long (16384 : Int64)]) (V1 := V32) dX5_move_38 n_X5_75 y0X11_nearest ysX11_nearest rfl (Nat.le_of_ble_eq_true rfl) (by decide) (Nat.le_of_ble_eq_true rfl) rfl rfl rfl (t_X11_nearest hG ⟨rfl, rfl⟩ g33) ?_
  refine sx_lstore (pc := 41) (lo' := [(5, .long x34), (0, .ref 69), (1, .ref l1), (2, .int l2), (3, .long l3)]) dX5_move_41 (by decide) rfl ?_
  refine sx_lload (pc := 43) dX5_move_43 sx_m0 ?_
  refine sx_ldc2 (pc := 45) dX5_move_45 k_X5_216 ?_
  refine sx_lcmp (pc := 48) dX5_move_48 ?_
  refine sx_if_le (pc := 49) (tgt := 66) dX5_move_49 (by decide) (fun c35 => ?_) (fun c35 => ?_)
  · have h := sx_pos c35 h
    refine sx_wk (sx_s1 sx_m1 (sx_s1 sx_m2 (sx_s1 sx_m3 (sx_s1 sx_m4 (sx_s1 sx_m0 sx_s0))))) ?_
    exact tB_X5_move_66 hG hP  h
  · have h := sx_neg c35 h
    refine sx_lload (pc := 52) dX5_move_52 sx_m0 ?_
    refine sx_ldc2 (pc := 54) dX5_move_54 k_X5_218 ?_
    refine sx_lcmp (pc := 57) dX5_move_57 ?_
    refine sx_if_ge (pc := 58) (tgt := 66) dX5_move_58 (by decide) (fun c36 => ?_) (fun c36 => ?_)
    · have h := sx_pos c36 h
      refine sx_wk (sx_s1 sx_m1 (sx_s1 sx_m2 (sx_s1 sx_m3 (sx_s1 sx_m4 (sx_s1 sx_m0 sx_s0))))) ?_
      exact tB_X5_move_66 hG hP  h
    · have h := sx_neg c36 h
      refine sx_ldc2 (pc := 61) dX5_move_61 k_X5_190 ?_
      refine sx_lstore (pc := 64) (lo' := [(5, .long (16384 : Int64)), (0, .ref 69), (1, .ref l1), (2, .int l2), (3, .long l3)]) dX5_move_64 (by decide) rfl ?_
      refine sx_wk (sx_s1 sx_m1 (sx_s1 sx_m2 (sx_s1 sx_m3 (sx_s1 sx_m4 (sx_s1 sx_m0 sx_s0))))) ?_
      exact tB_X5_move_66 hG hP  h
def ncX5_settingCodes : Nat := 248025450915078443599218337052452031668380052085140298523886821189122374712293974554932197210831400753406090197801646749706295106865754612582727787524512912213970781041387237767660217418551494151867097062497509988274436763102097613143717715748135314680043378665912125747378671940568559970137014316837826107369778353052446888507074281320634395428086691490964535016079331107593683734547276931959809731228065644927421205196319538114906886125036118225872656143240578068222698011858114248427968989837644903804304107992783095698147822181309028748539838345342958421647986093621375450470446046798027469163669830209067756985801456951431261061387392008110633460277519497800212163832787763148280548504835652105945342810074590590693018406227271015257134334130
theorem kcX5_settingCodes : CK cX5_settingCodes ncX5_settingCodes 310 := ⟨by decide +kernel, by decide +kernel⟩
theorem dX5_settingCodes_0 : decode cX5_settingCodes 0 = .ok (.getstatic 160, 3) := dl_o178 kcX5_settingCodes (by decide +kernel)
theorem dX5_settingCodes_3 : decode cX5_settingCodes 3 = .ok (.iload_n 1, 1) := dl_o27 kcX5_settingCodes (by decide +kernel)
theorem dX5_settingCodes_4 : decode cX5_settingCodes 4 = .ok (.iaload, 1) := dl_o46 kcX5_settingCodes (by decide +kernel)
theorem dX5_settingCodes_5 : decode cX5_settingCodes 5 = .ok (.iconst 1, 1) := dl_o4 kcX5_settingCodes (by decide +kernel)
theorem dX5_settingCodes_6 : decode cX5_settingCodes 6 = .ok (.if_icmp .ne 10, 3) := dl_o160 kcX5_settingCodes 10 (by decide +kernel) (by decide +kernel)
theorem dX5_settingCodes_9 : decode cX5_settingCodes 9 = .ok (.aload_n 0, 1) := dl_o42 kcX5_settingCodes (by decide +kernel)
theorem dX5_settingCodes_10 : decode cX5_settingCodes 10 = .ok (.invokevirtual 242, 3) := dl_o182 kcX5_settingCodes (by decide +kernel)
theorem dX5_settingCodes_13 : decode cX5_settingCodes 13 = .ok (.goto 4, 3) := dl_o167 kcX5_settingCodes 4 (by decide +kernel) (by decide +kernel)
theorem dX5_settingCodes_16 : decode cX5_settingCodes 16 = .ok (.iconst 0, 1) := dl_o3 kcX5_settingCodes (by decide +kernel)
theorem dX5_settingCodes_17 : decode cX5_settingCodes 17 = .ok (.istore_n 2, 1) := dl_o61 kcX5_settingCodes (by decide +kernel)
theorem dX5_settingCodes_18 : decode cX5_settingCodes 18 = .ok (.aload_n 0, 1) := dl_o42 kcX5_settingCodes (by decide +kernel)
theorem dX5_settingCodes_19 : decode cX5_settingCodes 19 = .ok (.getfield 49, 3) := dl_o180 kcX5_settingCodes (by decide +kernel)
theorem dX5_settingCodes_22 : decode cX5_settingCodes 22 = .ok (.getfield 272, 3) := dl_o180 kcX5_settingCodes (by decide +kernel)
theorem dX5_settingCodes_25 : decode cX5_settingCodes 25 = .ok (.astore_n 3, 1) := dl_o78 kcX5_settingCodes (by decide +kernel)
theorem dX5_settingCodes_26 : decode cX5_settingCodes 26 = .ok (.iload_n 1, 1) := dl_o27 kcX5_settingCodes (by decide +kernel)
theorem dX5_settingCodes_27 : decode cX5_settingCodes 27 = .ok (.lookupswitch 274 #[(16, 169), (17, 169), (18, 169), (19, 183), (20, 183), (21, 183), (22, 183), (23, 190), (26, 196), (29, 201), (30, 206), (31, 211), (77, 222), (78, 227), (94, 232), (95, 237), (118, 243), (119, 243), (133, 262), (141, 268)], 169) := by decide +kernel
theorem dX5_settingCodes_196 : decode cX5_settingCodes 196 = .ok (.aload_n 0, 1) := dl_o42 kcX5_settingCodes (by decide +kernel)
theorem dX5_settingCodes_197 : decode cX5_settingCodes 197 = .ok (.getfield 12, 3) := dl_o180 kcX5_settingCodes (by decide +kernel)
theorem dX5_settingCodes_200 : decode cX5_settingCodes 200 = .ok (.getfield 275, 3) := dl_o180 kcX5_settingCodes (by decide +kernel)
theorem dX5_settingCodes_203 : decode cX5_settingCodes 203 = .ok (.iload_n 1, 1) := dl_o27 kcX5_settingCodes (by decide +kernel)
theorem dX5_settingCodes_204 : decode cX5_settingCodes 204 = .ok (.bipush 16, 2) := dl_o16 kcX5_settingCodes 16 (by decide +kernel) (by decide +kernel)
theorem dX5_settingCodes_206 : decode cX5_settingCodes 206 = .ok (.isub, 1) := dl_o100 kcX5_settingCodes (by decide +kernel)
theorem dX5_settingCodes_207 : decode cX5_settingCodes 207 = .ok (.iload_n 2, 1) := dl_o28 kcX5_settingCodes (by decide +kernel)
theorem dX5_settingCodes_208 : decode cX5_settingCodes 208 = .ok (.iastore, 1) := dl_o79 kcX5_settingCodes (by decide +kernel)
theorem dX5_settingCodes_209 : decode cX5_settingCodes 209 = .ok (.return_, 1) := dl_o177 kcX5_settingCodes (by decide +kernel)
theorem dX5_settingCodes_210 : decode cX5_settingCodes 210 = .ok (.aload_n 0, 1) := dl_o42 kcX5_settingCodes (by decide +kernel)
theorem dX5_settingCodes_211 : decode cX5_settingCodes 211 = .ok (.iload_n 1, 1) := dl_o27 kcX5_settingCodes (by decide +kernel)
theorem dX5_settingCodes_212 : decode cX5_settingCodes 212 = .ok (.iload_n 2, 1) := dl_o28 kcX5_settingCodes (by decide +kernel)
theorem dX5_settingCodes_213 : decode cX5_settingCodes 213 = .ok (.invokevirtual 278, 3) := dl_o182 kcX5_settingCodes (by decide +kernel)
theorem dX5_settingCodes_216 : decode cX5_settingCodes 216 = .ok (.return_, 1) := dl_o177 kcX5_settingCodes (by decide +kernel)
theorem dX5_settingCodes_217 : decode cX5_settingCodes 217 = .ok (.aload_n 0, 1) := dl_o42 kcX5_settingCodes (by decide +kernel)
theorem dX5_settingCodes_218 : decode cX5_settingCodes 218 = .ok (.iload_n 2, 1) := dl_o28 kcX5_settingCodes (by decide +kernel)
theorem dX5_settingCodes_219 : decode cX5_settingCodes 219 = .ok (.invokevirtual 281, 3) := dl_o182 kcX5_settingCodes (by decide +kernel)
theorem dX5_settingCodes_222 : decode cX5_settingCodes 222 = .ok (.return_, 1) := dl_o177 kcX5_settingCodes (by decide +kernel)
theorem dX5_settingCodes_223 : decode cX5_settingCodes 223 = .ok (.aload_n 3, 1) := dl_o45 kcX5_settingCodes (by decide +kernel)
theorem dX5_settingCodes_224 : decode cX5_settingCodes 224 = .ok (.iconst 3, 1) := dl_o6 kcX5_settingCodes (by decide +kernel)
theorem dX5_settingCodes_225 : decode cX5_settingCodes 225 = .ok (.iload_n 2, 1) := dl_o28 kcX5_settingCodes (by decide +kernel)
theorem dX5_settingCodes_226 : decode cX5_settingCodes 226 = .ok (.iastore, 1) := dl_o79 kcX5_settingCodes (by decide +kernel)
theorem dX5_settingCodes_227 : decode cX5_settingCodes 227 = .ok (.return_, 1) := dl_o177 kcX5_settingCodes (by decide +kernel)
theorem dX5_settingCodes_228 : decode cX5_settingCodes 228 = .ok (.aload_n 3, 1) := dl_o45 kcX5_settingCodes (by decide +kernel)
theorem dX5_settingCodes_229 : decode cX5_settingCodes 229 = .ok (.iconst 0, 1) := dl_o3 kcX5_settingCodes (by decide +kernel)
theorem dX5_settingCodes_230 : decode cX5_settingCodes 230 = .ok (.iload_n 2, 1) := dl_o28 kcX5_settingCodes (by decide +kernel)
theorem dX5_settingCodes_231 : decode cX5_settingCodes 231 = .ok (.iastore, 1) := dl_o79 kcX5_settingCodes (by decide +kernel)
theorem dX5_settingCodes_232 : decode cX5_settingCodes 232 = .ok (.return_, 1) := dl_o177 kcX5_settingCodes (by decide +kernel)
theorem dX5_settingCodes_233 : decode cX5_settingCodes 233 = .ok (.aload_n 3, 1) := dl_o45 kcX5_settingCodes (by decide +kernel)
theorem dX5_settingCodes_234 : decode cX5_settingCodes 234 = .ok (.iconst 2, 1) := dl_o5 kcX5_settingCodes (by decide +kernel)
theorem dX5_settingCodes_235 : decode cX5_settingCodes 235 = .ok (.iload_n 2, 1) := dl_o28 kcX5_settingCodes (by decide +kernel)
theorem dX5_settingCodes_236 : decode cX5_settingCodes 236 = .ok (.iastore, 1) := dl_o79 kcX5_settingCodes (by decide +kernel)
theorem dX5_settingCodes_237 : decode cX5_settingCodes 237 = .ok (.return_, 1) := dl_o177 kcX5_settingCodes (by decide +kernel)
theorem dX5_settingCodes_238 : decode cX5_settingCodes 238 = .ok (.aload_n 3, 1) := dl_o45 kcX5_settingCodes (by decide +kernel)
theorem dX5_settingCodes_239 : decode cX5_settingCodes 239 = .ok (.iconst 1, 1) := dl_o4 kcX5_settingCodes (by decide +kernel)
theorem dX5_settingCodes_240 : decode cX5_settingCodes 240 = .ok (.aload_n 0, 1) := dl_o42 kcX5_settingCodes (by decide +kernel)
theorem dX5_settingCodes_241 : decode cX5_settingCodes 241 = .ok (.iload_n 2, 1) := dl_o28 kcX5_settingCodes (by decide +kernel)
theorem dX5_settingCodes_242 : decode cX5_settingCodes 242 = .ok (.i2l, 1) := dl_o133 kcX5_settingCodes (by decide +kernel)
theorem dX5_settingCodes_243 : decode cX5_settingCodes 243 = .ok (.invokevirtual 284, 3) := dl_o182 kcX5_settingCodes (by decide +kernel)
theorem dX5_settingCodes_246 : decode cX5_settingCodes 246 = .ok (.l2i, 1) := dl_o136 kcX5_settingCodes (by decide +kernel)
theorem dX5_settingCodes_247 : decode cX5_settingCodes 247 = .ok (.iastore, 1) := dl_o79 kcX5_settingCodes (by decide +kernel)
theorem dX5_settingCodes_248 : decode cX5_settingCodes 248 = .ok (.return_, 1) := dl_o177 kcX5_settingCodes (by decide +kernel)
theorem dX5_settingCodes_249 : decode cX5_settingCodes 249 = .ok (.aload_n 3, 1) := dl_o45 kcX5_settingCodes (by decide +kernel)
theorem dX5_settingCodes_250 : decode cX5_settingCodes 250 = .ok (.iconst 4, 1) := dl_o7 kcX5_settingCodes (by decide +kernel)
theorem dX5_settingCodes_251 : decode cX5_settingCodes 251 = .ok (.iconst 1, 1) := dl_o4 kcX5_settingCodes (by decide +kernel)
theorem dX5_settingCodes_252 : decode cX5_settingCodes 252 = .ok (.iastore, 1) := dl_o79 kcX5_settingCodes (by decide +kernel)
theorem dX5_settingCodes_253 : decode cX5_settingCodes 253 = .ok (.return_, 1) := dl_o177 kcX5_settingCodes (by decide +kernel)
theorem dX5_settingCodes_254 : decode cX5_settingCodes 254 = .ok (.aload_n 3, 1) := dl_o45 kcX5_settingCodes (by decide +kernel)
theorem dX5_settingCodes_255 : decode cX5_settingCodes 255 = .ok (.iconst 4, 1) := dl_o7 kcX5_settingCodes (by decide +kernel)
theorem dX5_settingCodes_256 : decode cX5_settingCodes 256 = .ok (.iconst 0, 1) := dl_o3 kcX5_settingCodes (by decide +kernel)
theorem dX5_settingCodes_257 : decode cX5_settingCodes 257 = .ok (.iastore, 1) := dl_o79 kcX5_settingCodes (by decide +kernel)
theorem dX5_settingCodes_258 : decode cX5_settingCodes 258 = .ok (.return_, 1) := dl_o177 kcX5_settingCodes (by decide +kernel)
theorem dX5_settingCodes_259 : decode cX5_settingCodes 259 = .ok (.aload_n 3, 1) := dl_o45 kcX5_settingCodes (by decide +kernel)
theorem dX5_settingCodes_260 : decode cX5_settingCodes 260 = .ok (.iconst 5, 1) := dl_o8 kcX5_settingCodes (by decide +kernel)
theorem dX5_settingCodes_261 : decode cX5_settingCodes 261 = .ok (.iload_n 2, 1) := dl_o28 kcX5_settingCodes (by decide +kernel)
theorem dX5_settingCodes_262 : decode cX5_settingCodes 262 = .ok (.iastore, 1) := dl_o79 kcX5_settingCodes (by decide +kernel)
theorem dX5_settingCodes_263 : decode cX5_settingCodes 263 = .ok (.return_, 1) := dl_o177 kcX5_settingCodes (by decide +kernel)
theorem dX5_settingCodes_264 : decode cX5_settingCodes 264 = .ok (.aload_n 0, 1) := dl_o42 kcX5_settingCodes (by decide +kernel)
theorem dX5_settingCodes_265 : decode cX5_settingCodes 265 = .ok (.iload_n 2, 1) := dl_o28 kcX5_settingCodes (by decide +kernel)
theorem dX5_settingCodes_266 : decode cX5_settingCodes 266 = .ok (.invokevirtual 288, 3) := dl_o182 kcX5_settingCodes (by decide +kernel)
theorem dX5_settingCodes_269 : decode cX5_settingCodes 269 = .ok (.return_, 1) := dl_o177 kcX5_settingCodes (by decide +kernel)
theorem dX5_settingCodes_270 : decode cX5_settingCodes 270 = .ok (.aload_n 0, 1) := dl_o42 kcX5_settingCodes (by decide +kernel)
theorem dX5_settingCodes_271 : decode cX5_settingCodes 271 = .ok (.getfield 12, 3) := dl_o180 kcX5_settingCodes (by decide +kernel)
theorem dX5_settingCodes_274 : decode cX5_settingCodes 274 = .ok (.iload_n 2, 1) := dl_o28 kcX5_settingCodes (by decide +kernel)
theorem dX5_settingCodes_275 : decode cX5_settingCodes 275 = .ok (.iload_n 1, 1) := dl_o27 kcX5_settingCodes (by decide +kernel)
theorem dX5_settingCodes_276 : decode cX5_settingCodes 276 = .ok (.invokevirtual 291, 3) := dl_o182 kcX5_settingCodes (by decide +kernel)
theorem dX5_settingCodes_279 : decode cX5_settingCodes 279 = .ok (.ifCond .ne 9, 3) := dl_o154 kcX5_settingCodes 9 (by decide +kernel) (by decide +kernel)
theorem dX5_settingCodes_282 : decode cX5_settingCodes 282 = .ok (.aload_n 0, 1) := dl_o42 kcX5_settingCodes (by decide +kernel)
theorem dX5_settingCodes_283 : decode cX5_settingCodes 283 = .ok (.bipush 11, 2) := dl_o16 kcX5_settingCodes 11 (by decide +kernel) (by decide +kernel)
theorem dX5_settingCodes_285 : decode cX5_settingCodes 285 = .ok (.putfield 56, 3) := dl_o181 kcX5_settingCodes (by decide +kernel)
theorem dX5_settingCodes_288 : decode cX5_settingCodes 288 = .ok (.return_, 1) := dl_o177 kcX5_settingCodes (by decide +kernel)
theorem dX5_settingCodes_289 : decode cX5_settingCodes 289 = .ok (.aload_n 3, 1) := dl_o45 kcX5_settingCodes (by decide +kernel)
theorem dX5_settingCodes_290 : decode cX5_settingCodes 290 = .ok (.bipush 7, 2) := dl_o16 kcX5_settingCodes 7 (by decide +kernel) (by decide +kernel)
theorem dX5_settingCodes_292 : decode cX5_settingCodes 292 = .ok (.iload_n 2, 1) := dl_o28 kcX5_settingCodes (by decide +kernel)
theorem dX5_settingCodes_293 : decode cX5_settingCodes 293 = .ok (.iastore, 1) := dl_o79 kcX5_settingCodes (by decide +kernel)
theorem dX5_settingCodes_294 : decode cX5_settingCodes 294 = .ok (.return_, 1) := dl_o177 kcX5_settingCodes (by decide +kernel)
theorem dX5_settingCodes_295 : decode cX5_settingCodes 295 = .ok (.aload_n 3, 1) := dl_o45 kcX5_settingCodes (by decide +kernel)
theorem dX5_settingCodes_296 : decode cX5_settingCodes 296 = .ok (.bipush 8, 2) := dl_o16 kcX5_settingCodes 8 (by decide +kernel) (by decide +kernel)
theorem dX5_settingCodes_298 : decode cX5_settingCodes 298 = .ok (.iload_n 2, 1) := dl_o28 kcX5_settingCodes (by decide +kernel)
theorem dX5_settingCodes_299 : decode cX5_settingCodes 299 = .ok (.iastore, 1) := dl_o79 kcX5_settingCodes (by decide +kernel)
theorem dX5_settingCodes_300 : decode cX5_settingCodes 300 = .ok (.return_, 1) := dl_o177 kcX5_settingCodes (by decide +kernel)
theorem dX5_settingCodes_301 : decode cX5_settingCodes 301 = .ok (.aload_n 0, 1) := dl_o42 kcX5_settingCodes (by decide +kernel)
theorem dX5_settingCodes_302 : decode cX5_settingCodes 302 = .ok (.getfield 12, 3) := dl_o180 kcX5_settingCodes (by decide +kernel)
theorem dX5_settingCodes_305 : decode cX5_settingCodes 305 = .ok (.iload_n 1, 1) := dl_o27 kcX5_settingCodes (by decide +kernel)
theorem dX5_settingCodes_306 : decode cX5_settingCodes 306 = .ok (.invokevirtual 295, 3) := dl_o182 kcX5_settingCodes (by decide +kernel)
theorem dX5_settingCodes_309 : decode cX5_settingCodes 309 = .ok (.return_, 1) := dl_o177 kcX5_settingCodes (by decide +kernel)
def B_X5_settingCodes_196 (N : Nat)  (l1 : Int32) (l2 : Int32) (V : sv_V) : Option sv_V := if sx_in (l1 - (16 : Int32)) 3 = true then sx_let (sv_I V 71 (l1 - (16 : Int32)).toNatClampNeg l2) (fun V2 => some V2) else none
set_option maxRecDepth 20000 in
theorem tB_X5_settingCodes_196 {g : sx_G} (hG : sx_Go g) {P : Option Value → sv_V → Prop} {Vr : sv_V} (hP : P none Vr) {N : Nat}   {l1 : Int32} {l2 : Int32} {V : sv_V} (h : B_X5_settingCodes_196 N  l1 l2 V = some Vr) : sv_N g qX5_settingCodes 2 196 [(0, .ref 69), (1, .int l1), (2, .int l2)] [] V P := by
  unfold B_X5_settingCodes_196 at h
  refine sx_aload_n (pc := 196) dX5_settingCodes_196 sx_m0 ?_
  refine sv_getO (pc := 197) hG dX5_settingCodes_197 f_5_12 lay_69 rfl cr_69_1 ?_
  refine sv_getA (pc := 200) hG dX5_settingCodes_200 f_5_275 lay_70 rfl cr_70_6 ?_
  refine sx_iload_n (pc := 203) dX5_settingCodes_203 sx_m1 ?_
  refine sx_bipush (pc := 204) (v := 16) dX5_settingCodes_204 (by decide) ?_
  refine sx_isub (pc := 206) dX5_settingCodes_206 ?_
  refine sx_iload_n (pc := 207) dX5_settingCodes_207 sx_m2 ?_
  obtain ⟨g1, h⟩ := sx_grd h
  obtain ⟨V2, hV2⟩ : ∃ z : sv_V, z = sv_I V 71 (l1 - (16 : Int32)).toNatClampNeg l2 := ⟨_, rfl⟩
  have h := sx_letE hV2 h
  refine sv_iast (pc := 208) hG dX5_settingCodes_208 lay_71 g1 hV2 ?_
  exact sv_vret (pc := 209) dX5_settingCodes_209 rfl h hP
def B_X5_settingCodes_210 (N : Nat)  (l1 : Int32) (l2 : Int32) (V : sv_V) : Option sv_V := (F_X5_setZones N l1 l2 V).bind (fun V3 => some V3)
set_option maxRecDepth 20000 in
theorem tB_X5_settingCodes_210 {g : sx_G} (hG : sx_Go g) {P : Option Value → sv_V → Prop} {Vr : sv_V} (hP : P none Vr) {N : Nat}   {l1 : Int32} {l2 : Int32} {V : sv_V} (h : B_X5_settingCodes_210 N  l1 l2 V = some Vr) : sv_N g qX5_settingCodes 2 210 [(0, .ref 69), (1, .int l1), (2, .int l2)] [] V P := by
  unfold B_X5_settingCodes_210 at h
  refine sx_aload_n (pc := 210) dX5_settingCodes_210 sx_m0 ?_
  refine sx_iload_n (pc := 211) dX5_settingCodes_211 sx_m1 ?_
  refine sx_iload_n (pc := 212) dX5_settingCodes_212 sx_m2 ?_
  obtain ⟨V3, g4, h⟩ := sx_bnd h
  refine sv_cV (pc := 213) (y := qX5_setZones) (o := none) (as := [.int l1, .int l2]) (V1 := V3) hG dX5_settingCodes_213 l_X5_278 y0X5_setZones yvX5_setZones rfl (Nat.le_of_ble_eq_true rfl) lay_69 kr_5 (by decide) (Nat.le_of_ble_eq_true rfl) rfl rfl rfl (t_X5_setZones hG ⟨rfl, rfl⟩ g4) ?_
  exact sv_vret (pc := 216) dX5_settingCodes_216 rfl h hP
def B_X5_settingCodes_270 (N : Nat)  (l1 : Int32) (l2 : Int32) (V : sv_V) : Option sv_V := (F_X9_roundFinely l2 l1 V).bind (fun (x7, V5) => if x7 = 0 then (sx_let (sv_I V5 69 14 (11 : Int32)) (fun V9 => some V9)) else (some V5))
set_option maxRecDepth 20000 in
theorem tB_X5_settingCodes_270 {g : sx_G} (hG : sx_Go g) {P : Option Value → sv_V → Prop} {Vr : sv_V} (hP : P none Vr) {N : Nat}   {l1 : Int32} {l2 : Int32} {V : sv_V} (h : B_X5_settingCodes_270 N  l1 l2 V = some Vr) : sv_N g qX5_settingCodes 2 270 [(0, .ref 69), (1, .int l1), (2, .int l2)] [] V P := by
  unfold B_X5_settingCodes_270 at h
  refine sx_aload_n (pc := 270) dX5_settingCodes_270 sx_m0 ?_
  refine sv_getO (pc := 271) hG dX5_settingCodes_271 f_5_12 lay_69 rfl cr_69_1 ?_
  refine sx_iload_n (pc := 274) dX5_settingCodes_274 sx_m2 ?_
  refine sx_iload_n (pc := 275) dX5_settingCodes_275 sx_m1 ?_
  obtain ⟨⟨x7, V5⟩, g6, h⟩ := sx_bnd h
  refine sv_cV (pc := 276) (y := qX9_roundFinely) (o := (some (.int x7))) (as := [.int l2, .int l1]) (V1 := V5) hG dX5_settingCodes_276 l_X5_291 y0X9_roundFinely yvX9_roundFinely rfl (Nat.le_of_ble_eq_true rfl) lay_70 kr_9 (by decide) (Nat.le_of_ble_eq_true rfl) rfl rfl rfl (t_X9_roundFinely hG ⟨rfl, rfl⟩ g6) ?_
  refine sx_if_ne (pc := 279) (tgt := 288) dX5_settingCodes_279 (by decide) (fun c8 => ?_) (fun c8 => ?_)
  · have h := sx_neg c8 h
    exact sv_vret (pc := 288) dX5_settingCodes_288 rfl h hP
  · have h := sx_pos c8 h
    refine sx_aload_n (pc := 282) dX5_settingCodes_282 sx_m0 ?_
    refine sx_bipush (pc := 283) (v := 11) dX5_settingCodes_283 (by decide) ?_
    obtain ⟨V9, hV9⟩ : ∃ z : sv_V, z = sv_I V5 69 14 (11 : Int32) := ⟨_, rfl⟩
    have h := sx_letE hV9 h
    refine sv_putI (pc := 285) hG dX5_settingCodes_285 f_5_56 lay_69 rfl hV9 ?_
    exact sv_vret (pc := 288) dX5_settingCodes_288 rfl h hP
def B_X5_settingCodes_17 (N : Nat)  (l1 : Int32) (s0 : Int32) (V : sv_V) : Option sv_V := (V.2.2 69 6).bind (fun b10 => if lay b10 = .inl 7 then (cr b10 5).bind (fun b13 => if l1 = 16 then (B_X5_settingCodes_196 N  l1 s0 V) else (if l1 = 17 then (B_X5_settingCodes_196 N  l1 s0 V) else (if l1 = 18 then (B_X5_settingCodes_196 N  l1 s0 V) else (if l1 = 19 then (B_X5_settingCodes_210 N  l1 s0 V) else (if l1 = 20 then (B_X5_settingCodes_210 N  l1 s0 V) else (if l1 = 21 then (B_X5_settingCodes_210 N  l1 s0 V) else (if l1 = 22 then (B_X5_settingCodes_210 N  l1 s0 V) else (if l1 = 23 then ((F_X5_setLoop s0 V).bind (fun V23 => some V23)) else (if l1 = 26 then ((sv_len 0 b13).bind (fun n26 => if sx_in (3 : Int32) n26 = true then sx_let (sv_I V b13 (3 : Int32).toNatClampNeg s0) (fun V29 => some V29) else none)) else (if l1 = 29 then ((sv_len 0 b13).bind (fun n31 => if sx_in (0 : Int32) n31 = true then sx_let (sv_I V b13 (0 : Int32).toNatClampNeg s0) (fun V34 => some V34) else none)) else (if l1 = 30 then ((sv_len 0 b13).bind (fun n36 => if sx_in (2 : Int32) n36 = true then sx_let (sv_I V b13 (2 : Int32).toNatClampNeg s0) (fun V39 => some V39) else none)) else (if l1 = 31 then ((F_X5_scaled s0.toInt64 V).bind (fun (x43, V41) => (sv_len 0 b13).bind (fun n44 => if sx_in (1 : Int32) n44 = true then sx_let (sv_I V41 b13 (1 : Int32).toNatClampNeg x43.toInt32) (fun V47 => some V47) else none))) else (if l1 = 77 then ((sv_len 0 b13).bind (fun n49 => if sx_in (4 : Int32) n49 = true then sx_let (sv_I V b13 (4 : Int32).toNatClampNeg (1 : Int32)) (fun V52 => some V52) else none)) else (if l1 = 78 then ((sv_len 0 b13).bind (fun n54 => if sx_in (4 : Int32) n54 = true then sx_let (sv_I V b13 (4 : Int32).toNatClampNeg (0 : Int32)) (fun V57 => some V57) else none)) else (if l1 = 94 then ((sv_len 0 b13).bind (fun n59 => if sx_in (5 : Int32) n59 = true then sx_let (sv_I V b13 (5 : Int32).toNatClampNeg s0) (fun V62 => some V62) else none)) else (if l1 = 95 then ((F_X5_setShift s0 V).bind (fun V64 => some V64)) else (if l1 = 118 then (B_X5_settingCodes_270 N  l1 s0 V) else (if l1 = 119 then (B_X5_settingCodes_270 N  l1 s0 V) else (if l1 = 133 then ((sv_len 0 b13).bind (fun n69 => if sx_in (7 : Int32) n69 = true then sx_let (sv_I V b13 (7 : Int32).toNatClampNeg s0) (fun V72 => some V72) else none)) else (if l1 = 141 then ((sv_len 0 b13).bind (fun n74 => if sx_in (8 : Int32) n74 = true then sx_let (sv_I V b13 (8 : Int32).toNatClampNeg s0) (fun V77 => some V77) else none)) else ((F_X9_roundBy l1 V).bind (fun V78 => some V78)))))))))))))))))))))) else none)
set_option maxRecDepth 20000 in
theorem tB_X5_settingCodes_17 {g : sx_G} (hG : sx_Go g) {P : Option Value → sv_V → Prop} {Vr : sv_V} (hP : P none Vr) {N : Nat}   {l1 : Int32} {s0 : Int32} {V : sv_V} (h : B_X5_settingCodes_17 N  l1 s0 V = some Vr) : sv_N g qX5_settingCodes 2 17 [(0, .ref 69), (1, .int l1)] [.int s0] V P := by
  unfold B_X5_settingCodes_17 at h
  refine sx_istore_n (pc := 17) (lo' := [(2, .int s0), (0, .ref 69), (1, .int l1)]) dX5_settingCodes_17 (by decide) rfl ?_
  refine sx_aload_n (pc := 18) dX5_settingCodes_18 sx_m1 ?_
  obtain ⟨b10, g11, h⟩ := sx_bnd h
  refine sv_getV (pc := 19) hG dX5_settingCodes_19 f_5_49 lay_69 rfl rfl g11 ?_
  obtain ⟨g12, h⟩ := sx_grd h
  obtain ⟨b13, g14, h⟩ := sx_bnd h
  refine sv_getA (pc := 22) hG dX5_settingCodes_22 f_5_272 g12 rfl g14 ?_
  refine sx_astore_n (pc := 25) (lo' := [(3, .ref b13), (2, .int s0), (0, .ref 69), (1, .int l1)]) dX5_settingCodes_25 (by decide) rfl ?_
  refine sx_iload_n (pc := 26) dX5_settingCodes_26 sx_m3 ?_
  by_cases c15 : l1 = 16
  · have h := sx_pos c15 h
    refine sx_look (pc := 27) (off := 169) (tgt := 196) dX5_settingCodes_27 (by decide) (by rw [c15]; rfl) (by decide) ?_
    refine sx_wk (sx_s1 sx_m2 (sx_s1 sx_m3 (sx_s1 sx_m1 sx_s0))) ?_
    exact tB_X5_settingCodes_196 hG hP  h
  have h := sx_neg c15 h
  by_cases c16 : l1 = 17
  · have h := sx_pos c16 h
    refine sx_look (pc := 27) (off := 169) (tgt := 196) dX5_settingCodes_27 (by decide) (by rw [c16]; rfl) (by decide) ?_
    refine sx_wk (sx_s1 sx_m2 (sx_s1 sx_m3 (sx_s1 sx_m1 sx_s0))) ?_
    exact tB_X5_settingCodes_196 hG hP  h
  have h := sx_neg c16 h
  by_cases c17 : l1 = 18
  · have h := sx_pos c17 h
    refine sx_look (pc := 27) (off := 169) (tgt := 196) dX5_settingCodes_27 (by decide) (by rw [c17]; rfl) (by decide) ?_
    refine sx_wk (sx_s1 sx_m2 (sx_s1 sx_m3 (sx_s1 sx_m1 sx_s0))) ?_
    exact tB_X5_settingCodes_196 hG hP  h
  have h := sx_neg c17 h
  by_cases c18 : l1 = 19
  · have h := sx_pos c18 h
    refine sx_look (pc := 27) (off := 183) (tgt := 210) dX5_settingCodes_27 (by decide) (by rw [c18]; rfl) (by decide) ?_
    refine sx_wk (sx_s1 sx_m2 (sx_s1 sx_m3 (sx_s1 sx_m1 sx_s0))) ?_
    exact tB_X5_settingCodes_210 hG hP  h
  have h := sx_neg c18 h
  by_cases c19 : l1 = 20
  · have h := sx_pos c19 h
    refine sx_look (pc := 27) (off := 183) (tgt := 210) dX5_settingCodes_27 (by decide) (by rw [c19]; rfl) (by decide) ?_
    refine sx_wk (sx_s1 sx_m2 (sx_s1 sx_m3 (sx_s1 sx_m1 sx_s0))) ?_
    exact tB_X5_settingCodes_210 hG hP  h
  have h := sx_neg c19 h
  by_cases c20 : l1 = 21
  · have h := sx_pos c20 h
    refine sx_look (pc := 27) (off := 183) (tgt := 210) dX5_settingCodes_27 (by decide) (by rw [c20]; rfl) (by decide) ?_
    refine sx_wk (sx_s1 sx_m2 (sx_s1 sx_m3 (sx_s1 sx_m1 sx_s0))) ?_
    exact tB_X5_settingCodes_210 hG hP  h
  have h := sx_neg c20 h
  by_cases c21 : l1 = 22
  · have h := sx_pos c21 h
    refine sx_look (pc := 27) (off := 183) (tgt := 210) dX5_settingCodes_27 (by decide) (by rw [c21]; rfl) (by decide) ?_
    refine sx_wk (sx_s1 sx_m2 (sx_s1 sx_m3 (sx_s1 sx_m1 sx_s0))) ?_
    exact tB_X5_settingCodes_210 hG hP  h
  have h := sx_neg c21 h
  by_cases c22 : l1 = 23
  · have h := sx_pos c22 h
    refine sx_look (pc := 27) (off := 190) (tgt := 217) dX5_settingCodes_27 (by decide) (by rw [c22]; rfl) (by decide) ?_
    refine sx_aload_n (pc := 217) dX5_settingCodes_217 sx_m2 ?_
    refine sx_iload_n (pc := 218) dX5_settingCodes_218 sx_m1 ?_
    obtain ⟨V23, g24, h⟩ := sx_bnd h
    refine sv_cV (pc := 219) (y := qX5_setLoop) (o := none) (as := [.int s0]) (V1 := V23) hG dX5_settingCodes_219 l_X5_281 y0X5_setLoop yvX5_setLoop rfl (Nat.le_of_ble_eq_true rfl) lay_69 kr_5 (by decide) (Nat.le_of_ble_eq_true rfl) rfl rfl rfl (t_X5_setLoop hG ⟨rfl, rfl⟩ g24) ?_
    exact sv_vret (pc := 222) dX5_settingCodes_222 rfl h hP
  have h := sx_neg c22 h
  by_cases c25 : l1 = 26
  · have h := sx_pos c25 h
    refine sx_look (pc := 27) (off := 196) (tgt := 223) dX5_settingCodes_27 (by decide) (by rw [c25]; rfl) (by decide) ?_
    refine sx_aload_n (pc := 223) dX5_settingCodes_223 sx_m0 ?_
    refine sx_iconst (pc := 224) (v := 3) dX5_settingCodes_224 (by decide) ?_
    refine sx_iload_n (pc := 225) dX5_settingCodes_225 sx_m1 ?_
    obtain ⟨n26, g27, h⟩ := sx_bnd h
    obtain ⟨g28, h⟩ := sx_grd h
    obtain ⟨V29, hV29⟩ : ∃ z : sv_V, z = sv_I V b13 (3 : Int32).toNatClampNeg s0 := ⟨_, rfl⟩
    have h := sx_letE hV29 h
    refine sv_iast (pc := 226) hG dX5_settingCodes_226 (sv_len_e g27) g28 hV29 ?_
    exact sv_vret (pc := 227) dX5_settingCodes_227 rfl h hP
  have h := sx_neg c25 h
  by_cases c30 : l1 = 29
  · have h := sx_pos c30 h
    refine sx_look (pc := 27) (off := 201) (tgt := 228) dX5_settingCodes_27 (by decide) (by rw [c30]; rfl) (by decide) ?_
    refine sx_aload_n (pc := 228) dX5_settingCodes_228 sx_m0 ?_
    refine sx_iconst (pc := 229) (v := 0) dX5_settingCodes_229 (by decide) ?_
    refine sx_iload_n (pc := 230) dX5_settingCodes_230 sx_m1 ?_
    obtain ⟨n31, g32, h⟩ := sx_bnd h
    obtain ⟨g33, h⟩ := sx_grd h
    obtain ⟨V34, hV34⟩ : ∃ z : sv_V, z = sv_I V b13 (0 : Int32).toNatClampNeg s0 := ⟨_, rfl⟩
    have h := sx_letE hV34 h
    refine sv_iast (pc := 231) hG dX5_settingCodes_231 (sv_len_e g32) g33 hV34 ?_
    exact sv_vret (pc := 232) dX5_settingCodes_232 rfl h hP
  have h := sx_neg c30 h
  by_cases c35 : l1 = 30
  · have h := sx_pos c35 h
    refine sx_look (pc := 27) (off := 206) (tgt := 233) dX5_settingCodes_27 (by decide) (by rw [c35]; rfl) (by decide) ?_
    refine sx_aload_n (pc := 233) dX5_settingCodes_233 sx_m0 ?_
    refine sx_iconst (pc := 234) (v := 2) dX5_settingCodes_234 (by decide) ?_
    refine sx_iload_n (pc := 235) dX5_settingCodes_235 sx_m1 ?_
    obtain ⟨n36, g37, h⟩ := sx_bnd h
    obtain ⟨g38, h⟩ := sx_grd h
    obtain ⟨V39, hV39⟩ : ∃ z : sv_V, z = sv_I V b13 (2 : Int32).toNatClampNeg s0 := ⟨_, rfl⟩
    have h := sx_letE hV39 h
    refine sv_iast (pc := 236) hG dX5_settingCodes_236 (sv_len_e g37) g38 hV39 ?_
    exact sv_vret (pc := 237) dX5_settingCodes_237 rfl h hP
  have h := sx_neg c35 h
  by_cases c40 : l1 = 31
  · have h := sx_pos c40 h
    refine sx_look (pc := 27) (off := 211) (tgt := 238) dX5_settingCodes_27 (by decide) (by rw [c40]; rfl) (by decide) ?_
    refine sx_aload_n (pc := 238) dX5_settingCodes_238 sx_m0 ?_
    refine sx_iconst (pc := 239) (v := 1) dX5_settingCodes_239 (by decide) ?_
    refine sx_aload_n (pc := 240) dX5_settingCodes_240 sx_m2 ?_
    refine sx_iload_n (pc := 241) dX5_settingCodes_241 sx_m1 ?_
    refine sx_i2l (pc := 242) dX5_settingCodes_242 ?_
    obtain ⟨⟨x43, V41⟩, g42, h⟩ := sx_bnd h
    refine sv_cV (pc := 243) (y := qX5_scaled) (o := (some (.long x43))) (as := [.long s0.toInt64]) (V1 := V41) hG dX5_settingCodes_243 l_X5_284 y0X5_scaled yvX5_scaled rfl (Nat.le_of_ble_eq_true rfl) lay_69 kr_5 (by decide) (Nat.le_of_ble_eq_true rfl) rfl rfl rfl (t_X5_scaled hG ⟨rfl, rfl⟩ g42) ?_
    refine sx_l2i (pc := 246) dX5_settingCodes_246 ?_
    obtain ⟨n44, g45, h⟩ := sx_bnd h
    obtain ⟨g46, h⟩ := sx_grd h
    obtain ⟨V47, hV47⟩ : ∃ z : sv_V, z = sv_I V41 b13 (1 : Int32).toNatClampNeg x43.toInt32 := ⟨_, rfl⟩
    have h := sx_letE hV47 h
    refine sv_iast (pc := 247) hG dX5_settingCodes_247 (sv_len_e g45) g46 hV47 ?_
    exact sv_vret (pc := 248) dX5_settingCodes_248 rfl h hP
  have h := sx_neg c40 h
  by_cases c48 : l1 = 77
  · have h := sx_pos c48 h
    refine sx_look (pc := 27) (off := 222) (tgt := 249) dX5_settingCodes_27 (by decide) (by rw [c48]; rfl) (by decide) ?_
    refine sx_aload_n (pc := 249) dX5_settingCodes_249 sx_m0 ?_
    refine sx_iconst (pc := 250) (v := 4) dX5_settingCodes_250 (by decide) ?_
    refine sx_iconst (pc := 251) (v := 1) dX5_settingCodes_251 (by decide) ?_
    obtain ⟨n49, g50, h⟩ := sx_bnd h
    obtain ⟨g51, h⟩ := sx_grd h
    obtain ⟨V52, hV52⟩ : ∃ z : sv_V, z = sv_I V b13 (4 : Int32).toNatClampNeg (1 : Int32) := ⟨_, rfl⟩
    have h := sx_letE hV52 h
    refine sv_iast (pc := 252) hG dX5_settingCodes_252 (sv_len_e g50) g51 hV52 ?_
    exact sv_vret (pc := 253) dX5_settingCodes_253 rfl h hP
  have h := sx_neg c48 h
  by_cases c53 : l1 = 78
  · have h := sx_pos c53 h
    refine sx_look (pc := 27) (off := 227) (tgt := 254) dX5_settingCodes_27 (by decide) (by rw [c53]; rfl) (by decide) ?_
    refine sx_aload_n (pc := 254) dX5_settingCodes_254 sx_m0 ?_
    refine sx_iconst (pc := 255) (v := 4) dX5_settingCodes_255 (by decide) ?_
    refine sx_iconst (pc := 256) (v := 0) dX5_settingCodes_256 (by decide) ?_
    obtain ⟨n54, g55, h⟩ := sx_bnd h
    obtain ⟨g56, h⟩ := sx_grd h
    obtain ⟨V57, hV57⟩ : ∃ z : sv_V, z = sv_I V b13 (4 : Int32).toNatClampNeg (0 : Int32) := ⟨_, rfl⟩
    have h := sx_letE hV57 h
    refine sv_iast (pc := 257) hG dX5_settingCodes_257 (sv_len_e g55) g56 hV57 ?_
    exact sv_vret (pc := 258) dX5_settingCodes_258 rfl h hP
  have h := sx_neg c53 h
  by_cases c58 : l1 = 94
  · have h := sx_pos c58 h
    refine sx_look (pc := 27) (off := 232) (tgt := 259) dX5_settingCodes_27 (by decide) (by rw [c58]; rfl) (by decide) ?_
    refine sx_aload_n (pc := 259) dX5_settingCodes_259 sx_m0 ?_
    refine sx_iconst (pc := 260) (v := 5) dX5_settingCodes_260 (by decide) ?_
    refine sx_iload_n (pc := 261) dX5_settingCodes_261 sx_m1 ?_
    obtain ⟨n59, g60, h⟩ := sx_bnd h
    obtain ⟨g61, h⟩ := sx_grd h
    obtain ⟨V62, hV62⟩ : ∃ z : sv_V, z = sv_I V b13 (5 : Int32).toNatClampNeg s0 := ⟨_, rfl⟩
    have h := sx_letE hV62 h
    refine sv_iast (pc := 262) hG dX5_settingCodes_262 (sv_len_e g60) g61 hV62 ?_
    exact sv_vret (pc := 263) dX5_settingCodes_263 rfl h hP
  have h := sx_neg c58 h
  by_cases c63 : l1 = 95
  · have h := sx_pos c63 h
    refine sx_look (pc := 27) (off := 237) (tgt := 264) dX5_settingCodes_27 (by decide) (by rw [c63]; rfl) (by decide) ?_
    refine sx_aload_n (pc := 264) dX5_settingCodes_264 sx_m2 ?_
    refine sx_iload_n (pc := 265) dX5_settingCodes_265 sx_m1 ?_
    obtain ⟨V64, g65, h⟩ := sx_bnd h
    refine sv_cV (pc := 266) (y := qX5_setShift) (o := none) (as := [.int s0]) (V1 := V64) hG dX5_settingCodes_266 l_X5_288 y0X5_setShift yvX5_setShift rfl (Nat.le_of_ble_eq_true rfl) lay_69 kr_5 (by decide) (Nat.le_of_ble_eq_true rfl) rfl rfl rfl (t_X5_setShift hG ⟨rfl, rfl⟩ g65) ?_
    exact sv_vret (pc := 269) dX5_settingCodes_269 rfl h hP
  have h := sx_neg c63 h
  by_cases c66 : l1 = 118
  · have h := sx_pos c66 h
    refine sx_look (pc := 27) (off := 243) (tgt := 270) dX5_settingCodes_27 (by decide) (by rw [c66]; rfl) (by decide) ?_
    refine sx_wk (sx_s1 sx_m2 (sx_s1 sx_m3 (sx_s1 sx_m1 sx_s0))) ?_
    exact tB_X5_settingCodes_270 hG hP  h
  have h := sx_neg c66 h
  by_cases c67 : l1 = 119
  · have h := sx_pos c67 h
    refine sx_look (pc := 27) (off := 243) (tgt := 270) dX5_settingCodes_27 (by decide) (by rw [c67]; rfl) (by decide) ?_
    refine sx_wk (sx_s1 sx_m2 (sx_s1 sx_m3 (sx_s1 sx_m1 sx_s0))) ?_
    exact tB_X5_settingCodes_270 hG hP  h
  have h := sx_neg c67 h
  by_cases c68 : l1 = 133
  · have h := sx_pos c68 h
    refine sx_look (pc := 27) (off := 262) (tgt := 289) dX5_settingCodes_27 (by decide) (by rw [c68]; rfl) (by decide) ?_
    refine sx_aload_n (pc := 289) dX5_settingCodes_289 sx_m0 ?_
    refine sx_bipush (pc := 290) (v := 7) dX5_settingCodes_290 (by decide) ?_
    refine sx_iload_n (pc := 292) dX5_settingCodes_292 sx_m1 ?_
    obtain ⟨n69, g70, h⟩ := sx_bnd h
    obtain ⟨g71, h⟩ := sx_grd h
    obtain ⟨V72, hV72⟩ : ∃ z : sv_V, z = sv_I V b13 (7 : Int32).toNatClampNeg s0 := ⟨_, rfl⟩
    have h := sx_letE hV72 h
    refine sv_iast (pc := 293) hG dX5_settingCodes_293 (sv_len_e g70) g71 hV72 ?_
    exact sv_vret (pc := 294) dX5_settingCodes_294 rfl h hP
  have h := sx_neg c68 h
  by_cases c73 : l1 = 141
  · have h := sx_pos c73 h
    refine sx_look (pc := 27) (off := 268) (tgt := 295) dX5_settingCodes_27 (by decide) (by rw [c73]; rfl) (by decide) ?_
    refine sx_aload_n (pc := 295) dX5_settingCodes_295 sx_m0 ?_
    refine sx_bipush (pc := 296) (v := 8) dX5_settingCodes_296 (by decide) ?_
    refine sx_iload_n (pc := 298) dX5_settingCodes_298 sx_m1 ?_
    obtain ⟨n74, g75, h⟩ := sx_bnd h
    obtain ⟨g76, h⟩ := sx_grd h
    obtain ⟨V77, hV77⟩ : ∃ z : sv_V, z = sv_I V b13 (8 : Int32).toNatClampNeg s0 := ⟨_, rfl⟩
    have h := sx_letE hV77 h
    refine sv_iast (pc := 299) hG dX5_settingCodes_299 (sv_len_e g75) g76 hV77 ?_
    exact sv_vret (pc := 300) dX5_settingCodes_300 rfl h hP
  have h := sx_neg c73 h
  refine sx_look (pc := 27) (off := 274) (tgt := 301) dX5_settingCodes_27 (by decide) (by show Op.lookupswitch.offset [(16, 169), (17, 169), (18, 169), (19, 183), (20, 183), (21, 183), (22, 183), (23, 190), (26, 196), (29, 201), (30, 206), (31, 211), (77, 222), (78, 227), (94, 232), (95, 237), (118, 243), (119, 243), (133, 262), (141, 268)] 274 l1.toInt = 274; rw [lv_osw (a := 16) c15 rfl, lv_osw (a := 17) c16 rfl, lv_osw (a := 18) c17 rfl, lv_osw (a := 19) c18 rfl, lv_osw (a := 20) c19 rfl, lv_osw (a := 21) c20 rfl, lv_osw (a := 22) c21 rfl, lv_osw (a := 23) c22 rfl, lv_osw (a := 26) c25 rfl, lv_osw (a := 29) c30 rfl, lv_osw (a := 30) c35 rfl, lv_osw (a := 31) c40 rfl, lv_osw (a := 77) c48 rfl, lv_osw (a := 78) c53 rfl, lv_osw (a := 94) c58 rfl, lv_osw (a := 95) c63 rfl, lv_osw (a := 118) c66 rfl, lv_osw (a := 119) c67 rfl, lv_osw (a := 133) c68 rfl, lv_osw (a := 141) c73 rfl]; rfl) (by decide) ?_
  refine sx_aload_n (pc := 301) dX5_settingCodes_301 sx_m2 ?_
  refine sv_getO (pc := 302) hG dX5_settingCodes_302 f_5_12 lay_69 rfl cr_69_1 ?_
  refine sx_iload_n (pc := 305) dX5_settingCodes_305 sx_m3 ?_
  obtain ⟨V78, g79, h⟩ := sx_bnd h
  refine sv_cV (pc := 306) (y := qX9_roundBy) (o := none) (as := [.int l1]) (V1 := V78) hG dX5_settingCodes_306 l_X5_295 y0X9_roundBy yvX9_roundBy rfl (Nat.le_of_ble_eq_true rfl) lay_70 kr_9 (by decide) (Nat.le_of_ble_eq_true rfl) rfl rfl rfl (t_X9_roundBy hG ⟨rfl, rfl⟩ g79) ?_
  exact sv_vret (pc := 309) dX5_settingCodes_309 rfl h hP
def F_X5_settingCodes (N : Nat) (l1 : Int32) (V : sv_V) : Option sv_V := if sx_in l1 256 = true then if (V.1 1006 l1.toNatClampNeg) = (1 : Int32) then ((F_X5_pop  V).bind (fun (x84, V82) => B_X5_settingCodes_17 N  l1 x84 V82)) else (B_X5_settingCodes_17 N  l1 (0 : Int32) V) else none
set_option maxRecDepth 20000 in
theorem t_X5_settingCodes {g : sx_G} (hG : sx_Go g) {P : Option Value → sv_V → Prop} {Vr : sv_V} (hP : P none Vr) {N : Nat} {l1 : Int32} {V : sv_V} (h : F_X5_settingCodes N l1 V = some Vr) : sv_N g qX5_settingCodes 2 0 [(0, .ref 69), (1, .int l1)] [] V P := by
  unfold F_X5_settingCodes at h
  refine sv_getS (pc := 0) (j := 5) dX5_settingCodes_0 rfl n_X5_160 ?_
  refine sx_iload_n (pc := 3) dX5_settingCodes_3 sx_m1 ?_
  obtain ⟨g80, h⟩ := sx_grd h
  refine sv_xld (pc := 4) hG dX5_settingCodes_4 lay_1006 g80 ?_
  refine sx_iconst (pc := 5) (v := 1) dX5_settingCodes_5 (by decide) ?_
  refine sx_icmp_ne (pc := 6) (tgt := 16) dX5_settingCodes_6 (by decide) (fun c81 => ?_) (fun c81 => ?_)
  · have h := sx_neg c81 h
    refine sx_iconst (pc := 16) (v := 0) dX5_settingCodes_16 (by decide) ?_
    refine sx_wk (sx_s1 sx_m0 (sx_s1 sx_m1 sx_s0)) ?_
    exact tB_X5_settingCodes_17 hG hP  h
  · have h := sx_pos c81 h
    refine sx_aload_n (pc := 9) dX5_settingCodes_9 sx_m0 ?_
    obtain ⟨⟨x84, V82⟩, g83, h⟩ := sx_bnd h
    refine sv_cV (pc := 10) (y := qX5_pop) (o := (some (.int x84))) (as := []) (V1 := V82) hG dX5_settingCodes_10 l_X5_242 y0X5_pop yvX5_pop rfl (Nat.le_of_ble_eq_true rfl) lay_69 kr_5 (by decide) (Nat.le_of_ble_eq_true rfl) rfl rfl rfl (t_X5_pop hG ⟨rfl, rfl⟩ g83) ?_
    refine sx_goto (pc := 13) (tgt := 17) dX5_settingCodes_13 (by decide) ?_
    refine sx_wk (sx_s1 sx_m0 (sx_s1 sx_m1 sx_s0)) ?_
    exact tB_X5_settingCodes_17 hG hP  h
def ncX5_jumpIf : Nat := 4777176878691021042240139346202471753783637670544990172364472768837162
theorem kcX5_jumpIf : CK cX5_jumpIf ncX5_jumpIf 29 := ⟨by decide +kernel, by decide +kernel⟩
theorem dX5_jumpIf_0 : decode cX5_jumpIf 0 = .ok (.aload_n 0, 1) := dl_o42 kcX5_jumpIf (by decide +kernel)
theorem dX5_jumpIf_1 : decode cX5_jumpIf 1 = .ok (.invokevirtual 242, 3) := dl_o182 kcX5_jumpIf (by decide +kernel)
theorem dX5_jumpIf_4 : decode cX5_jumpIf 4 = .ok (.ifCond .eq 7, 3) := dl_o153 kcX5_jumpIf 7 (by decide +kernel) (by decide +kernel)
theorem dX5_jumpIf_7 : decode cX5_jumpIf 7 = .ok (.iconst 1, 1) := dl_o4 kcX5_jumpIf (by decide +kernel)
theorem dX5_jumpIf_8 : decode cX5_jumpIf 8 = .ok (.goto 4, 3) := dl_o167 kcX5_jumpIf 4 (by decide +kernel) (by decide +kernel)
theorem dX5_jumpIf_11 : decode cX5_jumpIf 11 = .ok (.iconst 0, 1) := dl_o3 kcX5_jumpIf (by decide +kernel)
theorem dX5_jumpIf_12 : decode cX5_jumpIf 12 = .ok (.istore_n 2, 1) := dl_o61 kcX5_jumpIf (by decide +kernel)
theorem dX5_jumpIf_13 : decode cX5_jumpIf 13 = .ok (.aload_n 0, 1) := dl_o42 kcX5_jumpIf (by decide +kernel)
theorem dX5_jumpIf_14 : decode cX5_jumpIf 14 = .ok (.invokevirtual 242, 3) := dl_o182 kcX5_jumpIf (by decide +kernel)
theorem dX5_jumpIf_17 : decode cX5_jumpIf 17 = .ok (.istore_n 3, 1) := dl_o62 kcX5_jumpIf (by decide +kernel)
theorem dX5_jumpIf_18 : decode cX5_jumpIf 18 = .ok (.iload_n 2, 1) := dl_o28 kcX5_jumpIf (by decide +kernel)
theorem dX5_jumpIf_19 : decode cX5_jumpIf 19 = .ok (.iload_n 1, 1) := dl_o27 kcX5_jumpIf (by decide +kernel)
theorem dX5_jumpIf_20 : decode cX5_jumpIf 20 = .ok (.if_icmp .ne 8, 3) := dl_o160 kcX5_jumpIf 8 (by decide +kernel) (by decide +kernel)
theorem dX5_jumpIf_23 : decode cX5_jumpIf 23 = .ok (.aload_n 0, 1) := dl_o42 kcX5_jumpIf (by decide +kernel)
theorem dX5_jumpIf_24 : decode cX5_jumpIf 24 = .ok (.iload_n 3, 1) := dl_o29 kcX5_jumpIf (by decide +kernel)
theorem dX5_jumpIf_25 : decode cX5_jumpIf 25 = .ok (.invokevirtual 306, 3) := dl_o182 kcX5_jumpIf (by decide +kernel)
theorem dX5_jumpIf_28 : decode cX5_jumpIf 28 = .ok (.return_, 1) := dl_o177 kcX5_jumpIf (by decide +kernel)
def B_X5_jumpIf_12  (l1 : Int32) (s0 : Int32) (V : sv_V) : Option sv_V := (F_X5_pop  V).bind (fun (x3, V1) => if s0 = l1 then ((F_X5_jump x3 V1).bind (fun V5 => some V5)) else (some V1))
set_option maxRecDepth 20000 in
theorem tB_X5_jumpIf_12 {g : sx_G} (hG : sx_Go g) {P : Option Value → sv_V → Prop} {Vr : sv_V} (hP : P none Vr)   {l1 : Int32} {s0 : Int32} {V : sv_V} (h : B_X5_jumpIf_12  l1 s0 V = some Vr) : sv_N g qX5_jumpIf 1 12 [(0, .ref 69), (1, .int l1)] [.int s0] V P := by
  unfold B_X5_jumpIf_12 at h
  refine sx_istore_n (pc := 12) (lo' := [(2, .int s0), (0, .ref 69), (1, .int l1)]) dX5_jumpIf_12 (by decide) rfl ?_
  refine sx_aload_n (pc := 13) dX5_jumpIf_13 sx_m1 ?_
  obtain ⟨⟨x3, V1⟩, g2, h⟩ := sx_bnd h
  refine sv_cV (pc := 14) (y := qX5_pop) (o := (some (.int x3))) (as := []) (V1 := V1) hG dX5_jumpIf_14 l_X5_242 y0X5_pop yvX5_pop rfl (Nat.le_of_ble_eq_true rfl) lay_69 kr_5 (by decide) (Nat.le_of_ble_eq_true rfl) rfl rfl rfl (t_X5_pop hG ⟨rfl, rfl⟩ g2) ?_
  refine sx_istore_n (pc := 17) (lo' := [(3, .int x3), (2, .int s0), (0, .ref 69), (1, .int l1)]) dX5_jumpIf_17 (by decide) rfl ?_
  refine sx_iload_n (pc := 18) dX5_jumpIf_18 sx_m1 ?_
  refine sx_iload_n (pc := 19) dX5_jumpIf_19 sx_m3 ?_
  refine sx_icmp_ne (pc := 20) (tgt := 28) dX5_jumpIf_20 (by decide) (fun c4 => ?_) (fun c4 => ?_)
  · have h := sx_neg c4 h
    exact sv_vret (pc := 28) dX5_jumpIf_28 rfl h hP
  · have h := sx_pos c4 h
    refine sx_aload_n (pc := 23) dX5_jumpIf_23 sx_m2 ?_
    refine sx_iload_n (pc := 24) dX5_jumpIf_24 sx_m0 ?_
    obtain ⟨V5, g6, h⟩ := sx_bnd h
    refine sv_cV (pc := 25) (y := qX5_jump) (o := none) (as := [.int x3]) (V1 := V5) hG dX5_jumpIf_25 l_X5_306 y0X5_jump yvX5_jump rfl (Nat.le_of_ble_eq_true rfl) lay_69 kr_5 (by decide) (Nat.le_of_ble_eq_true rfl) rfl rfl rfl (t_X5_jump hG ⟨rfl, rfl⟩ g6) ?_
    exact sv_vret (pc := 28) dX5_jumpIf_28 rfl h hP
def F_X5_jumpIf (l1 : Int32) (V : sv_V) : Option sv_V := (F_X5_pop  V).bind (fun (x9, V7) => if x9 = 0 then (B_X5_jumpIf_12  l1 (0 : Int32) V7) else (B_X5_jumpIf_12  l1 (1 : Int32) V7))
set_option maxRecDepth 20000 in
theorem t_X5_jumpIf {g : sx_G} (hG : sx_Go g) {P : Option Value → sv_V → Prop} {Vr : sv_V} (hP : P none Vr) {l1 : Int32} {V : sv_V} (h : F_X5_jumpIf l1 V = some Vr) : sv_N g qX5_jumpIf 1 0 [(0, .ref 69), (1, .int l1)] [] V P := by
  unfold F_X5_jumpIf at h
  refine sx_aload_n (pc := 0) dX5_jumpIf_0 sx_m0 ?_
  obtain ⟨⟨x9, V7⟩, g8, h⟩ := sx_bnd h
  refine sv_cV (pc := 1) (y := qX5_pop) (o := (some (.int x9))) (as := []) (V1 := V7) hG dX5_jumpIf_1 l_X5_242 y0X5_pop yvX5_pop rfl (Nat.le_of_ble_eq_true rfl) lay_69 kr_5 (by decide) (Nat.le_of_ble_eq_true rfl) rfl rfl rfl (t_X5_pop hG ⟨rfl, rfl⟩ g8) ?_
  refine sx_if_eq (pc := 4) (tgt := 11) dX5_jumpIf_4 (by decide) (fun c10 => ?_) (fun c10 => ?_)
  · have h := sx_pos c10 h
    refine sx_iconst (pc := 11) (v := 0) dX5_jumpIf_11 (by decide) ?_
    refine sx_wk (sx_s1 sx_m0 (sx_s1 sx_m1 sx_s0)) ?_
    exact tB_X5_jumpIf_12 hG hP  h
  · have h := sx_neg c10 h
    refine sx_iconst (pc := 7) (v := 1) dX5_jumpIf_7 (by decide) ?_
    refine sx_goto (pc := 8) (tgt := 12) dX5_jumpIf_8 (by decide) ?_
    refine sx_wk (sx_s1 sx_m0 (sx_s1 sx_m1 sx_s0)) ?_
    exact tB_X5_jumpIf_12 hG hP  h
def ncX5_noteFunction : Nat := 9008987912376323471666564224568863266565956844482388744717222034322887996333289992666729723729377230847007278204118873962075093543802278355379012407178794
theorem kcX5_noteFunction : CK cX5_noteFunction ncX5_noteFunction 64 := ⟨by decide +kernel, by decide +kernel⟩
theorem dX5_noteFunction_0 : decode cX5_noteFunction 0 = .ok (.aload_n 0, 1) := dl_o42 kcX5_noteFunction (by decide +kernel)
theorem dX5_noteFunction_1 : decode cX5_noteFunction 1 = .ok (.invokevirtual 242, 3) := dl_o182 kcX5_noteFunction (by decide +kernel)
theorem dX5_noteFunction_4 : decode cX5_noteFunction 4 = .ok (.istore_n 1, 1) := dl_o60 kcX5_noteFunction (by decide +kernel)
theorem dX5_noteFunction_5 : decode cX5_noteFunction 5 = .ok (.aload_n 0, 1) := dl_o42 kcX5_noteFunction (by decide +kernel)
theorem dX5_noteFunction_6 : decode cX5_noteFunction 6 = .ok (.invokevirtual 333, 3) := dl_o182 kcX5_noteFunction (by decide +kernel)
theorem dX5_noteFunction_9 : decode cX5_noteFunction 9 = .ok (.ifCond .ne 11, 3) := dl_o154 kcX5_noteFunction 11 (by decide +kernel) (by decide +kernel)
theorem dX5_noteFunction_12 : decode cX5_noteFunction 12 = .ok (.aload_n 0, 1) := dl_o42 kcX5_noteFunction (by decide +kernel)
theorem dX5_noteFunction_13 : decode cX5_noteFunction 13 = .ok (.iconst 3, 1) := dl_o6 kcX5_noteFunction (by decide +kernel)
theorem dX5_noteFunction_14 : decode cX5_noteFunction 14 = .ok (.putfield 56, 3) := dl_o181 kcX5_noteFunction (by decide +kernel)
theorem dX5_noteFunction_17 : decode cX5_noteFunction 17 = .ok (.goto 34, 3) := dl_o167 kcX5_noteFunction 34 (by decide +kernel) (by decide +kernel)
theorem dX5_noteFunction_20 : decode cX5_noteFunction 20 = .ok (.iload_n 1, 1) := dl_o27 kcX5_noteFunction (by decide +kernel)
theorem dX5_noteFunction_21 : decode cX5_noteFunction 21 = .ok (.ifCond .lt 16, 3) := dl_o155 kcX5_noteFunction 16 (by decide +kernel) (by decide +kernel)
theorem dX5_noteFunction_24 : decode cX5_noteFunction 24 = .ok (.iload_n 1, 1) := dl_o27 kcX5_noteFunction (by decide +kernel)
theorem dX5_noteFunction_25 : decode cX5_noteFunction 25 = .ok (.aload_n 0, 1) := dl_o42 kcX5_noteFunction (by decide +kernel)
theorem dX5_noteFunction_26 : decode cX5_noteFunction 26 = .ok (.getfield 45, 3) := dl_o180 kcX5_noteFunction (by decide +kernel)
theorem dX5_noteFunction_29 : decode cX5_noteFunction 29 = .ok (.getfield 166, 3) := dl_o180 kcX5_noteFunction (by decide +kernel)
theorem dX5_noteFunction_32 : decode cX5_noteFunction 32 = .ok (.iconst 3, 1) := dl_o6 kcX5_noteFunction (by decide +kernel)
theorem dX5_noteFunction_33 : decode cX5_noteFunction 33 = .ok (.iaload, 1) := dl_o46 kcX5_noteFunction (by decide +kernel)
theorem dX5_noteFunction_34 : decode cX5_noteFunction 34 = .ok (.if_icmp .lt 12, 3) := dl_o161 kcX5_noteFunction 12 (by decide +kernel) (by decide +kernel)
theorem dX5_noteFunction_37 : decode cX5_noteFunction 37 = .ok (.aload_n 0, 1) := dl_o42 kcX5_noteFunction (by decide +kernel)
theorem dX5_noteFunction_38 : decode cX5_noteFunction 38 = .ok (.bipush 6, 2) := dl_o16 kcX5_noteFunction 6 (by decide +kernel) (by decide +kernel)
theorem dX5_noteFunction_40 : decode cX5_noteFunction 40 = .ok (.putfield 56, 3) := dl_o181 kcX5_noteFunction (by decide +kernel)
theorem dX5_noteFunction_43 : decode cX5_noteFunction 43 = .ok (.goto 8, 3) := dl_o167 kcX5_noteFunction 8 (by decide +kernel) (by decide +kernel)
theorem dX5_noteFunction_46 : decode cX5_noteFunction 46 = .ok (.aload_n 0, 1) := dl_o42 kcX5_noteFunction (by decide +kernel)
theorem dX5_noteFunction_47 : decode cX5_noteFunction 47 = .ok (.iload_n 1, 1) := dl_o27 kcX5_noteFunction (by decide +kernel)
theorem dX5_noteFunction_48 : decode cX5_noteFunction 48 = .ok (.invokevirtual 336, 3) := dl_o182 kcX5_noteFunction (by decide +kernel)
theorem dX5_noteFunction_51 : decode cX5_noteFunction 51 = .ok (.aload_n 0, 1) := dl_o42 kcX5_noteFunction (by decide +kernel)
theorem dX5_noteFunction_52 : decode cX5_noteFunction 52 = .ok (.getfield 56, 3) := dl_o180 kcX5_noteFunction (by decide +kernel)
theorem dX5_noteFunction_55 : decode cX5_noteFunction 55 = .ok (.ifCond .ne 7, 3) := dl_o154 kcX5_noteFunction 7 (by decide +kernel) (by decide +kernel)
theorem dX5_noteFunction_58 : decode cX5_noteFunction 58 = .ok (.iconst 1, 1) := dl_o4 kcX5_noteFunction (by decide +kernel)
theorem dX5_noteFunction_59 : decode cX5_noteFunction 59 = .ok (.goto 4, 3) := dl_o167 kcX5_noteFunction 4 (by decide +kernel) (by decide +kernel)
theorem dX5_noteFunction_62 : decode cX5_noteFunction 62 = .ok (.iconst 0, 1) := dl_o3 kcX5_noteFunction (by decide +kernel)
theorem dX5_noteFunction_63 : decode cX5_noteFunction 63 = .ok (.ireturn, 1) := dl_o172 kcX5_noteFunction (by decide +kernel)
def B_X5_noteFunction_51   (V : sv_V) : Option (Int32 × sv_V) := if (V.1 69 14) = 0 then (some ((1 : Int32), V)) else (some ((0 : Int32), V))
set_option maxRecDepth 20000 in
theorem tB_X5_noteFunction_51 {g : sx_G} (hG : sx_Go g) {P : Option Value → sv_V → Prop} {r : Int32} {Vr : sv_V} (hP : P (some (.int r)) Vr)    {V : sv_V} (h : B_X5_noteFunction_51   V = some (r, Vr)) : sv_N g qX5_noteFunction 1 51 [(0, .ref 69)] [] V P := by
  unfold B_X5_noteFunction_51 at h
  refine sx_aload_n (pc := 51) dX5_noteFunction_51 sx_m0 ?_
  refine sv_getI (pc := 52) hG dX5_noteFunction_52 f_5_56 lay_69 rfl ?_
  refine sx_if_ne (pc := 55) (tgt := 62) dX5_noteFunction_55 (by decide) (fun c1 => ?_) (fun c1 => ?_)
  · have h := sx_neg c1 h
    refine sx_iconst (pc := 62) (v := 0) dX5_noteFunction_62 (by decide) ?_
    exact sv_zret (pc := 63) dX5_noteFunction_63 rfl rfl h hP
  · have h := sx_pos c1 h
    refine sx_iconst (pc := 58) (v := 1) dX5_noteFunction_58 (by decide) ?_
    refine sx_goto (pc := 59) (tgt := 63) dX5_noteFunction_59 (by decide) ?_
    exact sv_zret (pc := 63) dX5_noteFunction_63 rfl rfl h hP
def B_X5_noteFunction_37   (V : sv_V) : Option (Int32 × sv_V) := sx_let (sv_I V 69 14 (6 : Int32)) (fun V2 => B_X5_noteFunction_51   V2)
set_option maxRecDepth 20000 in
theorem tB_X5_noteFunction_37 {g : sx_G} (hG : sx_Go g) {P : Option Value → sv_V → Prop} {r : Int32} {Vr : sv_V} (hP : P (some (.int r)) Vr)    {V : sv_V} (h : B_X5_noteFunction_37   V = some (r, Vr)) : sv_N g qX5_noteFunction 1 37 [(0, .ref 69)] [] V P := by
  unfold B_X5_noteFunction_37 at h
  refine sx_aload_n (pc := 37) dX5_noteFunction_37 sx_m0 ?_
  refine sx_bipush (pc := 38) (v := 6) dX5_noteFunction_38 (by decide) ?_
  obtain ⟨V2, hV2⟩ : ∃ z : sv_V, z = sv_I V 69 14 (6 : Int32) := ⟨_, rfl⟩
  have h := sx_letE hV2 h
  refine sv_putI (pc := 40) hG dX5_noteFunction_40 f_5_56 lay_69 rfl hV2 ?_
  refine sx_goto (pc := 43) (tgt := 51) dX5_noteFunction_43 (by decide) ?_
  refine sx_wk (sx_s1 sx_m0 sx_s0) ?_
  exact tB_X5_noteFunction_51 hG hP  h
def F_X5_noteFunction  (V : sv_V) : Option (Int32 × sv_V) := (F_X5_pop  V).bind (fun (x5, V3) => (F_X5_isDefining  V3).bind (fun (x8, V6) => if x8 = 0 then (sx_let (sv_I V6 69 14 (3 : Int32)) (fun V14 => B_X5_noteFunction_51   V14)) else (if x5 < 0 then (B_X5_noteFunction_37   V6) else (if x5 < (V6.1 6 (3 : Int32).toNatClampNeg) then ((F_X5_noteRoutine x5 V6).bind (fun V12 => B_X5_noteFunction_51   V12)) else (B_X5_noteFunction_37   V6)))))
set_option maxRecDepth 20000 in
theorem t_X5_noteFunction {g : sx_G} (hG : sx_Go g) {P : Option Value → sv_V → Prop} {r : Int32} {Vr : sv_V} (hP : P (some (.int r)) Vr)  {V : sv_V} (h : F_X5_noteFunction  V = some (r, Vr)) : sv_N g qX5_noteFunction 1 0 [(0, .ref 69)] [] V P := by
  unfold F_X5_noteFunction at h
  refine sx_aload_n (pc := 0) dX5_noteFunction_0 sx_m0 ?_
  obtain ⟨⟨x5, V3⟩, g4, h⟩ := sx_bnd h
  refine sv_cV (pc := 1) (y := qX5_pop) (o := (some (.int x5))) (as := []) (V1 := V3) hG dX5_noteFunction_1 l_X5_242 y0X5_pop yvX5_pop rfl (Nat.le_of_ble_eq_true rfl) lay_69 kr_5 (by decide) (Nat.le_of_ble_eq_true rfl) rfl rfl rfl (t_X5_pop hG ⟨rfl, rfl⟩ g4) ?_
  refine sx_istore_n (pc := 4) (lo' := [(1, .int x5), (0, .ref 69)]) dX5_noteFunction_4 (by decide) rfl ?_
  refine sx_aload_n (pc := 5) dX5_noteFunction_5 sx_m1 ?_
  obtain ⟨⟨x8, V6⟩, g7, h⟩ := sx_bnd h
  refine sv_cV (pc := 6) (y := qX5_isDefining) (o := (some (.int x8))) (as := []) (V1 := V6) hG dX5_noteFunction_6 l_X5_333 y0X5_isDefining yvX5_isDefining rfl (Nat.le_of_ble_eq_true rfl) lay_69 kr_5 (by decide) (Nat.le_of_ble_eq_true rfl) rfl rfl rfl (t_X5_isDefining hG ⟨rfl, rfl⟩ g7) ?_
  refine sx_if_ne (pc := 9) (tgt := 20) dX5_noteFunction_9 (by decide) (fun c9 => ?_) (fun c9 => ?_)
  · have h := sx_neg c9 h
    refine sx_iload_n (pc := 20) dX5_noteFunction_20 sx_m0 ?_
    refine sx_if_lt (pc := 21) (tgt := 37) dX5_noteFunction_21 (by decide) (fun c10 => ?_) (fun c10 => ?_)
    · have h := sx_pos c10 h
      refine sx_wk (sx_s1 sx_m1 sx_s0) ?_
      exact tB_X5_noteFunction_37 hG hP  h
    · have h := sx_neg c10 h
      refine sx_iload_n (pc := 24) dX5_noteFunction_24 sx_m0 ?_
      refine sx_aload_n (pc := 25) dX5_noteFunction_25 sx_m1 ?_
      refine sv_getO (pc := 26) hG dX5_noteFunction_26 f_5_45 lay_69 rfl cr_69_0 ?_
      refine sv_getA (pc := 29) hG dX5_noteFunction_29 f_5_166 lay_2 rfl cr_2_10 ?_
      refine sx_iconst (pc := 32) (v := 3) dX5_noteFunction_32 (by decide) ?_
      refine sv_iald (pc := 33) hG dX5_noteFunction_33 lay_6 (by decide) ?_
      refine sx_icmp_lt (pc := 34) (tgt := 46) dX5_noteFunction_34 (by decide) (fun c11 => ?_) (fun c11 => ?_)
      · have h := sx_pos c11 h
        refine sx_aload_n (pc := 46) dX5_noteFunction_46 sx_m1 ?_
        refine sx_iload_n (pc := 47) dX5_noteFunction_47 sx_m0 ?_
        obtain ⟨V12, g13, h⟩ := sx_bnd h
        refine sv_cV (pc := 48) (y := qX5_noteRoutine) (o := none) (as := [.int x5]) (V1 := V12) hG dX5_noteFunction_48 l_X5_336 y0X5_noteRoutine yvX5_noteRoutine rfl (Nat.le_of_ble_eq_true rfl) lay_69 kr_5 (by decide) (Nat.le_of_ble_eq_true rfl) rfl rfl rfl (t_X5_noteRoutine hG ⟨rfl, rfl⟩ g13) ?_
        refine sx_wk (sx_s1 sx_m1 sx_s0) ?_
        exact tB_X5_noteFunction_51 hG hP  h
      · have h := sx_neg c11 h
        refine sx_wk (sx_s1 sx_m1 sx_s0) ?_
        exact tB_X5_noteFunction_37 hG hP  h
  · have h := sx_pos c9 h
    refine sx_aload_n (pc := 12) dX5_noteFunction_12 sx_m1 ?_
    refine sx_iconst (pc := 13) (v := 3) dX5_noteFunction_13 (by decide) ?_
    obtain ⟨V14, hV14⟩ : ∃ z : sv_V, z = sv_I V6 69 14 (3 : Int32) := ⟨_, rfl⟩
    have h := sx_letE hV14 h
    refine sv_putI (pc := 14) hG dX5_noteFunction_14 f_5_56 lay_69 rfl hV14 ?_
    refine sx_goto (pc := 17) (tgt := 51) dX5_noteFunction_17 (by decide) ?_
    refine sx_wk (sx_s1 sx_m1 sx_s0) ?_
    exact tB_X5_noteFunction_51 hG hP  h
def ncX5_noteOwnCode : Nat := 109858574044043300956748807607508717570180645436369923439149974024877149003323249536092838953749085685698384859440842501141626495019623062243551138862516275552358726450436035234632074475588971034023826832084124635203809850234028083259669219508483207098267968483108725042940342906367165134710814250
theorem kcX5_noteOwnCode : CK cX5_noteOwnCode ncX5_noteOwnCode 123 := ⟨by decide +kernel, by decide +kernel⟩
theorem dX5_noteOwnCode_0 : decode cX5_noteOwnCode 0 = .ok (.aload_n 0, 1) := dl_o42 kcX5_noteOwnCode (by decide +kernel)
theorem dX5_noteOwnCode_1 : decode cX5_noteOwnCode 1 = .ok (.invokevirtual 242, 3) := dl_o182 kcX5_noteOwnCode (by decide +kernel)
theorem dX5_noteOwnCode_4 : decode cX5_noteOwnCode 4 = .ok (.istore_n 1, 1) := dl_o60 kcX5_noteOwnCode (by decide +kernel)
theorem dX5_noteOwnCode_5 : decode cX5_noteOwnCode 5 = .ok (.iload_n 1, 1) := dl_o27 kcX5_noteOwnCode (by decide +kernel)
theorem dX5_noteOwnCode_6 : decode cX5_noteOwnCode 6 = .ok (.invokestatic 339, 3) := dl_o184 kcX5_noteOwnCode (by decide +kernel)
theorem dX5_noteOwnCode_9 : decode cX5_noteOwnCode 9 = .ok (.istore_n 2, 1) := dl_o61 kcX5_noteOwnCode (by decide +kernel)
theorem dX5_noteOwnCode_10 : decode cX5_noteOwnCode 10 = .ok (.aload_n 0, 1) := dl_o42 kcX5_noteOwnCode (by decide +kernel)
theorem dX5_noteOwnCode_11 : decode cX5_noteOwnCode 11 = .ok (.invokevirtual 333, 3) := dl_o182 kcX5_noteOwnCode (by decide +kernel)
theorem dX5_noteOwnCode_14 : decode cX5_noteOwnCode 14 = .ok (.ifCond .ne 11, 3) := dl_o154 kcX5_noteOwnCode 11 (by decide +kernel) (by decide +kernel)
theorem dX5_noteOwnCode_17 : decode cX5_noteOwnCode 17 = .ok (.aload_n 0, 1) := dl_o42 kcX5_noteOwnCode (by decide +kernel)
theorem dX5_noteOwnCode_18 : decode cX5_noteOwnCode 18 = .ok (.iconst 3, 1) := dl_o6 kcX5_noteOwnCode (by decide +kernel)
theorem dX5_noteOwnCode_19 : decode cX5_noteOwnCode 19 = .ok (.putfield 56, 3) := dl_o181 kcX5_noteOwnCode (by decide +kernel)
theorem dX5_noteOwnCode_22 : decode cX5_noteOwnCode 22 = .ok (.goto 88, 3) := dl_o167 kcX5_noteOwnCode 88 (by decide +kernel) (by decide +kernel)
theorem dX5_noteOwnCode_25 : decode cX5_noteOwnCode 25 = .ok (.iload_n 1, 1) := dl_o27 kcX5_noteOwnCode (by decide +kernel)
theorem dX5_noteOwnCode_26 : decode cX5_noteOwnCode 26 = .ok (.ifCond .lt 10, 3) := dl_o155 kcX5_noteOwnCode 10 (by decide +kernel) (by decide +kernel)
theorem dX5_noteOwnCode_29 : decode cX5_noteOwnCode 29 = .ok (.iload_n 1, 1) := dl_o27 kcX5_noteOwnCode (by decide +kernel)
theorem dX5_noteOwnCode_30 : decode cX5_noteOwnCode 30 = .ok (.sipush 255, 3) := dl_o17 kcX5_noteOwnCode 255 (by decide +kernel) (by decide +kernel)
theorem dX5_noteOwnCode_33 : decode cX5_noteOwnCode 33 = .ok (.if_icmp .le 12, 3) := dl_o164 kcX5_noteOwnCode 12 (by decide +kernel) (by decide +kernel)
theorem dX5_noteOwnCode_36 : decode cX5_noteOwnCode 36 = .ok (.aload_n 0, 1) := dl_o42 kcX5_noteOwnCode (by decide +kernel)
theorem dX5_noteOwnCode_37 : decode cX5_noteOwnCode 37 = .ok (.bipush 11, 2) := dl_o16 kcX5_noteOwnCode 11 (by decide +kernel) (by decide +kernel)
theorem dX5_noteOwnCode_39 : decode cX5_noteOwnCode 39 = .ok (.putfield 56, 3) := dl_o181 kcX5_noteOwnCode (by decide +kernel)
theorem dX5_noteOwnCode_42 : decode cX5_noteOwnCode 42 = .ok (.goto 68, 3) := dl_o167 kcX5_noteOwnCode 68 (by decide +kernel) (by decide +kernel)
theorem dX5_noteOwnCode_45 : decode cX5_noteOwnCode 45 = .ok (.aload_n 0, 1) := dl_o42 kcX5_noteOwnCode (by decide +kernel)
theorem dX5_noteOwnCode_46 : decode cX5_noteOwnCode 46 = .ok (.getfield 21, 3) := dl_o180 kcX5_noteOwnCode (by decide +kernel)
theorem dX5_noteOwnCode_49 : decode cX5_noteOwnCode 49 = .ok (.iload_n 2, 1) := dl_o28 kcX5_noteOwnCode (by decide +kernel)
theorem dX5_noteOwnCode_50 : decode cX5_noteOwnCode 50 = .ok (.invokevirtual 342, 3) := dl_o182 kcX5_noteOwnCode (by decide +kernel)
theorem dX5_noteOwnCode_53 : decode cX5_noteOwnCode 53 = .ok (.ifCond .eq 11, 3) := dl_o153 kcX5_noteOwnCode 11 (by decide +kernel) (by decide +kernel)
theorem dX5_noteOwnCode_56 : decode cX5_noteOwnCode 56 = .ok (.aload_n 0, 1) := dl_o42 kcX5_noteOwnCode (by decide +kernel)
theorem dX5_noteOwnCode_57 : decode cX5_noteOwnCode 57 = .ok (.iload_n 2, 1) := dl_o28 kcX5_noteOwnCode (by decide +kernel)
theorem dX5_noteOwnCode_58 : decode cX5_noteOwnCode 58 = .ok (.invokevirtual 336, 3) := dl_o182 kcX5_noteOwnCode (by decide +kernel)
theorem dX5_noteOwnCode_61 : decode cX5_noteOwnCode 61 = .ok (.goto 49, 3) := dl_o167 kcX5_noteOwnCode 49 (by decide +kernel) (by decide +kernel)
theorem dX5_noteOwnCode_64 : decode cX5_noteOwnCode 64 = .ok (.aload_n 0, 1) := dl_o42 kcX5_noteOwnCode (by decide +kernel)
theorem dX5_noteOwnCode_65 : decode cX5_noteOwnCode 65 = .ok (.getfield 21, 3) := dl_o180 kcX5_noteOwnCode (by decide +kernel)
theorem dX5_noteOwnCode_68 : decode cX5_noteOwnCode 68 = .ok (.getfield 343, 3) := dl_o180 kcX5_noteOwnCode (by decide +kernel)
theorem dX5_noteOwnCode_71 : decode cX5_noteOwnCode 71 = .ok (.aload_n 0, 1) := dl_o42 kcX5_noteOwnCode (by decide +kernel)
theorem dX5_noteOwnCode_72 : decode cX5_noteOwnCode 72 = .ok (.getfield 45, 3) := dl_o180 kcX5_noteOwnCode (by decide +kernel)
theorem dX5_noteOwnCode_75 : decode cX5_noteOwnCode 75 = .ok (.getfield 166, 3) := dl_o180 kcX5_noteOwnCode (by decide +kernel)
theorem dX5_noteOwnCode_78 : decode cX5_noteOwnCode 78 = .ok (.iconst 4, 1) := dl_o7 kcX5_noteOwnCode (by decide +kernel)
theorem dX5_noteOwnCode_79 : decode cX5_noteOwnCode 79 = .ok (.iaload, 1) := dl_o46 kcX5_noteOwnCode (by decide +kernel)
theorem dX5_noteOwnCode_80 : decode cX5_noteOwnCode 80 = .ok (.if_icmp .lt 12, 3) := dl_o161 kcX5_noteOwnCode 12 (by decide +kernel) (by decide +kernel)
theorem dX5_noteOwnCode_83 : decode cX5_noteOwnCode 83 = .ok (.aload_n 0, 1) := dl_o42 kcX5_noteOwnCode (by decide +kernel)
theorem dX5_noteOwnCode_84 : decode cX5_noteOwnCode 84 = .ok (.bipush 6, 2) := dl_o16 kcX5_noteOwnCode 6 (by decide +kernel) (by decide +kernel)
theorem dX5_noteOwnCode_86 : decode cX5_noteOwnCode 86 = .ok (.putfield 56, 3) := dl_o181 kcX5_noteOwnCode (by decide +kernel)
theorem dX5_noteOwnCode_89 : decode cX5_noteOwnCode 89 = .ok (.goto 21, 3) := dl_o167 kcX5_noteOwnCode 21 (by decide +kernel) (by decide +kernel)
theorem dX5_noteOwnCode_92 : decode cX5_noteOwnCode 92 = .ok (.aload_n 0, 1) := dl_o42 kcX5_noteOwnCode (by decide +kernel)
theorem dX5_noteOwnCode_93 : decode cX5_noteOwnCode 93 = .ok (.getfield 21, 3) := dl_o180 kcX5_noteOwnCode (by decide +kernel)
theorem dX5_noteOwnCode_96 : decode cX5_noteOwnCode 96 = .ok (.dup, 1) := dl_o89 kcX5_noteOwnCode (by decide +kernel)
theorem dX5_noteOwnCode_97 : decode cX5_noteOwnCode 97 = .ok (.getfield 343, 3) := dl_o180 kcX5_noteOwnCode (by decide +kernel)
theorem dX5_noteOwnCode_100 : decode cX5_noteOwnCode 100 = .ok (.iconst 1, 1) := dl_o4 kcX5_noteOwnCode (by decide +kernel)
theorem dX5_noteOwnCode_101 : decode cX5_noteOwnCode 101 = .ok (.iadd, 1) := dl_o96 kcX5_noteOwnCode (by decide +kernel)
theorem dX5_noteOwnCode_102 : decode cX5_noteOwnCode 102 = .ok (.putfield 343, 3) := dl_o181 kcX5_noteOwnCode (by decide +kernel)
theorem dX5_noteOwnCode_105 : decode cX5_noteOwnCode 105 = .ok (.aload_n 0, 1) := dl_o42 kcX5_noteOwnCode (by decide +kernel)
theorem dX5_noteOwnCode_106 : decode cX5_noteOwnCode 106 = .ok (.iload_n 2, 1) := dl_o28 kcX5_noteOwnCode (by decide +kernel)
theorem dX5_noteOwnCode_107 : decode cX5_noteOwnCode 107 = .ok (.invokevirtual 336, 3) := dl_o182 kcX5_noteOwnCode (by decide +kernel)
theorem dX5_noteOwnCode_110 : decode cX5_noteOwnCode 110 = .ok (.aload_n 0, 1) := dl_o42 kcX5_noteOwnCode (by decide +kernel)
theorem dX5_noteOwnCode_111 : decode cX5_noteOwnCode 111 = .ok (.getfield 56, 3) := dl_o180 kcX5_noteOwnCode (by decide +kernel)
theorem dX5_noteOwnCode_114 : decode cX5_noteOwnCode 114 = .ok (.ifCond .ne 7, 3) := dl_o154 kcX5_noteOwnCode 7 (by decide +kernel) (by decide +kernel)
theorem dX5_noteOwnCode_117 : decode cX5_noteOwnCode 117 = .ok (.iconst 1, 1) := dl_o4 kcX5_noteOwnCode (by decide +kernel)
theorem dX5_noteOwnCode_118 : decode cX5_noteOwnCode 118 = .ok (.goto 4, 3) := dl_o167 kcX5_noteOwnCode 4 (by decide +kernel) (by decide +kernel)
theorem dX5_noteOwnCode_121 : decode cX5_noteOwnCode 121 = .ok (.iconst 0, 1) := dl_o3 kcX5_noteOwnCode (by decide +kernel)
theorem dX5_noteOwnCode_122 : decode cX5_noteOwnCode 122 = .ok (.ireturn, 1) := dl_o172 kcX5_noteOwnCode (by decide +kernel)
def B_X5_noteOwnCode_110   (V : sv_V) : Option (Int32 × sv_V) := if (V.1 69 14) = 0 then (some ((1 : Int32), V)) else (some ((0 : Int32), V))
set_option maxRecDepth 20000 in
theorem tB_X5_noteOwnCode_110 {g : sx_G} (hG : sx_Go g) {P : Option Value → sv_V → Prop} {r : Int32} {Vr : sv_V} (hP : P (some (.int r)) Vr)    {V : sv_V} (h : B_X5_noteOwnCode_110   V = some (r, Vr)) : sv_N g qX5_noteOwnCode 1 110 [(0, .ref 69)] [] V P := by
  unfold B_X5_noteOwnCode_110 at h
  refine sx_aload_n (pc := 110) dX5_noteOwnCode_110 sx_m0 ?_
  refine sv_getI (pc := 111) hG dX5_noteOwnCode_111 f_5_56 lay_69 rfl ?_
  refine sx_if_ne (pc := 114) (tgt := 121) dX5_noteOwnCode_114 (by decide) (fun c1 => ?_) (fun c1 => ?_)
  · have h := sx_neg c1 h
    refine sx_iconst (pc := 121) (v := 0) dX5_noteOwnCode_121 (by decide) ?_
    exact sv_zret (pc := 122) dX5_noteOwnCode_122 rfl rfl h hP
  · have h := sx_pos c1 h
    refine sx_iconst (pc := 117) (v := 1) dX5_noteOwnCode_117 (by decide) ?_
    refine sx_goto (pc := 118) (tgt := 122) dX5_noteOwnCode_118 (by decide) ?_
    exact sv_zret (pc := 122) dX5_noteOwnCode_122 rfl rfl h hP
def B_X5_noteOwnCode_36   (V : sv_V) : Option (Int32 × sv_V) := sx_let (sv_I V 69 14 (11 : Int32)) (fun V2 => B_X5_noteOwnCode_110   V2)
set_option maxRecDepth 20000 in
theorem tB_X5_noteOwnCode_36 {g : sx_G} (hG : sx_Go g) {P : Option Value → sv_V → Prop} {r : Int32} {Vr : sv_V} (hP : P (some (.int r)) Vr)    {V : sv_V} (h : B_X5_noteOwnCode_36   V = some (r, Vr)) : sv_N g qX5_noteOwnCode 1 36 [(0, .ref 69)] [] V P := by
  unfold B_X5_noteOwnCode_36 at h
  refine sx_aload_n (pc := 36) dX5_noteOwnCode_36 sx_m0 ?_
  refine sx_bipush (pc := 37) (v := 11) dX5_noteOwnCode_37 (by decide) ?_
  obtain ⟨V2, hV2⟩ : ∃ z : sv_V, z = sv_I V 69 14 (11 : Int32) := ⟨_, rfl⟩
  have h := sx_letE hV2 h
  refine sv_putI (pc := 39) hG dX5_noteOwnCode_39 f_5_56 lay_69 rfl hV2 ?_
  refine sx_goto (pc := 42) (tgt := 110) dX5_noteOwnCode_42 (by decide) ?_
  refine sx_wk (sx_s1 sx_m0 sx_s0) ?_
  exact tB_X5_noteOwnCode_110 hG hP  h
def F_X5_noteOwnCode  (V : sv_V) : Option (Int32 × sv_V) := (F_X5_pop  V).bind (fun (x5, V3) => (F_X0_ownCode x5 V3).bind (fun (x8, V6) => (F_X5_isDefining  V6).bind (fun (x11, V9) => if x11 = 0 then (sx_let (sv_I V9 69 14 (3 : Int32)) (fun V26 => B_X5_noteOwnCode_110   V26)) else (if x5 < 0 then (B_X5_noteOwnCode_36   V9) else (if x5 ≤ (255 : Int32) then ((F_X0_has x8 V9).bind (fun (x17, V15) => if x17 = 0 then (if (V15.1 73 3) < (V15.1 6 (4 : Int32).toNatClampNeg) then (sx_let (sv_I V15 73 3 ((V15.1 73 3) + (1 : Int32))) (fun V20 => (F_X5_noteRoutine x8 V20).bind (fun V21 => B_X5_noteOwnCode_110   V21))) else (sx_let (sv_I V15 69 14 (6 : Int32)) (fun V23 => B_X5_noteOwnCode_110   V23))) else ((F_X5_noteRoutine x8 V15).bind (fun V24 => B_X5_noteOwnCode_110   V24)))) else (B_X5_noteOwnCode_36   V9))))))
set_option maxRecDepth 20000 in
theorem t_X5_noteOwnCode {g : sx_G} (hG : sx_Go g) {P : Option Value → sv_V → Prop} {r : Int32} {Vr : sv_V} (hP : P (some (.int r)) Vr)  {V : sv_V} (h : F_X5_noteOwnCode  V = some (r, Vr)) : sv_N g qX5_noteOwnCode 1 0 [(0, .ref 69)] [] V P := by
  unfold F_X5_noteOwnCode at h
  refine sx_aload_n (pc := 0) dX5_noteOwnCode_0 sx_m0 ?_
  obtain ⟨⟨x5, V3⟩, g4, h⟩ := sx_bnd h
  refine sv_cV (pc := 1) (y := qX5_pop) (o := (some (.int x5))) (as := []) (V1 := V3) hG dX5_noteOwnCode_1 l_X5_242 y0X5_pop yvX5_pop rfl (Nat.le_of_ble_eq_true rfl) lay_69 kr_5 (by decide) (Nat.le_of_ble_eq_true rfl) rfl rfl rfl (t_X5_pop hG ⟨rfl, rfl⟩ g4) ?_
  refine sx_istore_n (pc := 4) (lo' := [(1, .int x5), (0, .ref 69)]) dX5_noteOwnCode_4 (by decide) rfl ?_
  refine sx_iload_n (pc := 5) dX5_noteOwnCode_5 sx_m0 ?_
  obtain ⟨⟨x8, V6⟩, g7, h⟩ := sx_bnd h
  refine sv_cS (pc := 6) (y := qX0_ownCode) (o := (some (.int x8))) (as := [.int x5]) (V1 := V6) dX5_noteOwnCode_6 l_X5_339 y0X0_ownCode ysX0_ownCode rfl (Nat.le_of_ble_eq_true rfl) (by decide) (Nat.le_of_ble_eq_true rfl) rfl rfl rfl (t_X0_ownCode hG ⟨rfl, rfl⟩ g7) ?_
  refine sx_istore_n (pc := 9) (lo' := [(2, .int x8), (1, .int x5), (0, .ref 69)]) dX5_noteOwnCode_9 (by decide) rfl ?_
  refine sx_aload_n (pc := 10) dX5_noteOwnCode_10 sx_m2 ?_
  obtain ⟨⟨x11, V9⟩, g10, h⟩ := sx_bnd h
  refine sv_cV (pc := 11) (y := qX5_isDefining) (o := (some (.int x11))) (as := []) (V1 := V9) hG dX5_noteOwnCode_11 l_X5_333 y0X5_isDefining yvX5_isDefining rfl (Nat.le_of_ble_eq_true rfl) lay_69 kr_5 (by decide) (Nat.le_of_ble_eq_true rfl) rfl rfl rfl (t_X5_isDefining hG ⟨rfl, rfl⟩ g10) ?_
  refine sx_if_ne (pc := 14) (tgt := 25) dX5_noteOwnCode_14 (by decide) (fun c12 => ?_) (fun c12 => ?_)
  · have h := sx_neg c12 h
    refine sx_iload_n (pc := 25) dX5_noteOwnCode_25 sx_m1 ?_
    refine sx_if_lt (pc := 26) (tgt := 36) dX5_noteOwnCode_26 (by decide) (fun c13 => ?_) (fun c13 => ?_)
    · have h := sx_pos c13 h
      refine sx_wk (sx_s1 sx_m2 sx_s0) ?_
      exact tB_X5_noteOwnCode_36 hG hP  h
    · have h := sx_neg c13 h
      refine sx_iload_n (pc := 29) dX5_noteOwnCode_29 sx_m1 ?_
      refine sx_sipush (pc := 30) (v := 255) dX5_noteOwnCode_30 (by decide) ?_
      refine sx_icmp_le (pc := 33) (tgt := 45) dX5_noteOwnCode_33 (by decide) (fun c14 => ?_) (fun c14 => ?_)
      · have h := sx_pos c14 h
        refine sx_aload_n (pc := 45) dX5_noteOwnCode_45 sx_m2 ?_
        refine sv_getO (pc := 46) hG dX5_noteOwnCode_46 f_5_21 lay_69 rfl cr_69_2 ?_
        refine sx_iload_n (pc := 49) dX5_noteOwnCode_49 sx_m0 ?_
        obtain ⟨⟨x17, V15⟩, g16, h⟩ := sx_bnd h
        refine sv_cV (pc := 50) (y := qX0_has) (o := (some (.int x17))) (as := [.int x8]) (V1 := V15) hG dX5_noteOwnCode_50 l_X5_342 y0X0_has yvX0_has rfl (Nat.le_of_ble_eq_true rfl) lay_73 kr_0 (by decide) (Nat.le_of_ble_eq_true rfl) rfl rfl rfl (t_X0_has hG ⟨rfl, rfl⟩ g16) ?_
        refine sx_if_eq (pc := 53) (tgt := 64) dX5_noteOwnCode_53 (by decide) (fun c18 => ?_) (fun c18 => ?_)
        · have h := sx_pos c18 h
          refine sx_aload_n (pc := 64) dX5_noteOwnCode_64 sx_m2 ?_
          refine sv_getO (pc := 65) hG dX5_noteOwnCode_65 f_5_21 lay_69 rfl cr_69_2 ?_
          refine sv_getI (pc := 68) hG dX5_noteOwnCode_68 f_5_343 lay_73 rfl ?_
          refine sx_aload_n (pc := 71) dX5_noteOwnCode_71 sx_m2 ?_
          refine sv_getO (pc := 72) hG dX5_noteOwnCode_72 f_5_45 lay_69 rfl cr_69_0 ?_
          refine sv_getA (pc := 75) hG dX5_noteOwnCode_75 f_5_166 lay_2 rfl cr_2_10 ?_
          refine sx_iconst (pc := 78) (v := 4) dX5_noteOwnCode_78 (by decide) ?_
          refine sv_iald (pc := 79) hG dX5_noteOwnCode_79 lay_6 (by decide) ?_
          refine sx_icmp_lt (pc := 80) (tgt := 92) dX5_noteOwnCode_80 (by decide) (fun c19 => ?_) (fun c19 => ?_)
          · have h := sx_pos c19 h
            refine sx_aload_n (pc := 92) dX5_noteOwnCode_92 sx_m2 ?_
            refine sv_getO (pc := 93) hG dX5_noteOwnCode_93 f_5_21 lay_69 rfl cr_69_2 ?_
            refine sx_dup (pc := 96) dX5_noteOwnCode_96 rfl ?_
            refine sv_getI (pc := 97) hG dX5_noteOwnCode_97 f_5_343 lay_73 rfl ?_
            refine sx_iconst (pc := 100) (v := 1) dX5_noteOwnCode_100 (by decide) ?_
            refine sx_iadd (pc := 101) dX5_noteOwnCode_101 ?_
            obtain ⟨V20, hV20⟩ : ∃ z : sv_V, z = sv_I V15 73 3 ((V15.1 73 3) + (1 : Int32)) := ⟨_, rfl⟩
            have h := sx_letE hV20 h
            refine sv_putI (pc := 102) hG dX5_noteOwnCode_102 f_5_343 lay_73 rfl hV20 ?_
            refine sx_aload_n (pc := 105) dX5_noteOwnCode_105 sx_m2 ?_
            refine sx_iload_n (pc := 106) dX5_noteOwnCode_106 sx_m0 ?_
            obtain ⟨V21, g22, h⟩ := sx_bnd h
            refine sv_cV (pc := 107) (y := qX5_noteRoutine) (o := none) (as := [.int x8]) (V1 := V21) hG dX5_noteOwnCode_107 l_X5_336 y0X5_noteRoutine yvX5_noteRoutine rfl (Nat.le_of_ble_eq_true rfl) lay_69 kr_5 (by decide) (Nat.le_of_ble_eq_true rfl) rfl rfl rfl (t_X5_noteRoutine hG ⟨rfl, rfl⟩ g22) ?_
            refine sx_wk (sx_s1 sx_m2 sx_s0) ?_
            exact tB_X5_noteOwnCode_110 hG hP  h
          · have h := sx_neg c19 h
            refine sx_aload_n (pc := 83) dX5_noteOwnCode_83 sx_m2 ?_
            refine sx_bipush (pc := 84) (v := 6) dX5_noteOwnCode_84 (by decide) ?_
            obtain ⟨V23, hV23⟩ : ∃ z : sv_V, z = sv_I V15 69 14 (6 : Int32) := ⟨_, rfl⟩
            have h := sx_letE hV23 h
            refine sv_putI (pc := 86) hG dX5_noteOwnCode_86 f_5_56 lay_69 rfl hV23 ?_
            refine sx_goto (pc := 89) (tgt := 110) dX5_noteOwnCode_89 (by decide) ?_
            refine sx_wk (sx_s1 sx_m2 sx_s0) ?_
            exact tB_X5_noteOwnCode_110 hG hP  h
        · have h := sx_neg c18 h
          refine sx_aload_n (pc := 56) dX5_noteOwnCode_56 sx_m2 ?_
          refine sx_iload_n (pc := 57) dX5_noteOwnCode_57 sx_m0 ?_
          obtain ⟨V24, g25, h⟩ := sx_bnd h
          refine sv_cV (pc := 58) (y := qX5_noteRoutine) (o := none) (as := [.int x8]) (V1 := V24) hG dX5_noteOwnCode_58 l_X5_336 y0X5_noteRoutine yvX5_noteRoutine rfl (Nat.le_of_ble_eq_true rfl) lay_69 kr_5 (by decide) (Nat.le_of_ble_eq_true rfl) rfl rfl rfl (t_X5_noteRoutine hG ⟨rfl, rfl⟩ g25) ?_
          refine sx_goto (pc := 61) (tgt := 110) dX5_noteOwnCode_61 (by decide) ?_
          refine sx_wk (sx_s1 sx_m2 sx_s0) ?_
          exact tB_X5_noteOwnCode_110 hG hP  h
      · have h := sx_neg c14 h
        refine sx_wk (sx_s1 sx_m2 sx_s0) ?_
        exact tB_X5_noteOwnCode_36 hG hP  h
  · have h := sx_pos c12 h
    refine sx_aload_n (pc := 17) dX5_noteOwnCode_17 sx_m2 ?_
    refine sx_iconst (pc := 18) (v := 3) dX5_noteOwnCode_18 (by decide) ?_
    obtain ⟨V26, hV26⟩ : ∃ z : sv_V, z = sv_I V9 69 14 (3 : Int32) := ⟨_, rfl⟩
    have h := sx_letE hV26 h
    refine sv_putI (pc := 19) hG dX5_noteOwnCode_19 f_5_56 lay_69 rfl hV26 ?_
    refine sx_goto (pc := 22) (tgt := 110) dX5_noteOwnCode_22 (by decide) ?_
    refine sx_wk (sx_s1 sx_m2 sx_s0) ?_
    exact tB_X5_noteOwnCode_110 hG hP  h
def ncX5_callOnce : Nat := 1224359198131326463042149344255352640795880849893960824018029539529635370
theorem kcX5_callOnce : CK cX5_callOnce ncX5_callOnce 30 := ⟨by decide +kernel, by decide +kernel⟩
theorem dX5_callOnce_0 : decode cX5_callOnce 0 = .ok (.aload_n 0, 1) := dl_o42 kcX5_callOnce (by decide +kernel)
theorem dX5_callOnce_1 : decode cX5_callOnce 1 = .ok (.invokevirtual 242, 3) := dl_o182 kcX5_callOnce (by decide +kernel)
theorem dX5_callOnce_4 : decode cX5_callOnce 4 = .ok (.istore_n 1, 1) := dl_o60 kcX5_callOnce (by decide +kernel)
theorem dX5_callOnce_5 : decode cX5_callOnce 5 = .ok (.aload_n 0, 1) := dl_o42 kcX5_callOnce (by decide +kernel)
theorem dX5_callOnce_6 : decode cX5_callOnce 6 = .ok (.getfield 21, 3) := dl_o180 kcX5_callOnce (by decide +kernel)
theorem dX5_callOnce_9 : decode cX5_callOnce 9 = .ok (.iload_n 1, 1) := dl_o27 kcX5_callOnce (by decide +kernel)
theorem dX5_callOnce_10 : decode cX5_callOnce 10 = .ok (.invokevirtual 355, 3) := dl_o182 kcX5_callOnce (by decide +kernel)
theorem dX5_callOnce_13 : decode cX5_callOnce 13 = .ok (.ifCond .ne 10, 3) := dl_o154 kcX5_callOnce 10 (by decide +kernel) (by decide +kernel)
theorem dX5_callOnce_16 : decode cX5_callOnce 16 = .ok (.aload_n 0, 1) := dl_o42 kcX5_callOnce (by decide +kernel)
theorem dX5_callOnce_17 : decode cX5_callOnce 17 = .ok (.bipush 6, 2) := dl_o16 kcX5_callOnce 6 (by decide +kernel) (by decide +kernel)
theorem dX5_callOnce_19 : decode cX5_callOnce 19 = .ok (.putfield 56, 3) := dl_o181 kcX5_callOnce (by decide +kernel)
theorem dX5_callOnce_22 : decode cX5_callOnce 22 = .ok (.return_, 1) := dl_o177 kcX5_callOnce (by decide +kernel)
theorem dX5_callOnce_23 : decode cX5_callOnce 23 = .ok (.aload_n 0, 1) := dl_o42 kcX5_callOnce (by decide +kernel)
theorem dX5_callOnce_24 : decode cX5_callOnce 24 = .ok (.iload_n 1, 1) := dl_o27 kcX5_callOnce (by decide +kernel)
theorem dX5_callOnce_25 : decode cX5_callOnce 25 = .ok (.iconst 1, 1) := dl_o4 kcX5_callOnce (by decide +kernel)
theorem dX5_callOnce_26 : decode cX5_callOnce 26 = .ok (.invokevirtual 358, 3) := dl_o182 kcX5_callOnce (by decide +kernel)
theorem dX5_callOnce_29 : decode cX5_callOnce 29 = .ok (.return_, 1) := dl_o177 kcX5_callOnce (by decide +kernel)
def F_X5_callOnce  (V : sv_V) : Option sv_V := (F_X5_pop  V).bind (fun (x3, V1) => (F_X0_hasFunction x3 V1).bind (fun (x6, V4) => if x6 = 0 then (sx_let (sv_I V4 69 14 (6 : Int32)) (fun V10 => some V10)) else ((F_X5_enter x3 (1 : Int32) V4).bind (fun V8 => some V8))))
set_option maxRecDepth 20000 in
theorem t_X5_callOnce {g : sx_G} (hG : sx_Go g) {P : Option Value → sv_V → Prop} {Vr : sv_V} (hP : P none Vr)  {V : sv_V} (h : F_X5_callOnce  V = some Vr) : sv_N g qX5_callOnce 1 0 [(0, .ref 69)] [] V P := by
  unfold F_X5_callOnce at h
  refine sx_aload_n (pc := 0) dX5_callOnce_0 sx_m0 ?_
  obtain ⟨⟨x3, V1⟩, g2, h⟩ := sx_bnd h
  refine sv_cV (pc := 1) (y := qX5_pop) (o := (some (.int x3))) (as := []) (V1 := V1) hG dX5_callOnce_1 l_X5_242 y0X5_pop yvX5_pop rfl (Nat.le_of_ble_eq_true rfl) lay_69 kr_5 (by decide) (Nat.le_of_ble_eq_true rfl) rfl rfl rfl (t_X5_pop hG ⟨rfl, rfl⟩ g2) ?_
  refine sx_istore_n (pc := 4) (lo' := [(1, .int x3), (0, .ref 69)]) dX5_callOnce_4 (by decide) rfl ?_
  refine sx_aload_n (pc := 5) dX5_callOnce_5 sx_m1 ?_
  refine sv_getO (pc := 6) hG dX5_callOnce_6 f_5_21 lay_69 rfl cr_69_2 ?_
  refine sx_iload_n (pc := 9) dX5_callOnce_9 sx_m0 ?_
  obtain ⟨⟨x6, V4⟩, g5, h⟩ := sx_bnd h
  refine sv_cV (pc := 10) (y := qX0_hasFunction) (o := (some (.int x6))) (as := [.int x3]) (V1 := V4) hG dX5_callOnce_10 l_X5_355 y0X0_hasFunction yvX0_hasFunction rfl (Nat.le_of_ble_eq_true rfl) lay_73 kr_0 (by decide) (Nat.le_of_ble_eq_true rfl) rfl rfl rfl (t_X0_hasFunction hG ⟨rfl, rfl⟩ g5) ?_
  refine sx_if_ne (pc := 13) (tgt := 23) dX5_callOnce_13 (by decide) (fun c7 => ?_) (fun c7 => ?_)
  · have h := sx_neg c7 h
    refine sx_aload_n (pc := 23) dX5_callOnce_23 sx_m1 ?_
    refine sx_iload_n (pc := 24) dX5_callOnce_24 sx_m0 ?_
    refine sx_iconst (pc := 25) (v := 1) dX5_callOnce_25 (by decide) ?_
    obtain ⟨V8, g9, h⟩ := sx_bnd h
    refine sv_cV (pc := 26) (y := qX5_enter) (o := none) (as := [.int x3, .int (1 : Int32)]) (V1 := V8) hG dX5_callOnce_26 l_X5_358 y0X5_enter yvX5_enter rfl (Nat.le_of_ble_eq_true rfl) lay_69 kr_5 (by decide) (Nat.le_of_ble_eq_true rfl) rfl rfl rfl (t_X5_enter hG ⟨rfl, rfl⟩ g9) ?_
    exact sv_vret (pc := 29) dX5_callOnce_29 rfl h hP
  · have h := sx_pos c7 h
    refine sx_aload_n (pc := 16) dX5_callOnce_16 sx_m1 ?_
    refine sx_bipush (pc := 17) (v := 6) dX5_callOnce_17 (by decide) ?_
    obtain ⟨V10, hV10⟩ : ∃ z : sv_V, z = sv_I V4 69 14 (6 : Int32) := ⟨_, rfl⟩
    have h := sx_letE hV10 h
    refine sv_putI (pc := 19) hG dX5_callOnce_19 f_5_56 lay_69 rfl hV10 ?_
    exact sv_vret (pc := 22) dX5_callOnce_22 rfl h hP
def ncX5_callTimes : Nat := 1480159447150248031316276463818429636184780810683738468561046568100040256434789783732851954464298
theorem kcX5_callTimes : CK cX5_callTimes ncX5_callTimes 40 := ⟨by decide +kernel, by decide +kernel⟩
theorem dX5_callTimes_0 : decode cX5_callTimes 0 = .ok (.aload_n 0, 1) := dl_o42 kcX5_callTimes (by decide +kernel)
theorem dX5_callTimes_1 : decode cX5_callTimes 1 = .ok (.invokevirtual 242, 3) := dl_o182 kcX5_callTimes (by decide +kernel)
theorem dX5_callTimes_4 : decode cX5_callTimes 4 = .ok (.istore_n 1, 1) := dl_o60 kcX5_callTimes (by decide +kernel)
theorem dX5_callTimes_5 : decode cX5_callTimes 5 = .ok (.aload_n 0, 1) := dl_o42 kcX5_callTimes (by decide +kernel)
theorem dX5_callTimes_6 : decode cX5_callTimes 6 = .ok (.invokevirtual 242, 3) := dl_o182 kcX5_callTimes (by decide +kernel)
theorem dX5_callTimes_9 : decode cX5_callTimes 9 = .ok (.istore_n 2, 1) := dl_o61 kcX5_callTimes (by decide +kernel)
theorem dX5_callTimes_10 : decode cX5_callTimes 10 = .ok (.aload_n 0, 1) := dl_o42 kcX5_callTimes (by decide +kernel)
theorem dX5_callTimes_11 : decode cX5_callTimes 11 = .ok (.getfield 21, 3) := dl_o180 kcX5_callTimes (by decide +kernel)
theorem dX5_callTimes_14 : decode cX5_callTimes 14 = .ok (.iload_n 1, 1) := dl_o27 kcX5_callTimes (by decide +kernel)
theorem dX5_callTimes_15 : decode cX5_callTimes 15 = .ok (.invokevirtual 355, 3) := dl_o182 kcX5_callTimes (by decide +kernel)
theorem dX5_callTimes_18 : decode cX5_callTimes 18 = .ok (.ifCond .ne 10, 3) := dl_o154 kcX5_callTimes 10 (by decide +kernel) (by decide +kernel)
theorem dX5_callTimes_21 : decode cX5_callTimes 21 = .ok (.aload_n 0, 1) := dl_o42 kcX5_callTimes (by decide +kernel)
theorem dX5_callTimes_22 : decode cX5_callTimes 22 = .ok (.bipush 6, 2) := dl_o16 kcX5_callTimes 6 (by decide +kernel) (by decide +kernel)
theorem dX5_callTimes_24 : decode cX5_callTimes 24 = .ok (.putfield 56, 3) := dl_o181 kcX5_callTimes (by decide +kernel)
theorem dX5_callTimes_27 : decode cX5_callTimes 27 = .ok (.return_, 1) := dl_o177 kcX5_callTimes (by decide +kernel)
theorem dX5_callTimes_28 : decode cX5_callTimes 28 = .ok (.iload_n 2, 1) := dl_o28 kcX5_callTimes (by decide +kernel)
theorem dX5_callTimes_29 : decode cX5_callTimes 29 = .ok (.iconst 1, 1) := dl_o4 kcX5_callTimes (by decide +kernel)
theorem dX5_callTimes_30 : decode cX5_callTimes 30 = .ok (.if_icmp .lt 9, 3) := dl_o161 kcX5_callTimes 9 (by decide +kernel) (by decide +kernel)
theorem dX5_callTimes_33 : decode cX5_callTimes 33 = .ok (.aload_n 0, 1) := dl_o42 kcX5_callTimes (by decide +kernel)
theorem dX5_callTimes_34 : decode cX5_callTimes 34 = .ok (.iload_n 1, 1) := dl_o27 kcX5_callTimes (by decide +kernel)
theorem dX5_callTimes_35 : decode cX5_callTimes 35 = .ok (.iload_n 2, 1) := dl_o28 kcX5_callTimes (by decide +kernel)
theorem dX5_callTimes_36 : decode cX5_callTimes 36 = .ok (.invokevirtual 358, 3) := dl_o182 kcX5_callTimes (by decide +kernel)
theorem dX5_callTimes_39 : decode cX5_callTimes 39 = .ok (.return_, 1) := dl_o177 kcX5_callTimes (by decide +kernel)
def F_X5_callTimes  (V : sv_V) : Option sv_V := (F_X5_pop  V).bind (fun (x3, V1) => (F_X5_pop  V1).bind (fun (x6, V4) => (F_X0_hasFunction x3 V4).bind (fun (x9, V7) => if x9 = 0 then (sx_let (sv_I V7 69 14 (6 : Int32)) (fun V14 => some V14)) else (if x6 < (1 : Int32) then (some V7) else ((F_X5_enter x3 x6 V7).bind (fun V12 => some V12))))))
set_option maxRecDepth 20000 in
theorem t_X5_callTimes {g : sx_G} (hG : sx_Go g) {P : Option Value → sv_V → Prop} {Vr : sv_V} (hP : P none Vr)  {V : sv_V} (h : F_X5_callTimes  V = some Vr) : sv_N g qX5_callTimes 1 0 [(0, .ref 69)] [] V P := by
  unfold F_X5_callTimes at h
  refine sx_aload_n (pc := 0) dX5_callTimes_0 sx_m0 ?_
  obtain ⟨⟨x3, V1⟩, g2, h⟩ := sx_bnd h
  refine sv_cV (pc := 1) (y := qX5_pop) (o := (some (.int x3))) (as := []) (V1 := V1) hG dX5_callTimes_1 l_X5_242 y0X5_pop yvX5_pop rfl (Nat.le_of_ble_eq_true rfl) lay_69 kr_5 (by decide) (Nat.le_of_ble_eq_true rfl) rfl rfl rfl (t_X5_pop hG ⟨rfl, rfl⟩ g2) ?_
  refine sx_istore_n (pc := 4) (lo' := [(1, .int x3), (0, .ref 69)]) dX5_callTimes_4 (by decide) rfl ?_
  refine sx_aload_n (pc := 5) dX5_callTimes_5 sx_m1 ?_
  obtain ⟨⟨x6, V4⟩, g5, h⟩ := sx_bnd h
  refine sv_cV (pc := 6) (y := qX5_pop) (o := (some (.int x6))) (as := []) (V1 := V4) hG dX5_callTimes_6 l_X5_242 y0X5_pop yvX5_pop rfl (Nat.le_of_ble_eq_true rfl) lay_69 kr_5 (by decide) (Nat.le_of_ble_eq_true rfl) rfl rfl rfl (t_X5_pop hG ⟨rfl, rfl⟩ g5) ?_
  refine sx_istore_n (pc := 9) (lo' := [(2, .int x6), (1, .int x3), (0, .ref 69)]) dX5_callTimes_9 (by decide) rfl ?_
  refine sx_aload_n (pc := 10) dX5_callTimes_10 sx_m2 ?_
  refine sv_getO (pc := 11) hG dX5_callTimes_11 f_5_21 lay_69 rfl cr_69_2 ?_
  refine sx_iload_n (pc := 14) dX5_callTimes_14 sx_m1 ?_
  obtain ⟨⟨x9, V7⟩, g8, h⟩ := sx_bnd h
  refine sv_cV (pc := 15) (y := qX0_hasFunction) (o := (some (.int x9))) (as := [.int x3]) (V1 := V7) hG dX5_callTimes_15 l_X5_355 y0X0_hasFunction yvX0_hasFunction rfl (Nat.le_of_ble_eq_true rfl) lay_73 kr_0 (by decide) (Nat.le_of_ble_eq_true rfl) rfl rfl rfl (t_X0_hasFunction hG ⟨rfl, rfl⟩ g8) ?_
  refine sx_if_ne (pc := 18) (tgt := 28) dX5_callTimes_18 (by decide) (fun c10 => ?_) (fun c10 => ?_)
  · have h := sx_neg c10 h
    refine sx_iload_n (pc := 28) dX5_callTimes_28 sx_m0 ?_
    refine sx_iconst (pc := 29) (v := 1) dX5_callTimes_29 (by decide) ?_
    refine sx_icmp_lt (pc := 30) (tgt := 39) dX5_callTimes_30 (by decide) (fun c11 => ?_) (fun c11 => ?_)
    · have h := sx_pos c11 h
      exact sv_vret (pc := 39) dX5_callTimes_39 rfl h hP
    · have h := sx_neg c11 h
      refine sx_aload_n (pc := 33) dX5_callTimes_33 sx_m2 ?_
      refine sx_iload_n (pc := 34) dX5_callTimes_34 sx_m1 ?_
      refine sx_iload_n (pc := 35) dX5_callTimes_35 sx_m0 ?_
      obtain ⟨V12, g13, h⟩ := sx_bnd h
      refine sv_cV (pc := 36) (y := qX5_enter) (o := none) (as := [.int x3, .int x6]) (V1 := V12) hG dX5_callTimes_36 l_X5_358 y0X5_enter yvX5_enter rfl (Nat.le_of_ble_eq_true rfl) lay_69 kr_5 (by decide) (Nat.le_of_ble_eq_true rfl) rfl rfl rfl (t_X5_enter hG ⟨rfl, rfl⟩ g13) ?_
      exact sv_vret (pc := 39) dX5_callTimes_39 rfl h hP
  · have h := sx_pos c10 h
    refine sx_aload_n (pc := 21) dX5_callTimes_21 sx_m2 ?_
    refine sx_bipush (pc := 22) (v := 6) dX5_callTimes_22 (by decide) ?_
    obtain ⟨V14, hV14⟩ : ∃ z : sv_V, z = sv_I V7 69 14 (6 : Int32) := ⟨_, rfl⟩
    have h := sx_letE hV14 h
    refine sv_putI (pc := 24) hG dX5_callTimes_24 f_5_56 lay_69 rfl hV14 ?_
    exact sv_vret (pc := 27) dX5_callTimes_27 rfl h hP
def ncX5_callOwnCode : Nat := 4782653117700518516187049730228008414872532339791829544742320320133147
theorem kcX5_callOwnCode : CK cX5_callOwnCode ncX5_callOwnCode 29 := ⟨by decide +kernel, by decide +kernel⟩
theorem dX5_callOwnCode_0 : decode cX5_callOwnCode 0 = .ok (.iload_n 1, 1) := dl_o27 kcX5_callOwnCode (by decide +kernel)
theorem dX5_callOwnCode_1 : decode cX5_callOwnCode 1 = .ok (.invokestatic 339, 3) := dl_o184 kcX5_callOwnCode (by decide +kernel)
theorem dX5_callOwnCode_4 : decode cX5_callOwnCode 4 = .ok (.istore_n 2, 1) := dl_o61 kcX5_callOwnCode (by decide +kernel)
theorem dX5_callOwnCode_5 : decode cX5_callOwnCode 5 = .ok (.aload_n 0, 1) := dl_o42 kcX5_callOwnCode (by decide +kernel)
theorem dX5_callOwnCode_6 : decode cX5_callOwnCode 6 = .ok (.getfield 21, 3) := dl_o180 kcX5_callOwnCode (by decide +kernel)
theorem dX5_callOwnCode_9 : decode cX5_callOwnCode 9 = .ok (.iload_n 2, 1) := dl_o28 kcX5_callOwnCode (by decide +kernel)
theorem dX5_callOwnCode_10 : decode cX5_callOwnCode 10 = .ok (.invokevirtual 342, 3) := dl_o182 kcX5_callOwnCode (by decide +kernel)
theorem dX5_callOwnCode_13 : decode cX5_callOwnCode 13 = .ok (.ifCond .ne 9, 3) := dl_o154 kcX5_callOwnCode 9 (by decide +kernel) (by decide +kernel)
theorem dX5_callOwnCode_16 : decode cX5_callOwnCode 16 = .ok (.aload_n 0, 1) := dl_o42 kcX5_callOwnCode (by decide +kernel)
theorem dX5_callOwnCode_17 : decode cX5_callOwnCode 17 = .ok (.iconst 3, 1) := dl_o6 kcX5_callOwnCode (by decide +kernel)
theorem dX5_callOwnCode_18 : decode cX5_callOwnCode 18 = .ok (.putfield 56, 3) := dl_o181 kcX5_callOwnCode (by decide +kernel)
theorem dX5_callOwnCode_21 : decode cX5_callOwnCode 21 = .ok (.return_, 1) := dl_o177 kcX5_callOwnCode (by decide +kernel)
theorem dX5_callOwnCode_22 : decode cX5_callOwnCode 22 = .ok (.aload_n 0, 1) := dl_o42 kcX5_callOwnCode (by decide +kernel)
theorem dX5_callOwnCode_23 : decode cX5_callOwnCode 23 = .ok (.iload_n 2, 1) := dl_o28 kcX5_callOwnCode (by decide +kernel)
theorem dX5_callOwnCode_24 : decode cX5_callOwnCode 24 = .ok (.iconst 1, 1) := dl_o4 kcX5_callOwnCode (by decide +kernel)
theorem dX5_callOwnCode_25 : decode cX5_callOwnCode 25 = .ok (.invokevirtual 358, 3) := dl_o182 kcX5_callOwnCode (by decide +kernel)
theorem dX5_callOwnCode_28 : decode cX5_callOwnCode 28 = .ok (.return_, 1) := dl_o177 kcX5_callOwnCode (by decide +kernel)
def F_X5_callOwnCode (l1 : Int32) (V : sv_V) : Option sv_V := (F_X0_ownCode l1 V).bind (fun (x3, V1) => (F_X0_has x3 V1).bind (fun (x6, V4) => if x6 = 0 then (sx_let (sv_I V4 69 14 (3 : Int32)) (fun V10 => some V10)) else ((F_X5_enter x3 (1 : Int32) V4).bind (fun V8 => some V8))))
set_option maxRecDepth 20000 in
theorem t_X5_callOwnCode {g : sx_G} (hG : sx_Go g) {P : Option Value → sv_V → Prop} {Vr : sv_V} (hP : P none Vr) {l1 : Int32} {V : sv_V} (h : F_X5_callOwnCode l1 V = some Vr) : sv_N g qX5_callOwnCode 1 0 [(0, .ref 69), (1, .int l1)] [] V P := by
  unfold F_X5_callOwnCode at h
  refine sx_iload_n (pc := 0) dX5_callOwnCode_0 sx_m1 ?_
  obtain ⟨⟨x3, V1⟩, g2, h⟩ := sx_bnd h
  refine sv_cS (pc := 1) (y := qX0_ownCode) (o := (some (.int x3))) (as := [.int l1]) (V1 := V1) dX5_callOwnCode_1 l_X5_339 y0X0_ownCode ysX0_ownCode rfl (Nat.le_of_ble_eq_true rfl) (by decide) (Nat.le_of_ble_eq_true rfl) rfl rfl rfl (t_X0_ownCode hG ⟨rfl, rfl⟩ g2) ?_
  refine sx_istore_n (pc := 4) (lo' := [(2, .int x3), (0, .ref 69), (1, .int l1)]) dX5_callOwnCode_4 (by decide) rfl ?_
  refine sx_aload_n (pc := 5) dX5_callOwnCode_5 sx_m1 ?_
  refine sv_getO (pc := 6) hG dX5_callOwnCode_6 f_5_21 lay_69 rfl cr_69_2 ?_
  refine sx_iload_n (pc := 9) dX5_callOwnCode_9 sx_m0 ?_
  obtain ⟨⟨x6, V4⟩, g5, h⟩ := sx_bnd h
  refine sv_cV (pc := 10) (y := qX0_has) (o := (some (.int x6))) (as := [.int x3]) (V1 := V4) hG dX5_callOwnCode_10 l_X5_342 y0X0_has yvX0_has rfl (Nat.le_of_ble_eq_true rfl) lay_73 kr_0 (by decide) (Nat.le_of_ble_eq_true rfl) rfl rfl rfl (t_X0_has hG ⟨rfl, rfl⟩ g5) ?_
  refine sx_if_ne (pc := 13) (tgt := 22) dX5_callOwnCode_13 (by decide) (fun c7 => ?_) (fun c7 => ?_)
  · have h := sx_neg c7 h
    refine sx_aload_n (pc := 22) dX5_callOwnCode_22 sx_m1 ?_
    refine sx_iload_n (pc := 23) dX5_callOwnCode_23 sx_m0 ?_
    refine sx_iconst (pc := 24) (v := 1) dX5_callOwnCode_24 (by decide) ?_
    obtain ⟨V8, g9, h⟩ := sx_bnd h
    refine sv_cV (pc := 25) (y := qX5_enter) (o := none) (as := [.int x3, .int (1 : Int32)]) (V1 := V8) hG dX5_callOwnCode_25 l_X5_358 y0X5_enter yvX5_enter rfl (Nat.le_of_ble_eq_true rfl) lay_69 kr_5 (by decide) (Nat.le_of_ble_eq_true rfl) rfl rfl rfl (t_X5_enter hG ⟨rfl, rfl⟩ g9) ?_
    exact sv_vret (pc := 28) dX5_callOwnCode_28 rfl h hP
  · have h := sx_pos c7 h
    refine sx_aload_n (pc := 16) dX5_callOwnCode_16 sx_m1 ?_
    refine sx_iconst (pc := 17) (v := 3) dX5_callOwnCode_17 (by decide) ?_
    obtain ⟨V10, hV10⟩ : ∃ z : sv_V, z = sv_I V4 69 14 (3 : Int32) := ⟨_, rfl⟩
    have h := sx_letE hV10 h
    refine sv_putI (pc := 18) hG dX5_callOwnCode_18 f_5_56 lay_69 rfl hV10 ?_
    exact sv_vret (pc := 21) dX5_callOwnCode_21 rfl h hP
def ncX5_pushCounted : Nat := 6994472785788149342521167543142397725481429948247004619279628986574967934722781220188769146883743856981100309038281770
theorem kcX5_pushCounted : CK cX5_pushCounted ncX5_pushCounted 49 := ⟨by decide +kernel, by decide +kernel⟩
theorem dX5_pushCounted_0 : decode cX5_pushCounted 0 = .ok (.aload_n 0, 1) := dl_o42 kcX5_pushCounted (by decide +kernel)
theorem dX5_pushCounted_1 : decode cX5_pushCounted 1 = .ok (.getfield 45, 3) := dl_o180 kcX5_pushCounted (by decide +kernel)
theorem dX5_pushCounted_4 : decode cX5_pushCounted 4 = .ok (.aload_n 0, 1) := dl_o42 kcX5_pushCounted (by decide +kernel)
theorem dX5_pushCounted_5 : decode cX5_pushCounted 5 = .ok (.getfield 93, 3) := dl_o180 kcX5_pushCounted (by decide +kernel)
theorem dX5_pushCounted_8 : decode cX5_pushCounted 8 = .ok (.invokevirtual 156, 3) := dl_o182 kcX5_pushCounted (by decide +kernel)
theorem dX5_pushCounted_11 : decode cX5_pushCounted 11 = .ok (.istore_n 2, 1) := dl_o61 kcX5_pushCounted (by decide +kernel)
theorem dX5_pushCounted_12 : decode cX5_pushCounted 12 = .ok (.aload_n 0, 1) := dl_o42 kcX5_pushCounted (by decide +kernel)
theorem dX5_pushCounted_13 : decode cX5_pushCounted 13 = .ok (.dup, 1) := dl_o89 kcX5_pushCounted (by decide +kernel)
theorem dX5_pushCounted_14 : decode cX5_pushCounted 14 = .ok (.getfield 93, 3) := dl_o180 kcX5_pushCounted (by decide +kernel)
theorem dX5_pushCounted_17 : decode cX5_pushCounted 17 = .ok (.iconst 1, 1) := dl_o4 kcX5_pushCounted (by decide +kernel)
theorem dX5_pushCounted_18 : decode cX5_pushCounted 18 = .ok (.iadd, 1) := dl_o96 kcX5_pushCounted (by decide +kernel)
theorem dX5_pushCounted_19 : decode cX5_pushCounted 19 = .ok (.putfield 93, 3) := dl_o181 kcX5_pushCounted (by decide +kernel)
theorem dX5_pushCounted_22 : decode cX5_pushCounted 22 = .ok (.aload_n 0, 1) := dl_o42 kcX5_pushCounted (by decide +kernel)
theorem dX5_pushCounted_23 : decode cX5_pushCounted 23 = .ok (.getfield 93, 3) := dl_o180 kcX5_pushCounted (by decide +kernel)
theorem dX5_pushCounted_26 : decode cX5_pushCounted 26 = .ok (.aload_n 0, 1) := dl_o42 kcX5_pushCounted (by decide +kernel)
theorem dX5_pushCounted_27 : decode cX5_pushCounted 27 = .ok (.getfield 90, 3) := dl_o180 kcX5_pushCounted (by decide +kernel)
theorem dX5_pushCounted_30 : decode cX5_pushCounted 30 = .ok (.if_icmp .le 9, 3) := dl_o164 kcX5_pushCounted 9 (by decide +kernel) (by decide +kernel)
theorem dX5_pushCounted_33 : decode cX5_pushCounted 33 = .ok (.aload_n 0, 1) := dl_o42 kcX5_pushCounted (by decide +kernel)
theorem dX5_pushCounted_34 : decode cX5_pushCounted 34 = .ok (.iconst 4, 1) := dl_o7 kcX5_pushCounted (by decide +kernel)
theorem dX5_pushCounted_35 : decode cX5_pushCounted 35 = .ok (.putfield 56, 3) := dl_o181 kcX5_pushCounted (by decide +kernel)
theorem dX5_pushCounted_38 : decode cX5_pushCounted 38 = .ok (.return_, 1) := dl_o177 kcX5_pushCounted (by decide +kernel)
theorem dX5_pushCounted_39 : decode cX5_pushCounted 39 = .ok (.aload_n 0, 1) := dl_o42 kcX5_pushCounted (by decide +kernel)
theorem dX5_pushCounted_40 : decode cX5_pushCounted 40 = .ok (.iload_n 2, 1) := dl_o28 kcX5_pushCounted (by decide +kernel)
theorem dX5_pushCounted_41 : decode cX5_pushCounted 41 = .ok (.iload_n 1, 1) := dl_o27 kcX5_pushCounted (by decide +kernel)
theorem dX5_pushCounted_42 : decode cX5_pushCounted 42 = .ok (.bipush 63, 2) := dl_o16 kcX5_pushCounted 63 (by decide +kernel) (by decide +kernel)
theorem dX5_pushCounted_44 : decode cX5_pushCounted 44 = .ok (.isub, 1) := dl_o100 kcX5_pushCounted (by decide +kernel)
theorem dX5_pushCounted_45 : decode cX5_pushCounted 45 = .ok (.invokevirtual 388, 3) := dl_o182 kcX5_pushCounted (by decide +kernel)
theorem dX5_pushCounted_48 : decode cX5_pushCounted 48 = .ok (.return_, 1) := dl_o177 kcX5_pushCounted (by decide +kernel)
def F_X5_pushCounted (N : Nat) (l1 : Int32) (V : sv_V) : Option sv_V := (F_X2_u1 (V.1 69 11) V).bind (fun (x3, V1) => sx_let (sv_I V1 69 11 ((V1.1 69 11) + (1 : Int32))) (fun V4 => if (V4.1 69 11) ≤ (V4.1 69 10) then ((F_X5_pushBehind N x3 (l1 - (63 : Int32)) V4).bind (fun V6 => some V6)) else (sx_let (sv_I V4 69 14 (4 : Int32)) (fun V8 => some V8))))
set_option maxRecDepth 20000 in
theorem t_X5_pushCounted {g : sx_G} (hG : sx_Go g) {P : Option Value → sv_V → Prop} {Vr : sv_V} (hP : P none Vr) {N : Nat} {l1 : Int32} {V : sv_V} (h : F_X5_pushCounted N l1 V = some Vr) : sv_N g qX5_pushCounted 2 0 [(0, .ref 69), (1, .int l1)] [] V P := by
  unfold F_X5_pushCounted at h
  refine sx_aload_n (pc := 0) dX5_pushCounted_0 sx_m0 ?_
  refine sv_getO (pc := 1) hG dX5_pushCounted_1 f_5_45 lay_69 rfl cr_69_0 ?_
  refine sx_aload_n (pc := 4) dX5_pushCounted_4 sx_m0 ?_
  refine sv_getI (pc := 5) hG dX5_pushCounted_5 f_5_93 lay_69 rfl ?_
  obtain ⟨⟨x3, V1⟩, g2, h⟩ := sx_bnd h
  refine sv_cV (pc := 8) (y := qX2_u1) (o := (some (.int x3))) (as := [.int (V.1 69 11)]) (V1 := V1) hG dX5_pushCounted_8 l_X5_156 y0X2_u1 yvX2_u1 rfl (Nat.le_of_ble_eq_true rfl) lay_2 kr_2 (by decide) (Nat.le_of_ble_eq_true rfl) rfl rfl rfl (t_X2_u1 hG ⟨rfl, rfl⟩ g2) ?_
  refine sx_istore_n (pc := 11) (lo' := [(2, .int x3), (0, .ref 69), (1, .int l1)]) dX5_pushCounted_11 (by decide) rfl ?_
  refine sx_aload_n (pc := 12) dX5_pushCounted_12 sx_m1 ?_
  refine sx_dup (pc := 13) dX5_pushCounted_13 rfl ?_
  refine sv_getI (pc := 14) hG dX5_pushCounted_14 f_5_93 lay_69 rfl ?_
  refine sx_iconst (pc := 17) (v := 1) dX5_pushCounted_17 (by decide) ?_
  refine sx_iadd (pc := 18) dX5_pushCounted_18 ?_
  obtain ⟨V4, hV4⟩ : ∃ z : sv_V, z = sv_I V1 69 11 ((V1.1 69 11) + (1 : Int32)) := ⟨_, rfl⟩
  have h := sx_letE hV4 h
  refine sv_putI (pc := 19) hG dX5_pushCounted_19 f_5_93 lay_69 rfl hV4 ?_
  refine sx_aload_n (pc := 22) dX5_pushCounted_22 sx_m1 ?_
  refine sv_getI (pc := 23) hG dX5_pushCounted_23 f_5_93 lay_69 rfl ?_
  refine sx_aload_n (pc := 26) dX5_pushCounted_26 sx_m1 ?_
  refine sv_getI (pc := 27) hG dX5_pushCounted_27 f_5_90 lay_69 rfl ?_
  refine sx_icmp_le (pc := 30) (tgt := 39) dX5_pushCounted_30 (by decide) (fun c5 => ?_) (fun c5 => ?_)
  · have h := sx_pos c5 h
    refine sx_aload_n (pc := 39) dX5_pushCounted_39 sx_m1 ?_
    refine sx_iload_n (pc := 40) dX5_pushCounted_40 sx_m0 ?_
    refine sx_iload_n (pc := 41) dX5_pushCounted_41 sx_m2 ?_
    refine sx_bipush (pc := 42) (v := 63) dX5_pushCounted_42 (by decide) ?_
    refine sx_isub (pc := 44) dX5_pushCounted_44 ?_
    obtain ⟨V6, g7, h⟩ := sx_bnd h
    refine sv_cV (pc := 45) (y := qX5_pushBehind) (o := none) (as := [.int x3, .int (l1 - (63 : Int32))]) (V1 := V6) hG dX5_pushCounted_45 l_X5_388 y0X5_pushBehind yvX5_pushBehind rfl (Nat.le_of_ble_eq_true rfl) lay_69 kr_5 (by decide) (Nat.le_of_ble_eq_true rfl) rfl rfl rfl (t_X5_pushBehind hG ⟨rfl, rfl⟩ g7) ?_
    exact sv_vret (pc := 48) dX5_pushCounted_48 rfl h hP
  · have h := sx_neg c5 h
    refine sx_aload_n (pc := 33) dX5_pushCounted_33 sx_m1 ?_
    refine sx_iconst (pc := 34) (v := 4) dX5_pushCounted_34 (by decide) ?_
    obtain ⟨V8, hV8⟩ : ∃ z : sv_V, z = sv_I V4 69 14 (4 : Int32) := ⟨_, rfl⟩
    have h := sx_letE hV8 h
    refine sv_putI (pc := 35) hG dX5_pushCounted_35 f_5_56 lay_69 rfl hV8 ?_
    exact sv_vret (pc := 38) dX5_pushCounted_38 rfl h hP
def ncX5_read : Nat := 738224799319037118245607353429170261157671648764196261298581842735882604062136731483410766334377425459720192081003211086153617802180475316445692292059689710570835542618727578050016810
theorem kcX5_read : CK cX5_read ncX5_read 76 := ⟨by decide +kernel, by decide +kernel⟩
theorem dX5_read_0 : decode cX5_read 0 = .ok (.aload_n 0, 1) := dl_o42 kcX5_read (by decide +kernel)
theorem dX5_read_1 : decode cX5_read 1 = .ok (.invokevirtual 242, 3) := dl_o182 kcX5_read (by decide +kernel)
theorem dX5_read_4 : decode cX5_read 4 = .ok (.istore_n 2, 1) := dl_o61 kcX5_read (by decide +kernel)
theorem dX5_read_5 : decode cX5_read 5 = .ok (.iload_n 1, 1) := dl_o27 kcX5_read (by decide +kernel)
theorem dX5_read_6 : decode cX5_read 6 = .ok (.bipush 67, 2) := dl_o16 kcX5_read 67 (by decide +kernel) (by decide +kernel)
theorem dX5_read_8 : decode cX5_read 8 = .ok (.if_icmp .ne 14, 3) := dl_o160 kcX5_read 14 (by decide +kernel) (by decide +kernel)
theorem dX5_read_11 : decode cX5_read 11 = .ok (.aload_n 0, 1) := dl_o42 kcX5_read (by decide +kernel)
theorem dX5_read_12 : decode cX5_read 12 = .ok (.getfield 49, 3) := dl_o180 kcX5_read (by decide +kernel)
theorem dX5_read_15 : decode cX5_read 15 = .ok (.iload_n 2, 1) := dl_o28 kcX5_read (by decide +kernel)
theorem dX5_read_16 : decode cX5_read 16 = .ok (.invokevirtual 402, 3) := dl_o182 kcX5_read (by decide +kernel)
theorem dX5_read_19 : decode cX5_read 19 = .ok (.goto 11, 3) := dl_o167 kcX5_read 11 (by decide +kernel) (by decide +kernel)
theorem dX5_read_22 : decode cX5_read 22 = .ok (.aload_n 0, 1) := dl_o42 kcX5_read (by decide +kernel)
theorem dX5_read_23 : decode cX5_read 23 = .ok (.getfield 49, 3) := dl_o180 kcX5_read (by decide +kernel)
theorem dX5_read_26 : decode cX5_read 26 = .ok (.iload_n 2, 1) := dl_o28 kcX5_read (by decide +kernel)
theorem dX5_read_27 : decode cX5_read 27 = .ok (.invokevirtual 405, 3) := dl_o182 kcX5_read (by decide +kernel)
theorem dX5_read_30 : decode cX5_read 30 = .ok (.istore_n 3, 1) := dl_o62 kcX5_read (by decide +kernel)
theorem dX5_read_31 : decode cX5_read 31 = .ok (.iload_n 3, 1) := dl_o29 kcX5_read (by decide +kernel)
theorem dX5_read_32 : decode cX5_read 32 = .ok (.ifCond .ne 10, 3) := dl_o154 kcX5_read 10 (by decide +kernel) (by decide +kernel)
theorem dX5_read_35 : decode cX5_read 35 = .ok (.aload_n 0, 1) := dl_o42 kcX5_read (by decide +kernel)
theorem dX5_read_36 : decode cX5_read 36 = .ok (.bipush 6, 2) := dl_o16 kcX5_read 6 (by decide +kernel) (by decide +kernel)
theorem dX5_read_38 : decode cX5_read 38 = .ok (.putfield 56, 3) := dl_o181 kcX5_read (by decide +kernel)
theorem dX5_read_41 : decode cX5_read 41 = .ok (.return_, 1) := dl_o177 kcX5_read (by decide +kernel)
theorem dX5_read_42 : decode cX5_read 42 = .ok (.aload_n 0, 1) := dl_o42 kcX5_read (by decide +kernel)
theorem dX5_read_43 : decode cX5_read 43 = .ok (.iload_n 1, 1) := dl_o27 kcX5_read (by decide +kernel)
theorem dX5_read_44 : decode cX5_read 44 = .ok (.bipush 67, 2) := dl_o16 kcX5_read 67 (by decide +kernel) (by decide +kernel)
theorem dX5_read_46 : decode cX5_read 46 = .ok (.if_icmp .ne 16, 3) := dl_o160 kcX5_read 16 (by decide +kernel) (by decide +kernel)
theorem dX5_read_49 : decode cX5_read 49 = .ok (.aload_n 0, 1) := dl_o42 kcX5_read (by decide +kernel)
theorem dX5_read_50 : decode cX5_read 50 = .ok (.getfield 49, 3) := dl_o180 kcX5_read (by decide +kernel)
theorem dX5_read_53 : decode cX5_read 53 = .ok (.getfield 408, 3) := dl_o180 kcX5_read (by decide +kernel)
theorem dX5_read_56 : decode cX5_read 56 = .ok (.iload_n 2, 1) := dl_o28 kcX5_read (by decide +kernel)
theorem dX5_read_57 : decode cX5_read 57 = .ok (.iaload, 1) := dl_o46 kcX5_read (by decide +kernel)
theorem dX5_read_58 : decode cX5_read 58 = .ok (.i2l, 1) := dl_o133 kcX5_read (by decide +kernel)
theorem dX5_read_59 : decode cX5_read 59 = .ok (.goto 13, 3) := dl_o167 kcX5_read 13 (by decide +kernel) (by decide +kernel)
theorem dX5_read_62 : decode cX5_read 62 = .ok (.aload_n 0, 1) := dl_o42 kcX5_read (by decide +kernel)
theorem dX5_read_63 : decode cX5_read 63 = .ok (.getfield 49, 3) := dl_o180 kcX5_read (by decide +kernel)
theorem dX5_read_66 : decode cX5_read 66 = .ok (.getfield 411, 3) := dl_o180 kcX5_read (by decide +kernel)
theorem dX5_read_69 : decode cX5_read 69 = .ok (.iload_n 2, 1) := dl_o28 kcX5_read (by decide +kernel)
theorem dX5_read_70 : decode cX5_read 70 = .ok (.iaload, 1) := dl_o46 kcX5_read (by decide +kernel)
theorem dX5_read_71 : decode cX5_read 71 = .ok (.i2l, 1) := dl_o133 kcX5_read (by decide +kernel)
theorem dX5_read_72 : decode cX5_read 72 = .ok (.invokevirtual 232, 3) := dl_o182 kcX5_read (by decide +kernel)
theorem dX5_read_75 : decode cX5_read 75 = .ok (.return_, 1) := dl_o177 kcX5_read (by decide +kernel)
def B_X5_read_72  (s1 : Int64) (V : sv_V) : Option sv_V := (F_X5_push s1 V).bind (fun V1 => some V1)
set_option maxRecDepth 20000 in
theorem tB_X5_read_72 {g : sx_G} (hG : sx_Go g) {P : Option Value → sv_V → Prop} {Vr : sv_V} (hP : P none Vr)   {s1 : Int64} {V : sv_V} (h : B_X5_read_72  s1 V = some Vr) : sv_N g qX5_read 1 72 [] [.long s1, .ref 69] V P := by
  unfold B_X5_read_72 at h
  obtain ⟨V1, g2, h⟩ := sx_bnd h
  refine sv_cV (pc := 72) (y := qX5_push) (o := none) (as := [.long s1]) (V1 := V1) hG dX5_read_72 l_X5_232 y0X5_push yvX5_push rfl (Nat.le_of_ble_eq_true rfl) lay_69 kr_5 (by decide) (Nat.le_of_ble_eq_true rfl) rfl rfl rfl (t_X5_push hG ⟨rfl, rfl⟩ g2) ?_
  exact sv_vret (pc := 75) dX5_read_75 rfl h hP
def B_X5_read_30  (l1 : Int32) (l2 : Int32) (s0 : Int32) (V : sv_V) : Option sv_V := if s0 = 0 then (sx_let (sv_I V 69 14 (6 : Int32)) (fun V21 => some V21)) else (if l1 = (67 : Int32) then ((V.2.2 69 6).bind (fun b13 => if lay b13 = .inl 7 then (cr b13 2).bind (fun b16 => (sv_len 0 b16).bind (fun n18 => if sx_in l2 n18 = true then B_X5_read_72  ((V.1 b16 l2.toNatClampNeg).toInt64) V else none)) else none)) else ((V.2.2 69 6).bind (fun b5 => if lay b5 = .inl 7 then (cr b5 0).bind (fun b8 => (sv_len 0 b8).bind (fun n10 => if sx_in l2 n10 = true then B_X5_read_72  ((V.1 b8 l2.toNatClampNeg).toInt64) V else none)) else none)))
set_option maxRecDepth 20000 in
theorem tB_X5_read_30 {g : sx_G} (hG : sx_Go g) {P : Option Value → sv_V → Prop} {Vr : sv_V} (hP : P none Vr)   {l1 : Int32} {l2 : Int32} {s0 : Int32} {V : sv_V} (h : B_X5_read_30  l1 l2 s0 V = some Vr) : sv_N g qX5_read 1 30 [(0, .ref 69), (1, .int l1), (2, .int l2)] [.int s0] V P := by
  unfold B_X5_read_30 at h
  refine sx_istore_n (pc := 30) (lo' := [(3, .int s0), (0, .ref 69), (1, .int l1), (2, .int l2)]) dX5_read_30 (by decide) rfl ?_
  refine sx_iload_n (pc := 31) dX5_read_31 sx_m0 ?_
  refine sx_if_ne (pc := 32) (tgt := 42) dX5_read_32 (by decide) (fun c3 => ?_) (fun c3 => ?_)
  · have h := sx_neg c3 h
    refine sx_aload_n (pc := 42) dX5_read_42 sx_m1 ?_
    refine sx_iload_n (pc := 43) dX5_read_43 sx_m2 ?_
    refine sx_bipush (pc := 44) (v := 67) dX5_read_44 (by decide) ?_
    refine sx_icmp_ne (pc := 46) (tgt := 62) dX5_read_46 (by decide) (fun c4 => ?_) (fun c4 => ?_)
    · have h := sx_neg c4 h
      refine sx_aload_n (pc := 62) dX5_read_62 sx_m1 ?_
      obtain ⟨b5, g6, h⟩ := sx_bnd h
      refine sv_getV (pc := 63) hG dX5_read_63 f_5_49 lay_69 rfl rfl g6 ?_
      obtain ⟨g7, h⟩ := sx_grd h
      obtain ⟨b8, g9, h⟩ := sx_bnd h
      refine sv_getA (pc := 66) hG dX5_read_66 f_5_411 g7 rfl g9 ?_
      refine sx_iload_n (pc := 69) dX5_read_69 sx_m3 ?_
      obtain ⟨n10, g11, h⟩ := sx_bnd h
      obtain ⟨g12, h⟩ := sx_grd h
      refine sv_iald (pc := 70) hG dX5_read_70 (sv_len_e g11) g12 ?_
      refine sx_i2l (pc := 71) dX5_read_71 ?_
      refine sx_wk sx_s0 ?_
      exact tB_X5_read_72 hG hP  h
    · have h := sx_pos c4 h
      refine sx_aload_n (pc := 49) dX5_read_49 sx_m1 ?_
      obtain ⟨b13, g14, h⟩ := sx_bnd h
      refine sv_getV (pc := 50) hG dX5_read_50 f_5_49 lay_69 rfl rfl g14 ?_
      obtain ⟨g15, h⟩ := sx_grd h
      obtain ⟨b16, g17, h⟩ := sx_bnd h
      refine sv_getA (pc := 53) hG dX5_read_53 f_5_408 g15 rfl g17 ?_
      refine sx_iload_n (pc := 56) dX5_read_56 sx_m3 ?_
      obtain ⟨n18, g19, h⟩ := sx_bnd h
      obtain ⟨g20, h⟩ := sx_grd h
      refine sv_iald (pc := 57) hG dX5_read_57 (sv_len_e g19) g20 ?_
      refine sx_i2l (pc := 58) dX5_read_58 ?_
      refine sx_goto (pc := 59) (tgt := 72) dX5_read_59 (by decide) ?_
      refine sx_wk sx_s0 ?_
      exact tB_X5_read_72 hG hP  h
  · have h := sx_pos c3 h
    refine sx_aload_n (pc := 35) dX5_read_35 sx_m1 ?_
    refine sx_bipush (pc := 36) (v := 6) dX5_read_36 (by decide) ?_
    obtain ⟨V21, hV21⟩ : ∃ z : sv_V, z = sv_I V 69 14 (6 : Int32) := ⟨_, rfl⟩
    have h := sx_letE hV21 h
    refine sv_putI (pc := 38) hG dX5_read_38 f_5_56 lay_69 rfl hV21 ?_
    exact sv_vret (pc := 41) dX5_read_41 rfl h hP
def F_X5_read (l1 : Int32) (V : sv_V) : Option sv_V := (F_X5_pop  V).bind (fun (x24, V22) => if l1 = (67 : Int32) then ((V22.2.2 69 6).bind (fun b32 => (F_X7_hasStorage b32 x24 V22).bind (fun (x36, V34) => if lay b32 = .inl 7 then B_X5_read_30  l1 x24 x36 V34 else none))) else ((V22.2.2 69 6).bind (fun b26 => (F_X7_hasCvt b26 x24 V22).bind (fun (x30, V28) => if lay b26 = .inl 7 then B_X5_read_30  l1 x24 x30 V28 else none))))
set_option maxRecDepth 20000 in
theorem t_X5_read {g : sx_G} (hG : sx_Go g) {P : Option Value → sv_V → Prop} {Vr : sv_V} (hP : P none Vr) {l1 : Int32} {V : sv_V} (h : F_X5_read l1 V = some Vr) : sv_N g qX5_read 1 0 [(0, .ref 69), (1, .int l1)] [] V P := by
  unfold F_X5_read at h
  refine sx_aload_n (pc := 0) dX5_read_0 sx_m0 ?_
  obtain ⟨⟨x24, V22⟩, g23, h⟩ := sx_bnd h
  refine sv_cV (pc := 1) (y := qX5_pop) (o := (some (.int x24))) (as := []) (V1 := V22) hG dX5_read_1 l_X5_242 y0X5_pop yvX5_pop rfl (Nat.le_of_ble_eq_true rfl) lay_69 kr_5 (by decide) (Nat.le_of_ble_eq_true rfl) rfl rfl rfl (t_X5_pop hG ⟨rfl, rfl⟩ g23) ?_
  refine sx_istore_n (pc := 4) (lo' := [(2, .int x24), (0, .ref 69), (1, .int l1)]) dX5_read_4 (by decide) rfl ?_
  refine sx_iload_n (pc := 5) dX5_read_5 sx_m2 ?_
  refine sx_bipush (pc := 6) (v := 67) dX5_read_6 (by decide) ?_
  refine sx_icmp_ne (pc := 8) (tgt := 22) dX5_read_8 (by decide) (fun c25 => ?_) (fun c25 => ?_)
  · have h := sx_neg c25 h
    refine sx_aload_n (pc := 22) dX5_read_22 sx_m1 ?_
    obtain ⟨b26, g27, h⟩ := sx_bnd h
    refine sv_getV (pc := 23) hG dX5_read_23 f_5_49 lay_69 rfl rfl g27 ?_
    refine sx_iload_n (pc := 26) dX5_read_26 sx_m0 ?_
    obtain ⟨⟨x30, V28⟩, g29, h⟩ := sx_bnd h
    obtain ⟨g31, h⟩ := sx_grd h
    refine sv_cV (pc := 27) (y := qX7_hasCvt) (o := (some (.int x30))) (as := [.int x24]) (V1 := V28) hG dX5_read_27 l_X5_405 y0X7_hasCvt yvX7_hasCvt rfl (Nat.le_of_ble_eq_true rfl) g31 kr_7 (by decide) (Nat.le_of_ble_eq_true rfl) rfl rfl rfl (t_X7_hasCvt hG ⟨rfl, rfl⟩ g29) ?_
    refine sx_wk (sx_s1 sx_m1 (sx_s1 sx_m2 (sx_s1 sx_m0 sx_s0))) ?_
    exact tB_X5_read_30 hG hP  h
  · have h := sx_pos c25 h
    refine sx_aload_n (pc := 11) dX5_read_11 sx_m1 ?_
    obtain ⟨b32, g33, h⟩ := sx_bnd h
    refine sv_getV (pc := 12) hG dX5_read_12 f_5_49 lay_69 rfl rfl g33 ?_
    refine sx_iload_n (pc := 15) dX5_read_15 sx_m0 ?_
    obtain ⟨⟨x36, V34⟩, g35, h⟩ := sx_bnd h
    obtain ⟨g37, h⟩ := sx_grd h
    refine sv_cV (pc := 16) (y := qX7_hasStorage) (o := (some (.int x36))) (as := [.int x24]) (V1 := V34) hG dX5_read_16 l_X5_402 y0X7_hasStorage yvX7_hasStorage rfl (Nat.le_of_ble_eq_true rfl) g37 kr_7 (by decide) (Nat.le_of_ble_eq_true rfl) rfl rfl rfl (t_X7_hasStorage hG ⟨rfl, rfl⟩ g35) ?_
    refine sx_goto (pc := 19) (tgt := 30) dX5_read_19 (by decide) ?_
    refine sx_wk (sx_s1 sx_m1 (sx_s1 sx_m2 (sx_s1 sx_m0 sx_s0))) ?_
    exact tB_X5_read_30 hG hP  h
def ncX5_write : Nat := 4200409303088415736526385382360814243742696581667474918921541222933202853968976557742587894176020610943666505982905325653138483733082168199947398713188881834024181834880260261898558484707269887503031040486376787286066244012258858
theorem kcX5_write : CK cX5_write ncX5_write 95 := ⟨by decide +kernel, by decide +kernel⟩
theorem dX5_write_0 : decode cX5_write 0 = .ok (.aload_n 0, 1) := dl_o42 kcX5_write (by decide +kernel)
theorem dX5_write_1 : decode cX5_write 1 = .ok (.invokevirtual 242, 3) := dl_o182 kcX5_write (by decide +kernel)
theorem dX5_write_4 : decode cX5_write 4 = .ok (.istore_n 2, 1) := dl_o61 kcX5_write (by decide +kernel)
theorem dX5_write_5 : decode cX5_write 5 = .ok (.aload_n 0, 1) := dl_o42 kcX5_write (by decide +kernel)
theorem dX5_write_6 : decode cX5_write 6 = .ok (.invokevirtual 242, 3) := dl_o182 kcX5_write (by decide +kernel)
theorem dX5_write_9 : decode cX5_write 9 = .ok (.istore_n 3, 1) := dl_o62 kcX5_write (by decide +kernel)
theorem dX5_write_10 : decode cX5_write 10 = .ok (.iload_n 1, 1) := dl_o27 kcX5_write (by decide +kernel)
theorem dX5_write_11 : decode cX5_write 11 = .ok (.bipush 66, 2) := dl_o16 kcX5_write 66 (by decide +kernel) (by decide +kernel)
theorem dX5_write_13 : decode cX5_write 13 = .ok (.if_icmp .ne 14, 3) := dl_o160 kcX5_write 14 (by decide +kernel) (by decide +kernel)
theorem dX5_write_16 : decode cX5_write 16 = .ok (.aload_n 0, 1) := dl_o42 kcX5_write (by decide +kernel)
theorem dX5_write_17 : decode cX5_write 17 = .ok (.getfield 49, 3) := dl_o180 kcX5_write (by decide +kernel)
theorem dX5_write_20 : decode cX5_write 20 = .ok (.iload_n 3, 1) := dl_o29 kcX5_write (by decide +kernel)
theorem dX5_write_21 : decode cX5_write 21 = .ok (.invokevirtual 402, 3) := dl_o182 kcX5_write (by decide +kernel)
theorem dX5_write_24 : decode cX5_write 24 = .ok (.goto 11, 3) := dl_o167 kcX5_write 11 (by decide +kernel) (by decide +kernel)
theorem dX5_write_27 : decode cX5_write 27 = .ok (.aload_n 0, 1) := dl_o42 kcX5_write (by decide +kernel)
theorem dX5_write_28 : decode cX5_write 28 = .ok (.getfield 49, 3) := dl_o180 kcX5_write (by decide +kernel)
theorem dX5_write_31 : decode cX5_write 31 = .ok (.iload_n 3, 1) := dl_o29 kcX5_write (by decide +kernel)
theorem dX5_write_32 : decode cX5_write 32 = .ok (.invokevirtual 405, 3) := dl_o182 kcX5_write (by decide +kernel)
theorem dX5_write_35 : decode cX5_write 35 = .ok (.istore 4, 2) := dl_o54 kcX5_write (by decide +kernel)
theorem dX5_write_37 : decode cX5_write 37 = .ok (.iload 4, 2) := dl_o21 kcX5_write (by decide +kernel)
theorem dX5_write_39 : decode cX5_write 39 = .ok (.ifCond .ne 10, 3) := dl_o154 kcX5_write 10 (by decide +kernel) (by decide +kernel)
theorem dX5_write_42 : decode cX5_write 42 = .ok (.aload_n 0, 1) := dl_o42 kcX5_write (by decide +kernel)
theorem dX5_write_43 : decode cX5_write 43 = .ok (.bipush 6, 2) := dl_o16 kcX5_write 6 (by decide +kernel) (by decide +kernel)
theorem dX5_write_45 : decode cX5_write 45 = .ok (.putfield 56, 3) := dl_o181 kcX5_write (by decide +kernel)
theorem dX5_write_48 : decode cX5_write 48 = .ok (.return_, 1) := dl_o177 kcX5_write (by decide +kernel)
theorem dX5_write_49 : decode cX5_write 49 = .ok (.iload_n 1, 1) := dl_o27 kcX5_write (by decide +kernel)
theorem dX5_write_50 : decode cX5_write 50 = .ok (.bipush 66, 2) := dl_o16 kcX5_write 66 (by decide +kernel) (by decide +kernel)
theorem dX5_write_52 : decode cX5_write 52 = .ok (.if_icmp .ne 16, 3) := dl_o160 kcX5_write 16 (by decide +kernel) (by decide +kernel)
theorem dX5_write_55 : decode cX5_write 55 = .ok (.aload_n 0, 1) := dl_o42 kcX5_write (by decide +kernel)
theorem dX5_write_56 : decode cX5_write 56 = .ok (.getfield 49, 3) := dl_o180 kcX5_write (by decide +kernel)
theorem dX5_write_59 : decode cX5_write 59 = .ok (.getfield 408, 3) := dl_o180 kcX5_write (by decide +kernel)
theorem dX5_write_62 : decode cX5_write 62 = .ok (.iload_n 3, 1) := dl_o29 kcX5_write (by decide +kernel)
theorem dX5_write_63 : decode cX5_write 63 = .ok (.iload_n 2, 1) := dl_o28 kcX5_write (by decide +kernel)
theorem dX5_write_64 : decode cX5_write 64 = .ok (.iastore, 1) := dl_o79 kcX5_write (by decide +kernel)
theorem dX5_write_65 : decode cX5_write 65 = .ok (.goto 29, 3) := dl_o167 kcX5_write 29 (by decide +kernel) (by decide +kernel)
theorem dX5_write_68 : decode cX5_write 68 = .ok (.aload_n 0, 1) := dl_o42 kcX5_write (by decide +kernel)
theorem dX5_write_69 : decode cX5_write 69 = .ok (.getfield 49, 3) := dl_o180 kcX5_write (by decide +kernel)
theorem dX5_write_72 : decode cX5_write 72 = .ok (.getfield 411, 3) := dl_o180 kcX5_write (by decide +kernel)
theorem dX5_write_75 : decode cX5_write 75 = .ok (.iload_n 3, 1) := dl_o29 kcX5_write (by decide +kernel)
theorem dX5_write_76 : decode cX5_write 76 = .ok (.iload_n 1, 1) := dl_o27 kcX5_write (by decide +kernel)
theorem dX5_write_77 : decode cX5_write 77 = .ok (.bipush 68, 2) := dl_o16 kcX5_write 68 (by decide +kernel) (by decide +kernel)
theorem dX5_write_79 : decode cX5_write 79 = .ok (.if_icmp .ne 7, 3) := dl_o160 kcX5_write 7 (by decide +kernel) (by decide +kernel)
theorem dX5_write_82 : decode cX5_write 82 = .ok (.iload_n 2, 1) := dl_o28 kcX5_write (by decide +kernel)
theorem dX5_write_83 : decode cX5_write 83 = .ok (.goto 10, 3) := dl_o167 kcX5_write 10 (by decide +kernel) (by decide +kernel)
theorem dX5_write_86 : decode cX5_write 86 = .ok (.aload_n 0, 1) := dl_o42 kcX5_write (by decide +kernel)
theorem dX5_write_87 : decode cX5_write 87 = .ok (.iload_n 2, 1) := dl_o28 kcX5_write (by decide +kernel)
theorem dX5_write_88 : decode cX5_write 88 = .ok (.i2l, 1) := dl_o133 kcX5_write (by decide +kernel)
theorem dX5_write_89 : decode cX5_write 89 = .ok (.invokevirtual 284, 3) := dl_o182 kcX5_write (by decide +kernel)
theorem dX5_write_92 : decode cX5_write 92 = .ok (.l2i, 1) := dl_o136 kcX5_write (by decide +kernel)
theorem dX5_write_93 : decode cX5_write 93 = .ok (.iastore, 1) := dl_o79 kcX5_write (by decide +kernel)
theorem dX5_write_94 : decode cX5_write 94 = .ok (.return_, 1) := dl_o177 kcX5_write (by decide +kernel)
def B_X5_write_35  (l1 : Int32) (l2 : Int32) (l3 : Int32) (s0 : Int32) (V : sv_V) : Option sv_V := if s0 = 0 then (sx_let (sv_I V 69 14 (6 : Int32)) (fun V29 => some V29)) else (if l1 = (66 : Int32) then ((V.2.2 69 6).bind (fun b20 => if lay b20 = .inl 7 then (cr b20 2).bind (fun b23 => (sv_len 0 b23).bind (fun n25 => if sx_in l3 n25 = true then sx_let (sv_I V b23 l3.toNatClampNeg l2) (fun V28 => some V28) else none)) else none)) else ((V.2.2 69 6).bind (fun b3 => if lay b3 = .inl 7 then (cr b3 0).bind (fun b6 => if l1 = (68 : Int32) then ((sv_len 0 b6).bind (fun n16 => if sx_in l3 n16 = true then sx_let (sv_I V b6 l3.toNatClampNeg l2) (fun V19 => some V19) else none)) else ((F_X5_scaled l2.toInt64 V).bind (fun (x11, V9) => (sv_len 0 b6).bind (fun n12 => if sx_in l3 n12 = true then sx_let (sv_I V9 b6 l3.toNatClampNeg x11.toInt32) (fun V15 => some V15) else none)))) else none)))
set_option maxRecDepth 20000 in
theorem tB_X5_write_35 {g : sx_G} (hG : sx_Go g) {P : Option Value → sv_V → Prop} {Vr : sv_V} (hP : P none Vr)   {l1 : Int32} {l2 : Int32} {l3 : Int32} {s0 : Int32} {V : sv_V} (h : B_X5_write_35  l1 l2 l3 s0 V = some Vr) : sv_N g qX5_write 2 35 [(0, .ref 69), (1, .int l1), (2, .int l2), (3, .int l3)] [.int s0] V P := by
  unfold B_X5_write_35 at h
  refine sx_istore (pc := 35) (lo' := [(4, .int s0), (0, .ref 69), (1, .int l1), (2, .int l2), (3, .int l3)]) dX5_write_35 (by decide) rfl ?_
  refine sx_iload (pc := 37) dX5_write_37 sx_m0 ?_
  refine sx_if_ne (pc := 39) (tgt := 49) dX5_write_39 (by decide) (fun c1 => ?_) (fun c1 => ?_)
  · have h := sx_neg c1 h
    refine sx_iload_n (pc := 49) dX5_write_49 sx_m2 ?_
    refine sx_bipush (pc := 50) (v := 66) dX5_write_50 (by decide) ?_
    refine sx_icmp_ne (pc := 52) (tgt := 68) dX5_write_52 (by decide) (fun c2 => ?_) (fun c2 => ?_)
    · have h := sx_neg c2 h
      refine sx_aload_n (pc := 68) dX5_write_68 sx_m1 ?_
      obtain ⟨b3, g4, h⟩ := sx_bnd h
      refine sv_getV (pc := 69) hG dX5_write_69 f_5_49 lay_69 rfl rfl g4 ?_
      obtain ⟨g5, h⟩ := sx_grd h
      obtain ⟨b6, g7, h⟩ := sx_bnd h
      refine sv_getA (pc := 72) hG dX5_write_72 f_5_411 g5 rfl g7 ?_
      refine sx_iload_n (pc := 75) dX5_write_75 sx_m4 ?_
      refine sx_iload_n (pc := 76) dX5_write_76 sx_m2 ?_
      refine sx_bipush (pc := 77) (v := 68) dX5_write_77 (by decide) ?_
      refine sx_icmp_ne (pc := 79) (tgt := 86) dX5_write_79 (by decide) (fun c8 => ?_) (fun c8 => ?_)
      · have h := sx_neg c8 h
        refine sx_aload_n (pc := 86) dX5_write_86 sx_m1 ?_
        refine sx_iload_n (pc := 87) dX5_write_87 sx_m3 ?_
        refine sx_i2l (pc := 88) dX5_write_88 ?_
        obtain ⟨⟨x11, V9⟩, g10, h⟩ := sx_bnd h
        refine sv_cV (pc := 89) (y := qX5_scaled) (o := (some (.long x11))) (as := [.long l2.toInt64]) (V1 := V9) hG dX5_write_89 l_X5_284 y0X5_scaled yvX5_scaled rfl (Nat.le_of_ble_eq_true rfl) lay_69 kr_5 (by decide) (Nat.le_of_ble_eq_true rfl) rfl rfl rfl (t_X5_scaled hG ⟨rfl, rfl⟩ g10) ?_
        refine sx_l2i (pc := 92) dX5_write_92 ?_
        obtain ⟨n12, g13, h⟩ := sx_bnd h
        obtain ⟨g14, h⟩ := sx_grd h
        obtain ⟨V15, hV15⟩ : ∃ z : sv_V, z = sv_I V9 b6 l3.toNatClampNeg x11.toInt32 := ⟨_, rfl⟩
        have h := sx_letE hV15 h
        refine sv_iast (pc := 93) hG dX5_write_93 (sv_len_e g13) g14 hV15 ?_
        exact sv_vret (pc := 94) dX5_write_94 rfl h hP
      · have h := sx_pos c8 h
        refine sx_iload_n (pc := 82) dX5_write_82 sx_m3 ?_
        refine sx_goto (pc := 83) (tgt := 93) dX5_write_83 (by decide) ?_
        obtain ⟨n16, g17, h⟩ := sx_bnd h
        obtain ⟨g18, h⟩ := sx_grd h
        obtain ⟨V19, hV19⟩ : ∃ z : sv_V, z = sv_I V b6 l3.toNatClampNeg l2 := ⟨_, rfl⟩
        have h := sx_letE hV19 h
        refine sv_iast (pc := 93) hG dX5_write_93 (sv_len_e g17) g18 hV19 ?_
        exact sv_vret (pc := 94) dX5_write_94 rfl h hP
    · have h := sx_pos c2 h
      refine sx_aload_n (pc := 55) dX5_write_55 sx_m1 ?_
      obtain ⟨b20, g21, h⟩ := sx_bnd h
      refine sv_getV (pc := 56) hG dX5_write_56 f_5_49 lay_69 rfl rfl g21 ?_
      obtain ⟨g22, h⟩ := sx_grd h
      obtain ⟨b23, g24, h⟩ := sx_bnd h
      refine sv_getA (pc := 59) hG dX5_write_59 f_5_408 g22 rfl g24 ?_
      refine sx_iload_n (pc := 62) dX5_write_62 sx_m4 ?_
      refine sx_iload_n (pc := 63) dX5_write_63 sx_m3 ?_
      obtain ⟨n25, g26, h⟩ := sx_bnd h
      obtain ⟨g27, h⟩ := sx_grd h
      obtain ⟨V28, hV28⟩ : ∃ z : sv_V, z = sv_I V b23 l3.toNatClampNeg l2 := ⟨_, rfl⟩
      have h := sx_letE hV28 h
      refine sv_iast (pc := 64) hG dX5_write_64 (sv_len_e g26) g27 hV28 ?_
      refine sx_goto (pc := 65) (tgt := 94) dX5_write_65 (by decide) ?_
      exact sv_vret (pc := 94) dX5_write_94 rfl h hP
  · have h := sx_pos c1 h
    refine sx_aload_n (pc := 42) dX5_write_42 sx_m1 ?_
    refine sx_bipush (pc := 43) (v := 6) dX5_write_43 (by decide) ?_
    obtain ⟨V29, hV29⟩ : ∃ z : sv_V, z = sv_I V 69 14 (6 : Int32) := ⟨_, rfl⟩
    have h := sx_letE hV29 h
    refine sv_putI (pc := 45) hG dX5_write_45 f_5_56 lay_69 rfl hV29 ?_
    exact sv_vret (pc := 48) dX5_write_48 rfl h hP
def F_X5_write (l1 : Int32) (V : sv_V) : Option sv_V := (F_X5_pop  V).bind (fun (x32, V30) => (F_X5_pop  V30).bind (fun (x35, V33) => if l1 = (66 : Int32) then ((V33.2.2 69 6).bind (fun b43 => (F_X7_hasStorage b43 x35 V33).bind (fun (x47, V45) => if lay b43 = .inl 7 then B_X5_write_35  l1 x32 x35 x47 V45 else none))) else ((V33.2.2 69 6).bind (fun b37 => (F_X7_hasCvt b37 x35 V33).bind (fun (x41, V39) => if lay b37 = .inl 7 then B_X5_write_35  l1 x32 x35 x41 V39 else none)))))
set_option maxRecDepth 20000 in
theorem t_X5_write {g : sx_G} (hG : sx_Go g) {P : Option Value → sv_V → Prop} {Vr : sv_V} (hP : P none Vr) {l1 : Int32} {V : sv_V} (h : F_X5_write l1 V = some Vr) : sv_N g qX5_write 2 0 [(0, .ref 69), (1, .int l1)] [] V P := by
  unfold F_X5_write at h
  refine sx_aload_n (pc := 0) dX5_write_0 sx_m0 ?_
  obtain ⟨⟨x32, V30⟩, g31, h⟩ := sx_bnd h
  refine sv_cV (pc := 1) (y := qX5_pop) (o := (some (.int x32))) (as := []) (V1 := V30) hG dX5_write_1 l_X5_242 y0X5_pop yvX5_pop rfl (Nat.le_of_ble_eq_true rfl) lay_69 kr_5 (by decide) (Nat.le_of_ble_eq_true rfl) rfl rfl rfl (t_X5_pop hG ⟨rfl, rfl⟩ g31) ?_
  refine sx_istore_n (pc := 4) (lo' := [(2, .int x32), (0, .ref 69), (1, .int l1)]) dX5_write_4 (by decide) rfl ?_
  refine sx_aload_n (pc := 5) dX5_write_5 sx_m1 ?_
  obtain ⟨⟨x35, V33⟩, g34, h⟩ := sx_bnd h
  refine sv_cV (pc := 6) (y := qX5_pop) (o := (some (.int x35))) (as := []) (V1 := V33) hG dX5_write_6 l_X5_242 y0X5_pop yvX5_pop rfl (Nat.le_of_ble_eq_true rfl) lay_69 kr_5 (by decide) (Nat.le_of_ble_eq_true rfl) rfl rfl rfl (t_X5_pop hG ⟨rfl, rfl⟩ g34) ?_
  refine sx_istore_n (pc := 9) (lo' := [(3, .int x35), (2, .int x32), (0, .ref 69), (1, .int l1)]) dX5_write_9 (by decide) rfl ?_
  refine sx_iload_n (pc := 10) dX5_write_10 sx_m3 ?_
  refine sx_bipush (pc := 11) (v := 66) dX5_write_11 (by decide) ?_
  refine sx_icmp_ne (pc := 13) (tgt := 27) dX5_write_13 (by decide) (fun c36 => ?_) (fun c36 => ?_)
  · have h := sx_neg c36 h
    refine sx_aload_n (pc := 27) dX5_write_27 sx_m2 ?_
    obtain ⟨b37, g38, h⟩ := sx_bnd h
    refine sv_getV (pc := 28) hG dX5_write_28 f_5_49 lay_69 rfl rfl g38 ?_
    refine sx_iload_n (pc := 31) dX5_write_31 sx_m0 ?_
    obtain ⟨⟨x41, V39⟩, g40, h⟩ := sx_bnd h
    obtain ⟨g42, h⟩ := sx_grd h
    refine sv_cV (pc := 32) (y := qX7_hasCvt) (o := (some (.int x41))) (as := [.int x35]) (V1 := V39) hG dX5_write_32 l_X5_405 y0X7_hasCvt yvX7_hasCvt rfl (Nat.le_of_ble_eq_true rfl) g42 kr_7 (by decide) (Nat.le_of_ble_eq_true rfl) rfl rfl rfl (t_X7_hasCvt hG ⟨rfl, rfl⟩ g40) ?_
    refine sx_wk (sx_s1 sx_m2 (sx_s1 sx_m3 (sx_s1 sx_m1 (sx_s1 sx_m0 sx_s0)))) ?_
    exact tB_X5_write_35 hG hP  h
  · have h := sx_pos c36 h
    refine sx_aload_n (pc := 16) dX5_write_16 sx_m2 ?_
    obtain ⟨b43, g44, h⟩ := sx_bnd h
    refine sv_getV (pc := 17) hG dX5_write_17 f_5_49 lay_69 rfl rfl g44 ?_
    refine sx_iload_n (pc := 20) dX5_write_20 sx_m0 ?_
    obtain ⟨⟨x47, V45⟩, g46, h⟩ := sx_bnd h
    obtain ⟨g48, h⟩ := sx_grd h
    refine sv_cV (pc := 21) (y := qX7_hasStorage) (o := (some (.int x47))) (as := [.int x35]) (V1 := V45) hG dX5_write_21 l_X5_402 y0X7_hasStorage yvX7_hasStorage rfl (Nat.le_of_ble_eq_true rfl) g48 kr_7 (by decide) (Nat.le_of_ble_eq_true rfl) rfl rfl rfl (t_X7_hasStorage hG ⟨rfl, rfl⟩ g46) ?_
    refine sx_goto (pc := 24) (tgt := 35) dX5_write_24 (by decide) ?_
    refine sx_wk (sx_s1 sx_m2 (sx_s1 sx_m3 (sx_s1 sx_m1 (sx_s1 sx_m0 sx_s0)))) ?_
    exact tB_X5_write_35 hG hP  h
def ncX5_untouchPoint : Nat := 344455639446315006359293391444817190529924511683604462956188556277704325389675938231850
theorem kcX5_untouchPoint : CK cX5_untouchPoint ncX5_untouchPoint 36 := ⟨by decide +kernel, by decide +kernel⟩
theorem dX5_untouchPoint_0 : decode cX5_untouchPoint 0 = .ok (.aload_n 0, 1) := dl_o42 kcX5_untouchPoint (by decide +kernel)
theorem dX5_untouchPoint_1 : decode cX5_untouchPoint 1 = .ok (.invokevirtual 242, 3) := dl_o182 kcX5_untouchPoint (by decide +kernel)
theorem dX5_untouchPoint_4 : decode cX5_untouchPoint 4 = .ok (.istore_n 1, 1) := dl_o60 kcX5_untouchPoint (by decide +kernel)
theorem dX5_untouchPoint_5 : decode cX5_untouchPoint 5 = .ok (.aload_n 0, 1) := dl_o42 kcX5_untouchPoint (by decide +kernel)
theorem dX5_untouchPoint_6 : decode cX5_untouchPoint 6 = .ok (.iconst 0, 1) := dl_o3 kcX5_untouchPoint (by decide +kernel)
theorem dX5_untouchPoint_7 : decode cX5_untouchPoint 7 = .ok (.invokevirtual 255, 3) := dl_o182 kcX5_untouchPoint (by decide +kernel)
theorem dX5_untouchPoint_10 : decode cX5_untouchPoint 10 = .ok (.astore_n 2, 1) := dl_o77 kcX5_untouchPoint (by decide +kernel)
theorem dX5_untouchPoint_11 : decode cX5_untouchPoint 11 = .ok (.aload_n 0, 1) := dl_o42 kcX5_untouchPoint (by decide +kernel)
theorem dX5_untouchPoint_12 : decode cX5_untouchPoint 12 = .ok (.aload_n 2, 1) := dl_o44 kcX5_untouchPoint (by decide +kernel)
theorem dX5_untouchPoint_13 : decode cX5_untouchPoint 13 = .ok (.iload_n 1, 1) := dl_o27 kcX5_untouchPoint (by decide +kernel)
theorem dX5_untouchPoint_14 : decode cX5_untouchPoint 14 = .ok (.invokevirtual 259, 3) := dl_o182 kcX5_untouchPoint (by decide +kernel)
theorem dX5_untouchPoint_17 : decode cX5_untouchPoint 17 = .ok (.ifCond .eq 18, 3) := dl_o153 kcX5_untouchPoint 18 (by decide +kernel) (by decide +kernel)
theorem dX5_untouchPoint_20 : decode cX5_untouchPoint 20 = .ok (.aload_n 2, 1) := dl_o44 kcX5_untouchPoint (by decide +kernel)
theorem dX5_untouchPoint_21 : decode cX5_untouchPoint 21 = .ok (.getfield 220, 3) := dl_o180 kcX5_untouchPoint (by decide +kernel)
theorem dX5_untouchPoint_24 : decode cX5_untouchPoint 24 = .ok (.iload_n 1, 1) := dl_o27 kcX5_untouchPoint (by decide +kernel)
theorem dX5_untouchPoint_25 : decode cX5_untouchPoint 25 = .ok (.dup2, 1) := dl_o92 kcX5_untouchPoint (by decide +kernel)
theorem dX5_untouchPoint_26 : decode cX5_untouchPoint 26 = .ok (.iaload, 1) := dl_o46 kcX5_untouchPoint (by decide +kernel)
theorem dX5_untouchPoint_27 : decode cX5_untouchPoint 27 = .ok (.aload_n 0, 1) := dl_o42 kcX5_untouchPoint (by decide +kernel)
theorem dX5_untouchPoint_28 : decode cX5_untouchPoint 28 = .ok (.invokevirtual 223, 3) := dl_o182 kcX5_untouchPoint (by decide +kernel)
theorem dX5_untouchPoint_31 : decode cX5_untouchPoint 31 = .ok (.iconst (-1), 1) := dl_o2 kcX5_untouchPoint (by decide +kernel)
theorem dX5_untouchPoint_32 : decode cX5_untouchPoint 32 = .ok (.ixor, 1) := dl_o130 kcX5_untouchPoint (by decide +kernel)
theorem dX5_untouchPoint_33 : decode cX5_untouchPoint 33 = .ok (.iand, 1) := dl_o126 kcX5_untouchPoint (by decide +kernel)
theorem dX5_untouchPoint_34 : decode cX5_untouchPoint 34 = .ok (.iastore, 1) := dl_o79 kcX5_untouchPoint (by decide +kernel)
theorem dX5_untouchPoint_35 : decode cX5_untouchPoint 35 = .ok (.return_, 1) := dl_o177 kcX5_untouchPoint (by decide +kernel)
def F_X5_untouchPoint  (V : sv_V) : Option sv_V := (F_X5_pop  V).bind (fun (x3, V1) => (F_X5_zone (0 : Int32) V1).bind (fun (x6, V4) => (F_X5_isThere x6 x3 V4).bind (fun (x9, V7) => if x9 = 0 then (some V7) else (if lay x6 = .inl 8 then (cr x6 4).bind (fun b12 => (sv_len 0 b12).bind (fun n14 => if sx_in x3 n14 = true then (F_X5_touchBits  V7).bind (fun (x19, V17) => if sx_in x3 n14 = true then sx_let (sv_I V17 b12 x3.toNatClampNeg ((V7.1 b12 x3.toNatClampNeg) &&& (x19 ^^^ (-1 : Int32)))) (fun V21 => some V21) else none) else none)) else none))))
set_option maxRecDepth 20000 in
theorem t_X5_untouchPoint {g : sx_G} (hG : sx_Go g) {P : Option Value → sv_V → Prop} {Vr : sv_V} (hP : P none Vr)  {V : sv_V} (h : F_X5_untouchPoint  V = some Vr) : sv_N g qX5_untouchPoint 2 0 [(0, .ref 69)] [] V P := by
  unfold F_X5_untouchPoint at h
  refine sx_aload_n (pc := 0) dX5_untouchPoint_0 sx_m0 ?_
  obtain ⟨⟨x3, V1⟩, g2, h⟩ := sx_bnd h
  refine sv_cV (pc := 1) (y := qX5_pop) (o := (some (.int x3))) (as := []) (V1 := V1) hG dX5_untouchPoint_1 l_X5_242 y0X5_pop yvX5_pop rfl (Nat.le_of_ble_eq_true rfl) lay_69 kr_5 (by decide) (Nat.le_of_ble_eq_true rfl) rfl rfl rfl (t_X5_pop hG ⟨rfl, rfl⟩ g2) ?_
  refine sx_istore_n (pc := 4) (lo' := [(1, .int x3), (0, .ref 69)]) dX5_untouchPoint_4 (by decide) rfl ?_
  refine sx_aload_n (pc := 5) dX5_untouchPoint_5 sx_m1 ?_
  refine sx_iconst (pc := 6) (v := 0) dX5_untouchPoint_6 (by decide) ?_
  obtain ⟨⟨x6, V4⟩, g5, h⟩ := sx_bnd h
  refine sv_cV (pc := 7) (y := qX5_zone) (o := (some (.ref x6))) (as := [.int (0 : Int32)]) (V1 := V4) hG dX5_untouchPoint_7 l_X5_255 y0X5_zone yvX5_zone rfl (Nat.le_of_ble_eq_true rfl) lay_69 kr_5 (by decide) (Nat.le_of_ble_eq_true rfl) rfl rfl rfl (t_X5_zone hG ⟨rfl, rfl⟩ g5) ?_
  refine sx_astore_n (pc := 10) (lo' := [(2, .ref x6), (1, .int x3), (0, .ref 69)]) dX5_untouchPoint_10 (by decide) rfl ?_
  refine sx_aload_n (pc := 11) dX5_untouchPoint_11 sx_m2 ?_
  refine sx_aload_n (pc := 12) dX5_untouchPoint_12 sx_m0 ?_
  refine sx_iload_n (pc := 13) dX5_untouchPoint_13 sx_m1 ?_
  obtain ⟨⟨x9, V7⟩, g8, h⟩ := sx_bnd h
  refine sv_cV (pc := 14) (y := qX5_isThere) (o := (some (.int x9))) (as := [.ref x6, .int x3]) (V1 := V7) hG dX5_untouchPoint_14 l_X5_259 y0X5_isThere yvX5_isThere rfl (Nat.le_of_ble_eq_true rfl) lay_69 kr_5 (by decide) (Nat.le_of_ble_eq_true rfl) rfl rfl rfl (t_X5_isThere hG ⟨rfl, rfl⟩ g8) ?_
  refine sx_if_eq (pc := 17) (tgt := 35) dX5_untouchPoint_17 (by decide) (fun c10 => ?_) (fun c10 => ?_)
  · have h := sx_pos c10 h
    exact sv_vret (pc := 35) dX5_untouchPoint_35 rfl h hP
  · have h := sx_neg c10 h
    refine sx_aload_n (pc := 20) dX5_untouchPoint_20 sx_m0 ?_
    obtain ⟨g11, h⟩ := sx_grd h
    obtain ⟨b12, g13, h⟩ := sx_bnd h
    refine sv_getA (pc := 21) hG dX5_untouchPoint_21 f_5_220 g11 rfl g13 ?_
    refine sx_iload_n (pc := 24) dX5_untouchPoint_24 sx_m1 ?_
    refine sx_dup2 (pc := 25) dX5_untouchPoint_25 rfl rfl ?_
    obtain ⟨n14, g15, h⟩ := sx_bnd h
    obtain ⟨g16, h⟩ := sx_grd h
    refine sv_iald (pc := 26) hG dX5_untouchPoint_26 (sv_len_e g15) g16 ?_
    refine sx_aload_n (pc := 27) dX5_untouchPoint_27 sx_m2 ?_
    obtain ⟨⟨x19, V17⟩, g18, h⟩ := sx_bnd h
    refine sv_cV (pc := 28) (y := qX5_touchBits) (o := (some (.int x19))) (as := []) (V1 := V17) hG dX5_untouchPoint_28 l_X5_223 y0X5_touchBits yvX5_touchBits rfl (Nat.le_of_ble_eq_true rfl) lay_69 kr_5 (by decide) (Nat.le_of_ble_eq_true rfl) rfl rfl rfl (t_X5_touchBits hG ⟨rfl, rfl⟩ g18) ?_
    refine sx_iconst (pc := 31) (v := (-1)) dX5_untouchPoint_31 (by decide) ?_
    refine sx_ixor (pc := 32) dX5_untouchPoint_32 ?_
    refine sx_iand (pc := 33) dX5_untouchPoint_33 ?_
    obtain ⟨g20, h⟩ := sx_grd h
    obtain ⟨V21, hV21⟩ : ∃ z : sv_V, z = sv_I V17 b12 x3.toNatClampNeg ((V7.1 b12 x3.toNatClampNeg) &&& (x19 ^^^ (-1 : Int32))) := ⟨_, rfl⟩
    have h := sx_letE hV21 h
    refine sv_iast (pc := 34) hG dX5_untouchPoint_34 (sv_len_e g15) g20 hV21 ?_
    exact sv_vret (pc := 35) dX5_untouchPoint_35 rfl h hP
def ncX5_alignPoints : Nat := 188873527910361983938575917129814324597031352030094611365044548824373004420177905272790154227729518725313726402143532922469849548426731205081058397946705795987697728426921786751831815722
theorem kcX5_alignPoints : CK cX5_alignPoints ncX5_alignPoints 77 := ⟨by decide +kernel, by decide +kernel⟩
theorem dX5_alignPoints_0 : decode cX5_alignPoints 0 = .ok (.aload_n 0, 1) := dl_o42 kcX5_alignPoints (by decide +kernel)
theorem dX5_alignPoints_1 : decode cX5_alignPoints 1 = .ok (.invokevirtual 242, 3) := dl_o182 kcX5_alignPoints (by decide +kernel)
theorem dX5_alignPoints_4 : decode cX5_alignPoints 4 = .ok (.istore_n 1, 1) := dl_o60 kcX5_alignPoints (by decide +kernel)
theorem dX5_alignPoints_5 : decode cX5_alignPoints 5 = .ok (.aload_n 0, 1) := dl_o42 kcX5_alignPoints (by decide +kernel)
theorem dX5_alignPoints_6 : decode cX5_alignPoints 6 = .ok (.invokevirtual 242, 3) := dl_o182 kcX5_alignPoints (by decide +kernel)
theorem dX5_alignPoints_9 : decode cX5_alignPoints 9 = .ok (.istore_n 2, 1) := dl_o61 kcX5_alignPoints (by decide +kernel)
theorem dX5_alignPoints_10 : decode cX5_alignPoints 10 = .ok (.aload_n 0, 1) := dl_o42 kcX5_alignPoints (by decide +kernel)
theorem dX5_alignPoints_11 : decode cX5_alignPoints 11 = .ok (.iconst 1, 1) := dl_o4 kcX5_alignPoints (by decide +kernel)
theorem dX5_alignPoints_12 : decode cX5_alignPoints 12 = .ok (.invokevirtual 255, 3) := dl_o182 kcX5_alignPoints (by decide +kernel)
theorem dX5_alignPoints_15 : decode cX5_alignPoints 15 = .ok (.astore_n 3, 1) := dl_o78 kcX5_alignPoints (by decide +kernel)
theorem dX5_alignPoints_16 : decode cX5_alignPoints 16 = .ok (.aload_n 0, 1) := dl_o42 kcX5_alignPoints (by decide +kernel)
theorem dX5_alignPoints_17 : decode cX5_alignPoints 17 = .ok (.iconst 0, 1) := dl_o3 kcX5_alignPoints (by decide +kernel)
theorem dX5_alignPoints_18 : decode cX5_alignPoints 18 = .ok (.invokevirtual 255, 3) := dl_o182 kcX5_alignPoints (by decide +kernel)
theorem dX5_alignPoints_21 : decode cX5_alignPoints 21 = .ok (.astore 4, 2) := dl_o58 kcX5_alignPoints (by decide +kernel)
theorem dX5_alignPoints_23 : decode cX5_alignPoints 23 = .ok (.aload_n 0, 1) := dl_o42 kcX5_alignPoints (by decide +kernel)
theorem dX5_alignPoints_24 : decode cX5_alignPoints 24 = .ok (.aload_n 3, 1) := dl_o45 kcX5_alignPoints (by decide +kernel)
theorem dX5_alignPoints_25 : decode cX5_alignPoints 25 = .ok (.iload_n 2, 1) := dl_o28 kcX5_alignPoints (by decide +kernel)
theorem dX5_alignPoints_26 : decode cX5_alignPoints 26 = .ok (.invokevirtual 259, 3) := dl_o182 kcX5_alignPoints (by decide +kernel)
theorem dX5_alignPoints_29 : decode cX5_alignPoints 29 = .ok (.ifCond .eq 13, 3) := dl_o153 kcX5_alignPoints 13 (by decide +kernel) (by decide +kernel)
theorem dX5_alignPoints_32 : decode cX5_alignPoints 32 = .ok (.aload_n 0, 1) := dl_o42 kcX5_alignPoints (by decide +kernel)
theorem dX5_alignPoints_33 : decode cX5_alignPoints 33 = .ok (.aload 4, 2) := dl_o25 kcX5_alignPoints (by decide +kernel)
theorem dX5_alignPoints_35 : decode cX5_alignPoints 35 = .ok (.iload_n 1, 1) := dl_o27 kcX5_alignPoints (by decide +kernel)
theorem dX5_alignPoints_36 : decode cX5_alignPoints 36 = .ok (.invokevirtual 259, 3) := dl_o182 kcX5_alignPoints (by decide +kernel)
theorem dX5_alignPoints_39 : decode cX5_alignPoints 39 = .ok (.ifCond .ne 4, 3) := dl_o154 kcX5_alignPoints 4 (by decide +kernel) (by decide +kernel)
theorem dX5_alignPoints_42 : decode cX5_alignPoints 42 = .ok (.return_, 1) := dl_o177 kcX5_alignPoints (by decide +kernel)
theorem dX5_alignPoints_43 : decode cX5_alignPoints 43 = .ok (.aload_n 0, 1) := dl_o42 kcX5_alignPoints (by decide +kernel)
theorem dX5_alignPoints_44 : decode cX5_alignPoints 44 = .ok (.aload 4, 2) := dl_o25 kcX5_alignPoints (by decide +kernel)
theorem dX5_alignPoints_46 : decode cX5_alignPoints 46 = .ok (.iload_n 1, 1) := dl_o27 kcX5_alignPoints (by decide +kernel)
theorem dX5_alignPoints_47 : decode cX5_alignPoints 47 = .ok (.aload_n 3, 1) := dl_o45 kcX5_alignPoints (by decide +kernel)
theorem dX5_alignPoints_48 : decode cX5_alignPoints 48 = .ok (.iload_n 2, 1) := dl_o28 kcX5_alignPoints (by decide +kernel)
theorem dX5_alignPoints_49 : decode cX5_alignPoints 49 = .ok (.invokevirtual 455, 3) := dl_o182 kcX5_alignPoints (by decide +kernel)
theorem dX5_alignPoints_52 : decode cX5_alignPoints 52 = .ok (.ldc2_w 459, 3) := dl_o20 kcX5_alignPoints (by decide +kernel)
theorem dX5_alignPoints_55 : decode cX5_alignPoints 55 = .ok (.ldiv, 1) := dl_o109 kcX5_alignPoints (by decide +kernel)
theorem dX5_alignPoints_56 : decode cX5_alignPoints 56 = .ok (.lstore 5, 2) := dl_o55 kcX5_alignPoints (by decide +kernel)
theorem dX5_alignPoints_58 : decode cX5_alignPoints 58 = .ok (.aload_n 0, 1) := dl_o42 kcX5_alignPoints (by decide +kernel)
theorem dX5_alignPoints_59 : decode cX5_alignPoints 59 = .ok (.aload_n 3, 1) := dl_o45 kcX5_alignPoints (by decide +kernel)
theorem dX5_alignPoints_60 : decode cX5_alignPoints 60 = .ok (.iload_n 2, 1) := dl_o28 kcX5_alignPoints (by decide +kernel)
theorem dX5_alignPoints_61 : decode cX5_alignPoints 61 = .ok (.lload 5, 2) := dl_o22 kcX5_alignPoints (by decide +kernel)
theorem dX5_alignPoints_63 : decode cX5_alignPoints 63 = .ok (.invokevirtual 461, 3) := dl_o182 kcX5_alignPoints (by decide +kernel)
theorem dX5_alignPoints_66 : decode cX5_alignPoints 66 = .ok (.aload_n 0, 1) := dl_o42 kcX5_alignPoints (by decide +kernel)
theorem dX5_alignPoints_67 : decode cX5_alignPoints 67 = .ok (.aload 4, 2) := dl_o25 kcX5_alignPoints (by decide +kernel)
theorem dX5_alignPoints_69 : decode cX5_alignPoints 69 = .ok (.iload_n 1, 1) := dl_o27 kcX5_alignPoints (by decide +kernel)
theorem dX5_alignPoints_70 : decode cX5_alignPoints 70 = .ok (.lload 5, 2) := dl_o22 kcX5_alignPoints (by decide +kernel)
theorem dX5_alignPoints_72 : decode cX5_alignPoints 72 = .ok (.lneg, 1) := dl_o117 kcX5_alignPoints (by decide +kernel)
theorem dX5_alignPoints_73 : decode cX5_alignPoints 73 = .ok (.invokevirtual 461, 3) := dl_o182 kcX5_alignPoints (by decide +kernel)
theorem dX5_alignPoints_76 : decode cX5_alignPoints 76 = .ok (.return_, 1) := dl_o177 kcX5_alignPoints (by decide +kernel)
def F_X5_alignPoints  (V : sv_V) : Option sv_V := (F_X5_pop  V).bind (fun (x3, V1) => (F_X5_pop  V1).bind (fun (x6, V4) => (F_X5_zone (1 : Int32) V4).bind (fun (x9, V7) => (F_X5_zone (0 : Int32) V7).bind (fun (x12, V10) => (F_X5_isThere x9 x6 V10).bind (fun (x15, V13) => if x15 = 0 then (some V13) else ((F_X5_isThere x12 x3 V13).bind (fun (x19, V17) => if x19 = 0 then (some V17) else ((F_X5_longBetween x12 x3 x9 x6 V17).bind (fun (x23, V21) => sx_let (x23 / (2 : Int64)) (fun x24 => (F_X5_move x9 x6 x24 V21).bind (fun V25 => (F_X5_move x12 x3 (-x24) V25).bind (fun V27 => some V27))))))))))))
set_option maxRecDepth 20000 in
theorem t_X5_alignPoints {g : sx_G} (hG : sx_Go g) {P : Option Value → sv_V → Prop} {Vr : sv_V} (hP : P none Vr)  {V : sv_V} (h : F_X5_alignPoints  V = some Vr) : sv_N g qX5_alignPoints 2 0 [(0, .ref 69)] [] V P := by
  unfold F_X5_alignPoints at h
  refine sx_aload_n (pc := 0) dX5_alignPoints_0 sx_m0 ?_
  obtain ⟨⟨x3, V1⟩, g2, h⟩ := sx_bnd h
  refine sv_cV (pc := 1) (y := qX5_pop) (o := (some (.int x3))) (as := []) (V1 := V1) hG dX5_alignPoints_1 l_X5_242 y0X5_pop yvX5_pop rfl (Nat.le_of_ble_eq_true rfl) lay_69 kr_5 (by decide) (Nat.le_of_ble_eq_true rfl) rfl rfl rfl (t_X5_pop hG ⟨rfl, rfl⟩ g2) ?_
  refine sx_istore_n (pc := 4) (lo' := [(1, .int x3), (0, .ref 69)]) dX5_alignPoints_4 (by decide) rfl ?_
  refine sx_aload_n (pc := 5) dX5_alignPoints_5 sx_m1 ?_
  obtain ⟨⟨x6, V4⟩, g5, h⟩ := sx_bnd h
  refine sv_cV (pc := 6) (y := qX5_pop) (o := (some (.int x6))) (as := []) (V1 := V4) hG dX5_alignPoints_6 l_X5_242 y0X5_pop yvX5_pop rfl (Nat.le_of_ble_eq_true rfl) lay_69 kr_5 (by decide) (Nat.le_of_ble_eq_true rfl) rfl rfl rfl (t_X5_pop hG ⟨rfl, rfl⟩ g5) ?_
  refine sx_istore_n (pc := 9) (lo' := [(2, .int x6), (1, .int x3), (0, .ref 69)]) dX5_alignPoints_9 (by decide) rfl ?_
  refine sx_aload_n (pc := 10) dX5_alignPoints_10 sx_m2 ?_
  refine sx_iconst (pc := 11) (v := 1) dX5_alignPoints_11 (by decide) ?_
  obtain ⟨⟨x9, V7⟩, g8, h⟩ := sx_bnd h
  refine sv_cV (pc := 12) (y := qX5_zone) (o := (some (.ref x9))) (as := [.int (1 : Int32)]) (V1 := V7) hG dX5_alignPoints_12 l_X5_255 y0X5_zone yvX5_zone rfl (Nat.le_of_ble_eq_true rfl) lay_69 kr_5 (by decide) (Nat.le_of_ble_eq_true rfl) rfl rfl rfl (t_X5_zone hG ⟨rfl, rfl⟩ g8) ?_
  refine sx_astore_n (pc := 15) (lo' := [(3, .ref x9), (2, .int x6), (1, .int x3), (0, .ref 69)]) dX5_alignPoints_15 (by decide) rfl ?_
  refine sx_aload_n (pc := 16) dX5_alignPoints_16 sx_m3 ?_
  refine sx_iconst (pc := 17) (v := 0) dX5_alignPoints_17 (by decide) ?_
  obtain ⟨⟨x12, V10⟩, g11, h⟩ := sx_bnd h
  refine sv_cV (pc := 18) (y := qX5_zone) (o := (some (.ref x12))) (as := [.int (0 : Int32)]) (V1 := V10) hG dX5_alignPoints_18 l_X5_255 y0X5_zone yvX5_zone rfl (Nat.le_of_ble_eq_true rfl) lay_69 kr_5 (by decide) (Nat.le_of_ble_eq_true rfl) rfl rfl rfl (t_X5_zone hG ⟨rfl, rfl⟩ g11) ?_
  refine sx_astore (pc := 21) (lo' := [(4, .ref x12), (3, .ref x9), (2, .int x6), (1, .int x3), (0, .ref 69)]) dX5_alignPoints_21 (by decide) rfl ?_
  refine sx_aload_n (pc := 23) dX5_alignPoints_23 sx_m4 ?_
  refine sx_aload_n (pc := 24) dX5_alignPoints_24 sx_m1 ?_
  refine sx_iload_n (pc := 25) dX5_alignPoints_25 sx_m2 ?_
  obtain ⟨⟨x15, V13⟩, g14, h⟩ := sx_bnd h
  refine sv_cV (pc := 26) (y := qX5_isThere) (o := (some (.int x15))) (as := [.ref x9, .int x6]) (V1 := V13) hG dX5_alignPoints_26 l_X5_259 y0X5_isThere yvX5_isThere rfl (Nat.le_of_ble_eq_true rfl) lay_69 kr_5 (by decide) (Nat.le_of_ble_eq_true rfl) rfl rfl rfl (t_X5_isThere hG ⟨rfl, rfl⟩ g14) ?_
  refine sx_if_eq (pc := 29) (tgt := 42) dX5_alignPoints_29 (by decide) (fun c16 => ?_) (fun c16 => ?_)
  · have h := sx_pos c16 h
    exact sv_vret (pc := 42) dX5_alignPoints_42 rfl h hP
  · have h := sx_neg c16 h
    refine sx_aload_n (pc := 32) dX5_alignPoints_32 sx_m4 ?_
    refine sx_aload (pc := 33) dX5_alignPoints_33 sx_m0 ?_
    refine sx_iload_n (pc := 35) dX5_alignPoints_35 sx_m3 ?_
    obtain ⟨⟨x19, V17⟩, g18, h⟩ := sx_bnd h
    refine sv_cV (pc := 36) (y := qX5_isThere) (o := (some (.int x19))) (as := [.ref x12, .int x3]) (V1 := V17) hG dX5_alignPoints_36 l_X5_259 y0X5_isThere yvX5_isThere rfl (Nat.le_of_ble_eq_true rfl) lay_69 kr_5 (by decide) (Nat.le_of_ble_eq_true rfl) rfl rfl rfl (t_X5_isThere hG ⟨rfl, rfl⟩ g18) ?_
    refine sx_if_ne (pc := 39) (tgt := 43) dX5_alignPoints_39 (by decide) (fun c20 => ?_) (fun c20 => ?_)
    · have h := sx_neg c20 h
      refine sx_aload_n (pc := 43) dX5_alignPoints_43 sx_m4 ?_
      refine sx_aload (pc := 44) dX5_alignPoints_44 sx_m0 ?_
      refine sx_iload_n (pc := 46) dX5_alignPoints_46 sx_m3 ?_
      refine sx_aload_n (pc := 47) dX5_alignPoints_47 sx_m1 ?_
      refine sx_iload_n (pc := 48) dX5_alignPoints_48 sx_m2 ?_
      obtain ⟨⟨x23, V21⟩, g22, h⟩ := sx_bnd h
      refine sv_cV (pc := 49) (y := qX5_longBetween) (o := (some (.long x23))) (as := [.ref x12, .int x3, .ref x9, .int x6]) (V1 := V21) hG dX5_alignPoints_49 l_X5_455 y0X5_longBetween yvX5_longBetween rfl (Nat.le_of_ble_eq_true rfl) lay_69 kr_5 (by decide) (Nat.le_of_ble_eq_true rfl) rfl rfl rfl (t_X5_longBetween hG ⟨rfl, rfl⟩ g22) ?_
      refine sx_ldc2 (pc := 52) dX5_alignPoints_52 k_X5_459 ?_
      refine sx_ldiv (pc := 55) dX5_alignPoints_55 (by decide) ?_
      refine sv_tJ (fun x24 hx24 => ?_)
      have h := sx_letE hx24 h
      refine sx_lstore (pc := 56) (lo' := [(5, .long x24), (4, .ref x12), (3, .ref x9), (2, .int x6), (1, .int x3), (0, .ref 69)]) dX5_alignPoints_56 (by decide) rfl ?_
      refine sx_aload_n (pc := 58) dX5_alignPoints_58 sx_m5 ?_
      refine sx_aload_n (pc := 59) dX5_alignPoints_59 sx_m2 ?_
      refine sx_iload_n (pc := 60) dX5_alignPoints_60 sx_m3 ?_
      refine sx_lload (pc := 61) dX5_alignPoints_61 sx_m0 ?_
      obtain ⟨V25, g26, h⟩ := sx_bnd h
      refine sv_cV (pc := 63) (y := qX5_move) (o := none) (as := [.ref x9, .int x6, .long x24]) (V1 := V25) hG dX5_alignPoints_63 l_X5_461 y0X5_move yvX5_move rfl (Nat.le_of_ble_eq_true rfl) lay_69 kr_5 (by decide) (Nat.le_of_ble_eq_true rfl) rfl rfl rfl (t_X5_move hG ⟨rfl, rfl⟩ g26) ?_
      refine sx_aload_n (pc := 66) dX5_alignPoints_66 sx_m5 ?_
      refine sx_aload (pc := 67) dX5_alignPoints_67 sx_m1 ?_
      refine sx_iload_n (pc := 69) dX5_alignPoints_69 sx_m4 ?_
      refine sx_lload (pc := 70) dX5_alignPoints_70 sx_m0 ?_
      refine sx_lneg (pc := 72) dX5_alignPoints_72 ?_
      obtain ⟨V27, g28, h⟩ := sx_bnd h
      refine sv_cV (pc := 73) (y := qX5_move) (o := none) (as := [.ref x12, .int x3, .long (-x24)]) (V1 := V27) hG dX5_alignPoints_73 l_X5_461 y0X5_move yvX5_move rfl (Nat.le_of_ble_eq_true rfl) lay_69 kr_5 (by decide) (Nat.le_of_ble_eq_true rfl) rfl rfl rfl (t_X5_move hG ⟨rfl, rfl⟩ g28) ?_
      exact sv_vret (pc := 76) dX5_alignPoints_76 rfl h hP
    · have h := sx_pos c20 h
      exact sv_vret (pc := 42) dX5_alignPoints_42 rfl h hP
def ncX5_tellLong : Nat := 671411543767311900440697927837955601987963434356151395051805609320074034237434650674468156222996665110589116561830040654653023598895031601440048222166738726415454854755882
theorem kcX5_tellLong : CK cX5_tellLong ncX5_tellLong 71 := ⟨by decide +kernel, by decide +kernel⟩
theorem dX5_tellLong_0 : decode cX5_tellLong 0 = .ok (.aload_n 0, 1) := dl_o42 kcX5_tellLong (by decide +kernel)
theorem dX5_tellLong_1 : decode cX5_tellLong 1 = .ok (.invokevirtual 242, 3) := dl_o182 kcX5_tellLong (by decide +kernel)
theorem dX5_tellLong_4 : decode cX5_tellLong 4 = .ok (.istore_n 2, 1) := dl_o61 kcX5_tellLong (by decide +kernel)
theorem dX5_tellLong_5 : decode cX5_tellLong 5 = .ok (.aload_n 0, 1) := dl_o42 kcX5_tellLong (by decide +kernel)
theorem dX5_tellLong_6 : decode cX5_tellLong 6 = .ok (.iconst 2, 1) := dl_o5 kcX5_tellLong (by decide +kernel)
theorem dX5_tellLong_7 : decode cX5_tellLong 7 = .ok (.invokevirtual 255, 3) := dl_o182 kcX5_tellLong (by decide +kernel)
theorem dX5_tellLong_10 : decode cX5_tellLong 10 = .ok (.astore_n 3, 1) := dl_o78 kcX5_tellLong (by decide +kernel)
theorem dX5_tellLong_11 : decode cX5_tellLong 11 = .ok (.aload_n 0, 1) := dl_o42 kcX5_tellLong (by decide +kernel)
theorem dX5_tellLong_12 : decode cX5_tellLong 12 = .ok (.aload_n 3, 1) := dl_o45 kcX5_tellLong (by decide +kernel)
theorem dX5_tellLong_13 : decode cX5_tellLong 13 = .ok (.iload_n 2, 1) := dl_o28 kcX5_tellLong (by decide +kernel)
theorem dX5_tellLong_14 : decode cX5_tellLong 14 = .ok (.invokevirtual 259, 3) := dl_o182 kcX5_tellLong (by decide +kernel)
theorem dX5_tellLong_17 : decode cX5_tellLong 17 = .ok (.ifCond .ne 4, 3) := dl_o154 kcX5_tellLong 4 (by decide +kernel) (by decide +kernel)
theorem dX5_tellLong_20 : decode cX5_tellLong 20 = .ok (.return_, 1) := dl_o177 kcX5_tellLong (by decide +kernel)
theorem dX5_tellLong_21 : decode cX5_tellLong 21 = .ok (.aload_n 0, 1) := dl_o42 kcX5_tellLong (by decide +kernel)
theorem dX5_tellLong_22 : decode cX5_tellLong 22 = .ok (.iload_n 1, 1) := dl_o27 kcX5_tellLong (by decide +kernel)
theorem dX5_tellLong_23 : decode cX5_tellLong 23 = .ok (.bipush 70, 2) := dl_o16 kcX5_tellLong 70 (by decide +kernel) (by decide +kernel)
theorem dX5_tellLong_25 : decode cX5_tellLong 25 = .ok (.if_icmp .ne 24, 3) := dl_o160 kcX5_tellLong 24 (by decide +kernel) (by decide +kernel)
theorem dX5_tellLong_28 : decode cX5_tellLong 28 = .ok (.aload_n 0, 1) := dl_o42 kcX5_tellLong (by decide +kernel)
theorem dX5_tellLong_29 : decode cX5_tellLong 29 = .ok (.aload_n 3, 1) := dl_o45 kcX5_tellLong (by decide +kernel)
theorem dX5_tellLong_30 : decode cX5_tellLong 30 = .ok (.getfield 198, 3) := dl_o180 kcX5_tellLong (by decide +kernel)
theorem dX5_tellLong_33 : decode cX5_tellLong 33 = .ok (.iload_n 2, 1) := dl_o28 kcX5_tellLong (by decide +kernel)
theorem dX5_tellLong_34 : decode cX5_tellLong 34 = .ok (.iaload, 1) := dl_o46 kcX5_tellLong (by decide +kernel)
theorem dX5_tellLong_35 : decode cX5_tellLong 35 = .ok (.i2l, 1) := dl_o133 kcX5_tellLong (by decide +kernel)
theorem dX5_tellLong_36 : decode cX5_tellLong 36 = .ok (.aload_n 3, 1) := dl_o45 kcX5_tellLong (by decide +kernel)
theorem dX5_tellLong_37 : decode cX5_tellLong 37 = .ok (.getfield 201, 3) := dl_o180 kcX5_tellLong (by decide +kernel)
theorem dX5_tellLong_40 : decode cX5_tellLong 40 = .ok (.iload_n 2, 1) := dl_o28 kcX5_tellLong (by decide +kernel)
theorem dX5_tellLong_41 : decode cX5_tellLong 41 = .ok (.iaload, 1) := dl_o46 kcX5_tellLong (by decide +kernel)
theorem dX5_tellLong_42 : decode cX5_tellLong 42 = .ok (.i2l, 1) := dl_o133 kcX5_tellLong (by decide +kernel)
theorem dX5_tellLong_43 : decode cX5_tellLong 43 = .ok (.invokevirtual 465, 3) := dl_o182 kcX5_tellLong (by decide +kernel)
theorem dX5_tellLong_46 : decode cX5_tellLong 46 = .ok (.goto 21, 3) := dl_o167 kcX5_tellLong 21 (by decide +kernel) (by decide +kernel)
theorem dX5_tellLong_49 : decode cX5_tellLong 49 = .ok (.aload_n 0, 1) := dl_o42 kcX5_tellLong (by decide +kernel)
theorem dX5_tellLong_50 : decode cX5_tellLong 50 = .ok (.aload_n 3, 1) := dl_o45 kcX5_tellLong (by decide +kernel)
theorem dX5_tellLong_51 : decode cX5_tellLong 51 = .ok (.getfield 204, 3) := dl_o180 kcX5_tellLong (by decide +kernel)
theorem dX5_tellLong_54 : decode cX5_tellLong 54 = .ok (.iload_n 2, 1) := dl_o28 kcX5_tellLong (by decide +kernel)
theorem dX5_tellLong_55 : decode cX5_tellLong 55 = .ok (.iaload, 1) := dl_o46 kcX5_tellLong (by decide +kernel)
theorem dX5_tellLong_56 : decode cX5_tellLong 56 = .ok (.i2l, 1) := dl_o133 kcX5_tellLong (by decide +kernel)
theorem dX5_tellLong_57 : decode cX5_tellLong 57 = .ok (.aload_n 3, 1) := dl_o45 kcX5_tellLong (by decide +kernel)
theorem dX5_tellLong_58 : decode cX5_tellLong 58 = .ok (.getfield 207, 3) := dl_o180 kcX5_tellLong (by decide +kernel)
theorem dX5_tellLong_61 : decode cX5_tellLong 61 = .ok (.iload_n 2, 1) := dl_o28 kcX5_tellLong (by decide +kernel)
theorem dX5_tellLong_62 : decode cX5_tellLong 62 = .ok (.iaload, 1) := dl_o46 kcX5_tellLong (by decide +kernel)
theorem dX5_tellLong_63 : decode cX5_tellLong 63 = .ok (.i2l, 1) := dl_o133 kcX5_tellLong (by decide +kernel)
theorem dX5_tellLong_64 : decode cX5_tellLong 64 = .ok (.invokevirtual 468, 3) := dl_o182 kcX5_tellLong (by decide +kernel)
theorem dX5_tellLong_67 : decode cX5_tellLong 67 = .ok (.invokevirtual 232, 3) := dl_o182 kcX5_tellLong (by decide +kernel)
theorem dX5_tellLong_70 : decode cX5_tellLong 70 = .ok (.return_, 1) := dl_o177 kcX5_tellLong (by decide +kernel)
def B_X5_tellLong_67  (s1 : Int64) (V : sv_V) : Option sv_V := (F_X5_push s1 V).bind (fun V1 => some V1)
set_option maxRecDepth 20000 in
theorem tB_X5_tellLong_67 {g : sx_G} (hG : sx_Go g) {P : Option Value → sv_V → Prop} {Vr : sv_V} (hP : P none Vr)   {s1 : Int64} {V : sv_V} (h : B_X5_tellLong_67  s1 V = some Vr) : sv_N g qX5_tellLong 2 67 [] [.long s1, .ref 69] V P := by
  unfold B_X5_tellLong_67 at h
  obtain ⟨V1, g2, h⟩ := sx_bnd h
  refine sv_cV (pc := 67) (y := qX5_push) (o := none) (as := [.long s1]) (V1 := V1) hG dX5_tellLong_67 l_X5_232 y0X5_push yvX5_push rfl (Nat.le_of_ble_eq_true rfl) lay_69 kr_5 (by decide) (Nat.le_of_ble_eq_true rfl) rfl rfl rfl (t_X5_push hG ⟨rfl, rfl⟩ g2) ?_
  exact sv_vret (pc := 70) dX5_tellLong_70 rfl h hP
def F_X5_tellLong (l1 : Int32) (V : sv_V) : Option sv_V := (F_X5_pop  V).bind (fun (x5, V3) => (F_X5_zone (2 : Int32) V3).bind (fun (x8, V6) => (F_X5_isThere x8 x5 V6).bind (fun (x11, V9) => if x11 = 0 then (some V9) else (if l1 = (70 : Int32) then (if lay x8 = .inl 8 then (cr x8 0).bind (fun b29 => (sv_len 0 b29).bind (fun n31 => if sx_in x5 n31 = true then (cr x8 1).bind (fun b34 => (sv_len 0 b34).bind (fun n36 => if sx_in x5 n36 = true then (F_X5_longByP ((V9.1 b29 x5.toNatClampNeg).toInt64) ((V9.1 b34 x5.toNatClampNeg).toInt64) V9).bind (fun (x41, V39) => B_X5_tellLong_67  x41 V39) else none)) else none)) else none) else (if lay x8 = .inl 8 then (cr x8 2).bind (fun b15 => (sv_len 0 b15).bind (fun n17 => if sx_in x5 n17 = true then (cr x8 3).bind (fun b20 => (sv_len 0 b20).bind (fun n22 => if sx_in x5 n22 = true then (F_X5_longByD ((V9.1 b15 x5.toNatClampNeg).toInt64) ((V9.1 b20 x5.toNatClampNeg).toInt64) V9).bind (fun (x27, V25) => B_X5_tellLong_67  x27 V25) else none)) else none)) else none)))))
set_option maxRecDepth 20000 in
theorem t_X5_tellLong {g : sx_G} (hG : sx_Go g) {P : Option Value → sv_V → Prop} {Vr : sv_V} (hP : P none Vr) {l1 : Int32} {V : sv_V} (h : F_X5_tellLong l1 V = some Vr) : sv_N g qX5_tellLong 2 0 [(0, .ref 69), (1, .int l1)] [] V P := by
  unfold F_X5_tellLong at h
  refine sx_aload_n (pc := 0) dX5_tellLong_0 sx_m0 ?_
  obtain ⟨⟨x5, V3⟩, g4, h⟩ := sx_bnd h
  refine sv_cV (pc := 1) (y := qX5_pop) (o := (some (.int x5))) (as := []) (V1 := V3) hG dX5_tellLong_1 l_X5_242 y0X5_pop yvX5_pop rfl (Nat.le_of_ble_eq_true rfl) lay_69 kr_5 (by decide) (Nat.le_of_ble_eq_true rfl) rfl rfl rfl (t_X5_pop hG ⟨rfl, rfl⟩ g4) ?_
  refine sx_istore_n (pc := 4) (lo' := [(2, .int x5), (0, .ref 69), (1, .int l1)]) dX5_tellLong_4 (by decide) rfl ?_
  refine sx_aload_n (pc := 5) dX5_tellLong_5 sx_m1 ?_
  refine sx_iconst (pc := 6) (v := 2) dX5_tellLong_6 (by decide) ?_
  obtain ⟨⟨x8, V6⟩, g7, h⟩ := sx_bnd h
  refine sv_cV (pc := 7) (y := qX5_zone) (o := (some (.ref x8))) (as := [.int (2 : Int32)]) (V1 := V6) hG dX5_tellLong_7 l_X5_255 y0X5_zone yvX5_zone rfl (Nat.le_of_ble_eq_true rfl) lay_69 kr_5 (by decide) (Nat.le_of_ble_eq_true rfl) rfl rfl rfl (t_X5_zone hG ⟨rfl, rfl⟩ g7) ?_
  refine sx_astore_n (pc := 10) (lo' := [(3, .ref x8), (2, .int x5), (0, .ref 69), (1, .int l1)]) dX5_tellLong_10 (by decide) rfl ?_
  refine sx_aload_n (pc := 11) dX5_tellLong_11 sx_m2 ?_
  refine sx_aload_n (pc := 12) dX5_tellLong_12 sx_m0 ?_
  refine sx_iload_n (pc := 13) dX5_tellLong_13 sx_m1 ?_
  obtain ⟨⟨x11, V9⟩, g10, h⟩ := sx_bnd h
  refine sv_cV (pc := 14) (y := qX5_isThere) (o := (some (.int x11))) (as := [.ref x8, .int x5]) (V1 := V9) hG dX5_tellLong_14 l_X5_259 y0X5_isThere yvX5_isThere rfl (Nat.le_of_ble_eq_true rfl) lay_69 kr_5 (by decide) (Nat.le_of_ble_eq_true rfl) rfl rfl rfl (t_X5_isThere hG ⟨rfl, rfl⟩ g10) ?_
  refine sx_if_ne (pc := 17) (tgt := 21) dX5_tellLong_17 (by decide) (fun c12 => ?_) (fun c12 => ?_)
  · have h := sx_neg c12 h
    refine sx_aload_n (pc := 21) dX5_tellLong_21 sx_m2 ?_
    refine sx_iload_n (pc := 22) dX5_tellLong_22 sx_m3 ?_
    refine sx_bipush (pc := 23) (v := 70) dX5_tellLong_23 (by decide) ?_
    refine sx_icmp_ne (pc := 25) (tgt := 49) dX5_tellLong_25 (by decide) (fun c13 => ?_) (fun c13 => ?_)
    · have h := sx_neg c13 h
      refine sx_aload_n (pc := 49) dX5_tellLong_49 sx_m2 ?_
      refine sx_aload_n (pc := 50) dX5_tellLong_50 sx_m0 ?_
      obtain ⟨g14, h⟩ := sx_grd h
      obtain ⟨b15, g16, h⟩ := sx_bnd h
      refine sv_getA (pc := 51) hG dX5_tellLong_51 f_5_204 g14 rfl g16 ?_
      refine sx_iload_n (pc := 54) dX5_tellLong_54 sx_m1 ?_
      obtain ⟨n17, g18, h⟩ := sx_bnd h
      obtain ⟨g19, h⟩ := sx_grd h
      refine sv_iald (pc := 55) hG dX5_tellLong_55 (sv_len_e g18) g19 ?_
      refine sx_i2l (pc := 56) dX5_tellLong_56 ?_
      refine sx_aload_n (pc := 57) dX5_tellLong_57 sx_m0 ?_
      obtain ⟨b20, g21, h⟩ := sx_bnd h
      refine sv_getA (pc := 58) hG dX5_tellLong_58 f_5_207 g14 rfl g21 ?_
      refine sx_iload_n (pc := 61) dX5_tellLong_61 sx_m1 ?_
      obtain ⟨n22, g23, h⟩ := sx_bnd h
      obtain ⟨g24, h⟩ := sx_grd h
      refine sv_iald (pc := 62) hG dX5_tellLong_62 (sv_len_e g23) g24 ?_
      refine sx_i2l (pc := 63) dX5_tellLong_63 ?_
      obtain ⟨⟨x27, V25⟩, g26, h⟩ := sx_bnd h
      refine sv_cV (pc := 64) (y := qX5_longByD) (o := (some (.long x27))) (as := [.long ((V9.1 b15 x5.toNatClampNeg).toInt64), .long ((V9.1 b20 x5.toNatClampNeg).toInt64)]) (V1 := V25) hG dX5_tellLong_64 l_X5_468 y0X5_longByD yvX5_longByD rfl (Nat.le_of_ble_eq_true rfl) lay_69 kr_5 (by decide) (Nat.le_of_ble_eq_true rfl) rfl rfl rfl (t_X5_longByD hG ⟨rfl, rfl⟩ g26) ?_
      refine sx_wk sx_s0 ?_
      exact tB_X5_tellLong_67 hG hP  h
    · have h := sx_pos c13 h
      refine sx_aload_n (pc := 28) dX5_tellLong_28 sx_m2 ?_
      refine sx_aload_n (pc := 29) dX5_tellLong_29 sx_m0 ?_
      obtain ⟨g28, h⟩ := sx_grd h
      obtain ⟨b29, g30, h⟩ := sx_bnd h
      refine sv_getA (pc := 30) hG dX5_tellLong_30 f_5_198 g28 rfl g30 ?_
      refine sx_iload_n (pc := 33) dX5_tellLong_33 sx_m1 ?_
      obtain ⟨n31, g32, h⟩ := sx_bnd h
      obtain ⟨g33, h⟩ := sx_grd h
      refine sv_iald (pc := 34) hG dX5_tellLong_34 (sv_len_e g32) g33 ?_
      refine sx_i2l (pc := 35) dX5_tellLong_35 ?_
      refine sx_aload_n (pc := 36) dX5_tellLong_36 sx_m0 ?_
      obtain ⟨b34, g35, h⟩ := sx_bnd h
      refine sv_getA (pc := 37) hG dX5_tellLong_37 f_5_201 g28 rfl g35 ?_
      refine sx_iload_n (pc := 40) dX5_tellLong_40 sx_m1 ?_
      obtain ⟨n36, g37, h⟩ := sx_bnd h
      obtain ⟨g38, h⟩ := sx_grd h
      refine sv_iald (pc := 41) hG dX5_tellLong_41 (sv_len_e g37) g38 ?_
      refine sx_i2l (pc := 42) dX5_tellLong_42 ?_
      obtain ⟨⟨x41, V39⟩, g40, h⟩ := sx_bnd h
      refine sv_cV (pc := 43) (y := qX5_longByP) (o := (some (.long x41))) (as := [.long ((V9.1 b29 x5.toNatClampNeg).toInt64), .long ((V9.1 b34 x5.toNatClampNeg).toInt64)]) (V1 := V39) hG dX5_tellLong_43 l_X5_465 y0X5_longByP yvX5_longByP rfl (Nat.le_of_ble_eq_true rfl) lay_69 kr_5 (by decide) (Nat.le_of_ble_eq_true rfl) rfl rfl rfl (t_X5_longByP hG ⟨rfl, rfl⟩ g40) ?_
      refine sx_goto (pc := 46) (tgt := 67) dX5_tellLong_46 (by decide) ?_
      refine sx_wk sx_s0 ?_
      exact tB_X5_tellLong_67 hG hP  h
  · have h := sx_pos c12 h
    exact sv_vret (pc := 20) dX5_tellLong_20 rfl h hP
def ncX5_setLong : Nat := 3820220419171914316070361148240437561290339392385313250449706069630952196308126633966372733690545530382129978171346057555892096607114533244808365039323433093819091714291906632417748590614603018744064972148559367419434
theorem kcX5_setLong : CK cX5_setLong ncX5_setLong 90 := ⟨by decide +kernel, by decide +kernel⟩
theorem dX5_setLong_0 : decode cX5_setLong 0 = .ok (.aload_n 0, 1) := dl_o42 kcX5_setLong (by decide +kernel)
theorem dX5_setLong_1 : decode cX5_setLong 1 = .ok (.invokevirtual 242, 3) := dl_o182 kcX5_setLong (by decide +kernel)
theorem dX5_setLong_4 : decode cX5_setLong 4 = .ok (.istore_n 1, 1) := dl_o60 kcX5_setLong (by decide +kernel)
theorem dX5_setLong_5 : decode cX5_setLong 5 = .ok (.aload_n 0, 1) := dl_o42 kcX5_setLong (by decide +kernel)
theorem dX5_setLong_6 : decode cX5_setLong 6 = .ok (.invokevirtual 242, 3) := dl_o182 kcX5_setLong (by decide +kernel)
theorem dX5_setLong_9 : decode cX5_setLong 9 = .ok (.istore_n 2, 1) := dl_o61 kcX5_setLong (by decide +kernel)
theorem dX5_setLong_10 : decode cX5_setLong 10 = .ok (.aload_n 0, 1) := dl_o42 kcX5_setLong (by decide +kernel)
theorem dX5_setLong_11 : decode cX5_setLong 11 = .ok (.iconst 2, 1) := dl_o5 kcX5_setLong (by decide +kernel)
theorem dX5_setLong_12 : decode cX5_setLong 12 = .ok (.invokevirtual 255, 3) := dl_o182 kcX5_setLong (by decide +kernel)
theorem dX5_setLong_15 : decode cX5_setLong 15 = .ok (.astore_n 3, 1) := dl_o78 kcX5_setLong (by decide +kernel)
theorem dX5_setLong_16 : decode cX5_setLong 16 = .ok (.aload_n 0, 1) := dl_o42 kcX5_setLong (by decide +kernel)
theorem dX5_setLong_17 : decode cX5_setLong 17 = .ok (.aload_n 3, 1) := dl_o45 kcX5_setLong (by decide +kernel)
theorem dX5_setLong_18 : decode cX5_setLong 18 = .ok (.iload_n 2, 1) := dl_o28 kcX5_setLong (by decide +kernel)
theorem dX5_setLong_19 : decode cX5_setLong 19 = .ok (.invokevirtual 259, 3) := dl_o182 kcX5_setLong (by decide +kernel)
theorem dX5_setLong_22 : decode cX5_setLong 22 = .ok (.ifCond .ne 4, 3) := dl_o154 kcX5_setLong 4 (by decide +kernel) (by decide +kernel)
theorem dX5_setLong_25 : decode cX5_setLong 25 = .ok (.return_, 1) := dl_o177 kcX5_setLong (by decide +kernel)
theorem dX5_setLong_26 : decode cX5_setLong 26 = .ok (.aload_n 0, 1) := dl_o42 kcX5_setLong (by decide +kernel)
theorem dX5_setLong_27 : decode cX5_setLong 27 = .ok (.aload_n 3, 1) := dl_o45 kcX5_setLong (by decide +kernel)
theorem dX5_setLong_28 : decode cX5_setLong 28 = .ok (.iload_n 2, 1) := dl_o28 kcX5_setLong (by decide +kernel)
theorem dX5_setLong_29 : decode cX5_setLong 29 = .ok (.iload_n 1, 1) := dl_o27 kcX5_setLong (by decide +kernel)
theorem dX5_setLong_30 : decode cX5_setLong 30 = .ok (.i2l, 1) := dl_o133 kcX5_setLong (by decide +kernel)
theorem dX5_setLong_31 : decode cX5_setLong 31 = .ok (.aload_n 0, 1) := dl_o42 kcX5_setLong (by decide +kernel)
theorem dX5_setLong_32 : decode cX5_setLong 32 = .ok (.aload_n 3, 1) := dl_o45 kcX5_setLong (by decide +kernel)
theorem dX5_setLong_33 : decode cX5_setLong 33 = .ok (.getfield 198, 3) := dl_o180 kcX5_setLong (by decide +kernel)
theorem dX5_setLong_36 : decode cX5_setLong 36 = .ok (.iload_n 2, 1) := dl_o28 kcX5_setLong (by decide +kernel)
theorem dX5_setLong_37 : decode cX5_setLong 37 = .ok (.iaload, 1) := dl_o46 kcX5_setLong (by decide +kernel)
theorem dX5_setLong_38 : decode cX5_setLong 38 = .ok (.i2l, 1) := dl_o133 kcX5_setLong (by decide +kernel)
theorem dX5_setLong_39 : decode cX5_setLong 39 = .ok (.aload_n 3, 1) := dl_o45 kcX5_setLong (by decide +kernel)
theorem dX5_setLong_40 : decode cX5_setLong 40 = .ok (.getfield 201, 3) := dl_o180 kcX5_setLong (by decide +kernel)
theorem dX5_setLong_43 : decode cX5_setLong 43 = .ok (.iload_n 2, 1) := dl_o28 kcX5_setLong (by decide +kernel)
theorem dX5_setLong_44 : decode cX5_setLong 44 = .ok (.iaload, 1) := dl_o46 kcX5_setLong (by decide +kernel)
theorem dX5_setLong_45 : decode cX5_setLong 45 = .ok (.i2l, 1) := dl_o133 kcX5_setLong (by decide +kernel)
theorem dX5_setLong_46 : decode cX5_setLong 46 = .ok (.invokevirtual 465, 3) := dl_o182 kcX5_setLong (by decide +kernel)
theorem dX5_setLong_49 : decode cX5_setLong 49 = .ok (.lsub, 1) := dl_o101 kcX5_setLong (by decide +kernel)
theorem dX5_setLong_50 : decode cX5_setLong 50 = .ok (.invokevirtual 461, 3) := dl_o182 kcX5_setLong (by decide +kernel)
theorem dX5_setLong_53 : decode cX5_setLong 53 = .ok (.aload_n 0, 1) := dl_o42 kcX5_setLong (by decide +kernel)
theorem dX5_setLong_54 : decode cX5_setLong 54 = .ok (.getfield 12, 3) := dl_o180 kcX5_setLong (by decide +kernel)
theorem dX5_setLong_57 : decode cX5_setLong 57 = .ok (.getfield 172, 3) := dl_o180 kcX5_setLong (by decide +kernel)
theorem dX5_setLong_60 : decode cX5_setLong 60 = .ok (.iconst 2, 1) := dl_o5 kcX5_setLong (by decide +kernel)
theorem dX5_setLong_61 : decode cX5_setLong 61 = .ok (.iaload, 1) := dl_o46 kcX5_setLong (by decide +kernel)
theorem dX5_setLong_62 : decode cX5_setLong 62 = .ok (.ifCond .ne 27, 3) := dl_o154 kcX5_setLong 27 (by decide +kernel) (by decide +kernel)
theorem dX5_setLong_65 : decode cX5_setLong 65 = .ok (.aload_n 3, 1) := dl_o45 kcX5_setLong (by decide +kernel)
theorem dX5_setLong_66 : decode cX5_setLong 66 = .ok (.getfield 204, 3) := dl_o180 kcX5_setLong (by decide +kernel)
theorem dX5_setLong_69 : decode cX5_setLong 69 = .ok (.iload_n 2, 1) := dl_o28 kcX5_setLong (by decide +kernel)
theorem dX5_setLong_70 : decode cX5_setLong 70 = .ok (.aload_n 3, 1) := dl_o45 kcX5_setLong (by decide +kernel)
theorem dX5_setLong_71 : decode cX5_setLong 71 = .ok (.getfield 198, 3) := dl_o180 kcX5_setLong (by decide +kernel)
theorem dX5_setLong_74 : decode cX5_setLong 74 = .ok (.iload_n 2, 1) := dl_o28 kcX5_setLong (by decide +kernel)
theorem dX5_setLong_75 : decode cX5_setLong 75 = .ok (.iaload, 1) := dl_o46 kcX5_setLong (by decide +kernel)
theorem dX5_setLong_76 : decode cX5_setLong 76 = .ok (.iastore, 1) := dl_o79 kcX5_setLong (by decide +kernel)
theorem dX5_setLong_77 : decode cX5_setLong 77 = .ok (.aload_n 3, 1) := dl_o45 kcX5_setLong (by decide +kernel)
theorem dX5_setLong_78 : decode cX5_setLong 78 = .ok (.getfield 207, 3) := dl_o180 kcX5_setLong (by decide +kernel)
theorem dX5_setLong_81 : decode cX5_setLong 81 = .ok (.iload_n 2, 1) := dl_o28 kcX5_setLong (by decide +kernel)
theorem dX5_setLong_82 : decode cX5_setLong 82 = .ok (.aload_n 3, 1) := dl_o45 kcX5_setLong (by decide +kernel)
theorem dX5_setLong_83 : decode cX5_setLong 83 = .ok (.getfield 201, 3) := dl_o180 kcX5_setLong (by decide +kernel)
theorem dX5_setLong_86 : decode cX5_setLong 86 = .ok (.iload_n 2, 1) := dl_o28 kcX5_setLong (by decide +kernel)
theorem dX5_setLong_87 : decode cX5_setLong 87 = .ok (.iaload, 1) := dl_o46 kcX5_setLong (by decide +kernel)
theorem dX5_setLong_88 : decode cX5_setLong 88 = .ok (.iastore, 1) := dl_o79 kcX5_setLong (by decide +kernel)
theorem dX5_setLong_89 : decode cX5_setLong 89 = .ok (.return_, 1) := dl_o177 kcX5_setLong (by decide +kernel)
def F_X5_setLong  (V : sv_V) : Option sv_V := (F_X5_pop  V).bind (fun (x3, V1) => (F_X5_pop  V1).bind (fun (x6, V4) => (F_X5_zone (2 : Int32) V4).bind (fun (x9, V7) => (F_X5_isThere x9 x6 V7).bind (fun (x12, V10) => if x12 = 0 then (some V10) else (if lay x9 = .inl 8 then (cr x9 0).bind (fun b15 => (sv_len 0 b15).bind (fun n17 => if sx_in x6 n17 = true then (cr x9 1).bind (fun b20 => (sv_len 0 b20).bind (fun n22 => if sx_in x6 n22 = true then (F_X5_longByP ((V10.1 b15 x6.toNatClampNeg).toInt64) ((V10.1 b20 x6.toNatClampNeg).toInt64) V10).bind (fun (x27, V25) => (F_X5_move x9 x6 (x3.toInt64 - x27) V25).bind (fun V28 => if (V28.1 72 (2 : Int32).toNatClampNeg) = 0 then ((cr x9 2).bind (fun b31 => if sx_in x6 n17 = true then (sv_len 0 b31).bind (fun n34 => if sx_in x6 n34 = true then sx_let (sv_I V28 b31 x6.toNatClampNeg (V28.1 b15 x6.toNatClampNeg)) (fun V37 => (cr x9 3).bind (fun b38 => if sx_in x6 n22 = true then (sv_len 0 b38).bind (fun n41 => if sx_in x6 n41 = true then sx_let (sv_I V37 b38 x6.toNatClampNeg (V37.1 b20 x6.toNatClampNeg)) (fun V44 => some V44) else none) else none)) else none) else none)) else (some V28))) else none)) else none)) else none)))))
set_option maxRecDepth 20000 in
theorem t_X5_setLong {g : sx_G} (hG : sx_Go g) {P : Option Value → sv_V → Prop} {Vr : sv_V} (hP : P none Vr)  {V : sv_V} (h : F_X5_setLong  V = some Vr) : sv_N g qX5_setLong 2 0 [(0, .ref 69)] [] V P := by
  unfold F_X5_setLong at h
  refine sx_aload_n (pc := 0) dX5_setLong_0 sx_m0 ?_
  obtain ⟨⟨x3, V1⟩, g2, h⟩ := sx_bnd h
  refine sv_cV (pc := 1) (y := qX5_pop) (o := (some (.int x3))) (as := []) (V1 := V1) hG dX5_setLong_1 l_X5_242 y0X5_pop yvX5_pop rfl (Nat.le_of_ble_eq_true rfl) lay_69 kr_5 (by decide) (Nat.le_of_ble_eq_true rfl) rfl rfl rfl (t_X5_pop hG ⟨rfl, rfl⟩ g2) ?_
  refine sx_istore_n (pc := 4) (lo' := [(1, .int x3), (0, .ref 69)]) dX5_setLong_4 (by decide) rfl ?_
  refine sx_aload_n (pc := 5) dX5_setLong_5 sx_m1 ?_
  obtain ⟨⟨x6, V4⟩, g5, h⟩ := sx_bnd h
  refine sv_cV (pc := 6) (y := qX5_pop) (o := (some (.int x6))) (as := []) (V1 := V4) hG dX5_setLong_6 l_X5_242 y0X5_pop yvX5_pop rfl (Nat.le_of_ble_eq_true rfl) lay_69 kr_5 (by decide) (Nat.le_of_ble_eq_true rfl) rfl rfl rfl (t_X5_pop hG ⟨rfl, rfl⟩ g5) ?_
  refine sx_istore_n (pc := 9) (lo' := [(2, .int x6), (1, .int x3), (0, .ref 69)]) dX5_setLong_9 (by decide) rfl ?_
  refine sx_aload_n (pc := 10) dX5_setLong_10 sx_m2 ?_
  refine sx_iconst (pc := 11) (v := 2) dX5_setLong_11 (by decide) ?_
  obtain ⟨⟨x9, V7⟩, g8, h⟩ := sx_bnd h
  refine sv_cV (pc := 12) (y := qX5_zone) (o := (some (.ref x9))) (as := [.int (2 : Int32)]) (V1 := V7) hG dX5_setLong_12 l_X5_255 y0X5_zone yvX5_zone rfl (Nat.le_of_ble_eq_true rfl) lay_69 kr_5 (by decide) (Nat.le_of_ble_eq_true rfl) rfl rfl rfl (t_X5_zone hG ⟨rfl, rfl⟩ g8) ?_
  refine sx_astore_n (pc := 15) (lo' := [(3, .ref x9), (2, .int x6), (1, .int x3), (0, .ref 69)]) dX5_setLong_15 (by decide) rfl ?_
  refine sx_aload_n (pc := 16) dX5_setLong_16 sx_m3 ?_
  refine sx_aload_n (pc := 17) dX5_setLong_17 sx_m0 ?_
  refine sx_iload_n (pc := 18) dX5_setLong_18 sx_m1 ?_
  obtain ⟨⟨x12, V10⟩, g11, h⟩ := sx_bnd h
  refine sv_cV (pc := 19) (y := qX5_isThere) (o := (some (.int x12))) (as := [.ref x9, .int x6]) (V1 := V10) hG dX5_setLong_19 l_X5_259 y0X5_isThere yvX5_isThere rfl (Nat.le_of_ble_eq_true rfl) lay_69 kr_5 (by decide) (Nat.le_of_ble_eq_true rfl) rfl rfl rfl (t_X5_isThere hG ⟨rfl, rfl⟩ g11) ?_
  refine sx_if_ne (pc := 22) (tgt := 26) dX5_setLong_22 (by decide) (fun c13 => ?_) (fun c13 => ?_)
  · have h := sx_neg c13 h
    refine sx_aload_n (pc := 26) dX5_setLong_26 sx_m3 ?_
    refine sx_aload_n (pc := 27) dX5_setLong_27 sx_m0 ?_
    refine sx_iload_n (pc := 28) dX5_setLong_28 sx_m1 ?_
    refine sx_iload_n (pc := 29) dX5_setLong_29 sx_m2 ?_
    refine sx_i2l (pc := 30) dX5_setLong_30 ?_
    refine sx_aload_n (pc := 31) dX5_setLong_31 sx_m3 ?_
    refine sx_aload_n (pc := 32) dX5_setLong_32 sx_m0 ?_
    obtain ⟨g14, h⟩ := sx_grd h
    obtain ⟨b15, g16, h⟩ := sx_bnd h
    refine sv_getA (pc := 33) hG dX5_setLong_33 f_5_198 g14 rfl g16 ?_
    refine sx_iload_n (pc := 36) dX5_setLong_36 sx_m1 ?_
    obtain ⟨n17, g18, h⟩ := sx_bnd h
    obtain ⟨g19, h⟩ := sx_grd h
    refine sv_iald (pc := 37) hG dX5_setLong_37 (sv_len_e g18) g19 ?_
    refine sx_i2l (pc := 38) dX5_setLong_38 ?_
    refine sx_aload_n (pc := 39) dX5_setLong_39 sx_m0 ?_
    obtain ⟨b20, g21, h⟩ := sx_bnd h
    refine sv_getA (pc := 40) hG dX5_setLong_40 f_5_201 g14 rfl g21 ?_
    refine sx_iload_n (pc := 43) dX5_setLong_43 sx_m1 ?_
    obtain ⟨n22, g23, h⟩ := sx_bnd h
    obtain ⟨g24, h⟩ := sx_grd h
    refine sv_iald (pc := 44) hG dX5_setLong_44 (sv_len_e g23) g24 ?_
    refine sx_i2l (pc := 45) dX5_setLong_45 ?_
    obtain ⟨⟨x27, V25⟩, g26, h⟩ := sx_bnd h
    refine sv_cV (pc := 46) (y := qX5_longByP) (o := (some (.long x27))) (as := [.long ((V10.1 b15 x6.toNatClampNeg).toInt64), .long ((V10.1 b20 x6.toNatClampNeg).toInt64)]) (V1 := V25) hG dX5_setLong_46 l_X5_465 y0X5_longByP yvX5_longByP rfl (Nat.le_of_ble_eq_true rfl) lay_69 kr_5 (by decide) (Nat.le_of_ble_eq_true rfl) rfl rfl rfl (t_X5_longByP hG ⟨rfl, rfl⟩ g26) ?_
    refine sx_lsub (pc := 49) dX5_setLong_49 ?_
    obtain ⟨V28, g29, h⟩ := sx_bnd h
    refine sv_cV (pc := 50) (y := qX5_move) (o := none) (as := [.ref x9, .int x6, .long (x3.toInt64 - x27)]) (V1 := V28) hG dX5_setLong_50 l_X5_461 y0X5_move yvX5_move rfl (Nat.le_of_ble_eq_true rfl) lay_69 kr_5 (by decide) (Nat.le_of_ble_eq_true rfl) rfl rfl rfl (t_X5_move hG ⟨rfl, rfl⟩ g29) ?_
    refine sx_aload_n (pc := 53) dX5_setLong_53 sx_m3 ?_
    refine sv_getO (pc := 54) hG dX5_setLong_54 f_5_12 lay_69 rfl cr_69_1 ?_
    refine sv_getA (pc := 57) hG dX5_setLong_57 f_5_172 lay_70 rfl cr_70_7 ?_
    refine sx_iconst (pc := 60) (v := 2) dX5_setLong_60 (by decide) ?_
    refine sv_iald (pc := 61) hG dX5_setLong_61 lay_72 (by decide) ?_
    refine sx_if_ne (pc := 62) (tgt := 89) dX5_setLong_62 (by decide) (fun c30 => ?_) (fun c30 => ?_)
    · have h := sx_neg c30 h
      exact sv_vret (pc := 89) dX5_setLong_89 rfl h hP
    · have h := sx_pos c30 h
      refine sx_aload_n (pc := 65) dX5_setLong_65 sx_m0 ?_
      obtain ⟨b31, g32, h⟩ := sx_bnd h
      refine sv_getA (pc := 66) hG dX5_setLong_66 f_5_204 g14 rfl g32 ?_
      refine sx_iload_n (pc := 69) dX5_setLong_69 sx_m1 ?_
      refine sx_aload_n (pc := 70) dX5_setLong_70 sx_m0 ?_
      refine sv_getA (pc := 71) hG dX5_setLong_71 f_5_198 g14 rfl g16 ?_
      refine sx_iload_n (pc := 74) dX5_setLong_74 sx_m1 ?_
      obtain ⟨g33, h⟩ := sx_grd h
      refine sv_iald (pc := 75) hG dX5_setLong_75 (sv_len_e g18) g33 ?_
      obtain ⟨n34, g35, h⟩ := sx_bnd h
      obtain ⟨g36, h⟩ := sx_grd h
      obtain ⟨V37, hV37⟩ : ∃ z : sv_V, z = sv_I V28 b31 x6.toNatClampNeg (V28.1 b15 x6.toNatClampNeg) := ⟨_, rfl⟩
      have h := sx_letE hV37 h
      refine sv_iast (pc := 76) hG dX5_setLong_76 (sv_len_e g35) g36 hV37 ?_
      refine sx_aload_n (pc := 77) dX5_setLong_77 sx_m0 ?_
      obtain ⟨b38, g39, h⟩ := sx_bnd h
      refine sv_getA (pc := 78) hG dX5_setLong_78 f_5_207 g14 rfl g39 ?_
      refine sx_iload_n (pc := 81) dX5_setLong_81 sx_m1 ?_
      refine sx_aload_n (pc := 82) dX5_setLong_82 sx_m0 ?_
      refine sv_getA (pc := 83) hG dX5_setLong_83 f_5_201 g14 rfl g21 ?_
      refine sx_iload_n (pc := 86) dX5_setLong_86 sx_m1 ?_
      obtain ⟨g40, h⟩ := sx_grd h
      refine sv_iald (pc := 87) hG dX5_setLong_87 (sv_len_e g23) g40 ?_
      obtain ⟨n41, g42, h⟩ := sx_bnd h
      obtain ⟨g43, h⟩ := sx_grd h
      obtain ⟨V44, hV44⟩ : ∃ z : sv_V, z = sv_I V37 b38 x6.toNatClampNeg (V37.1 b20 x6.toNatClampNeg) := ⟨_, rfl⟩
      have h := sx_letE hV44 h
      refine sv_iast (pc := 88) hG dX5_setLong_88 (sv_len_e g42) g43 hV44 ?_
      exact sv_vret (pc := 89) dX5_setLong_89 rfl h hP
  · have h := sx_pos c13 h
    exact sv_vret (pc := 25) dX5_setLong_25 rfl h hP
end
section
/-! methods: X5_tellDistance, X5_fillBetween, X5_shiftPoints, X5_shiftContour, X5_shiftZone, X5_shiftByPixels, X5_interpolate, X5_alignToReference, X5_plant, X5_moveFromReference, X5_orSingle, X5_atLeast, X5_applyDelta -/
def ncX5_tellDistance : Nat := 12385356916058469070451888697189987968392688318873786838188628235207055617917105356452774347615243695682491126039008510508749861299913966985956046007698909850608604684518670247507436880573994
theorem kcX5_tellDistance : CK cX5_tellDistance ncX5_tellDistance 79 := ⟨by decide +kernel, by decide +kernel⟩
theorem dX5_tellDistance_0 : decode cX5_tellDistance 0 = .ok (.aload_n 0, 1) := dl_o42 kcX5_tellDistance (by decide +kernel)
theorem dX5_tellDistance_1 : decode cX5_tellDistance 1 = .ok (.invokevirtual 242, 3) := dl_o182 kcX5_tellDistance (by decide +kernel)
theorem dX5_tellDistance_4 : decode cX5_tellDistance 4 = .ok (.istore_n 2, 1) := dl_o61 kcX5_tellDistance (by decide +kernel)
theorem dX5_tellDistance_5 : decode cX5_tellDistance 5 = .ok (.aload_n 0, 1) := dl_o42 kcX5_tellDistance (by decide +kernel)
theorem dX5_tellDistance_6 : decode cX5_tellDistance 6 = .ok (.invokevirtual 242, 3) := dl_o182 kcX5_tellDistance (by decide +kernel)
theorem dX5_tellDistance_9 : decode cX5_tellDistance 9 = .ok (.istore_n 3, 1) := dl_o62 kcX5_tellDistance (by decide +kernel)
theorem dX5_tellDistance_10 : decode cX5_tellDistance 10 = .ok (.aload_n 0, 1) := dl_o42 kcX5_tellDistance (by decide +kernel)
theorem dX5_tellDistance_11 : decode cX5_tellDistance 11 = .ok (.iconst 0, 1) := dl_o3 kcX5_tellDistance (by decide +kernel)
theorem dX5_tellDistance_12 : decode cX5_tellDistance 12 = .ok (.invokevirtual 255, 3) := dl_o182 kcX5_tellDistance (by decide +kernel)
theorem dX5_tellDistance_15 : decode cX5_tellDistance 15 = .ok (.astore 4, 2) := dl_o58 kcX5_tellDistance (by decide +kernel)
theorem dX5_tellDistance_17 : decode cX5_tellDistance 17 = .ok (.aload_n 0, 1) := dl_o42 kcX5_tellDistance (by decide +kernel)
theorem dX5_tellDistance_18 : decode cX5_tellDistance 18 = .ok (.iconst 1, 1) := dl_o4 kcX5_tellDistance (by decide +kernel)
theorem dX5_tellDistance_19 : decode cX5_tellDistance 19 = .ok (.invokevirtual 255, 3) := dl_o182 kcX5_tellDistance (by decide +kernel)
theorem dX5_tellDistance_22 : decode cX5_tellDistance 22 = .ok (.astore 5, 2) := dl_o58 kcX5_tellDistance (by decide +kernel)
theorem dX5_tellDistance_24 : decode cX5_tellDistance 24 = .ok (.aload_n 0, 1) := dl_o42 kcX5_tellDistance (by decide +kernel)
theorem dX5_tellDistance_25 : decode cX5_tellDistance 25 = .ok (.aload 4, 2) := dl_o25 kcX5_tellDistance (by decide +kernel)
theorem dX5_tellDistance_27 : decode cX5_tellDistance 27 = .ok (.iload_n 3, 1) := dl_o29 kcX5_tellDistance (by decide +kernel)
theorem dX5_tellDistance_28 : decode cX5_tellDistance 28 = .ok (.invokevirtual 259, 3) := dl_o182 kcX5_tellDistance (by decide +kernel)
theorem dX5_tellDistance_31 : decode cX5_tellDistance 31 = .ok (.ifCond .eq 13, 3) := dl_o153 kcX5_tellDistance 13 (by decide +kernel) (by decide +kernel)
theorem dX5_tellDistance_34 : decode cX5_tellDistance 34 = .ok (.aload_n 0, 1) := dl_o42 kcX5_tellDistance (by decide +kernel)
theorem dX5_tellDistance_35 : decode cX5_tellDistance 35 = .ok (.aload 5, 2) := dl_o25 kcX5_tellDistance (by decide +kernel)
theorem dX5_tellDistance_37 : decode cX5_tellDistance 37 = .ok (.iload_n 2, 1) := dl_o28 kcX5_tellDistance (by decide +kernel)
theorem dX5_tellDistance_38 : decode cX5_tellDistance 38 = .ok (.invokevirtual 259, 3) := dl_o182 kcX5_tellDistance (by decide +kernel)
theorem dX5_tellDistance_41 : decode cX5_tellDistance 41 = .ok (.ifCond .ne 4, 3) := dl_o154 kcX5_tellDistance 4 (by decide +kernel) (by decide +kernel)
theorem dX5_tellDistance_44 : decode cX5_tellDistance 44 = .ok (.return_, 1) := dl_o177 kcX5_tellDistance (by decide +kernel)
theorem dX5_tellDistance_45 : decode cX5_tellDistance 45 = .ok (.aload_n 0, 1) := dl_o42 kcX5_tellDistance (by decide +kernel)
theorem dX5_tellDistance_46 : decode cX5_tellDistance 46 = .ok (.iload_n 1, 1) := dl_o27 kcX5_tellDistance (by decide +kernel)
theorem dX5_tellDistance_47 : decode cX5_tellDistance 47 = .ok (.bipush 73, 2) := dl_o16 kcX5_tellDistance 73 (by decide +kernel) (by decide +kernel)
theorem dX5_tellDistance_49 : decode cX5_tellDistance 49 = .ok (.if_icmp .ne 16, 3) := dl_o160 kcX5_tellDistance 16 (by decide +kernel) (by decide +kernel)
theorem dX5_tellDistance_52 : decode cX5_tellDistance 52 = .ok (.aload_n 0, 1) := dl_o42 kcX5_tellDistance (by decide +kernel)
theorem dX5_tellDistance_53 : decode cX5_tellDistance 53 = .ok (.aload 4, 2) := dl_o25 kcX5_tellDistance (by decide +kernel)
theorem dX5_tellDistance_55 : decode cX5_tellDistance 55 = .ok (.iload_n 3, 1) := dl_o29 kcX5_tellDistance (by decide +kernel)
theorem dX5_tellDistance_56 : decode cX5_tellDistance 56 = .ok (.aload 5, 2) := dl_o25 kcX5_tellDistance (by decide +kernel)
theorem dX5_tellDistance_58 : decode cX5_tellDistance 58 = .ok (.iload_n 2, 1) := dl_o28 kcX5_tellDistance (by decide +kernel)
theorem dX5_tellDistance_59 : decode cX5_tellDistance 59 = .ok (.invokevirtual 455, 3) := dl_o182 kcX5_tellDistance (by decide +kernel)
theorem dX5_tellDistance_62 : decode cX5_tellDistance 62 = .ok (.goto 13, 3) := dl_o167 kcX5_tellDistance 13 (by decide +kernel) (by decide +kernel)
theorem dX5_tellDistance_65 : decode cX5_tellDistance 65 = .ok (.aload_n 0, 1) := dl_o42 kcX5_tellDistance (by decide +kernel)
theorem dX5_tellDistance_66 : decode cX5_tellDistance 66 = .ok (.aload 4, 2) := dl_o25 kcX5_tellDistance (by decide +kernel)
theorem dX5_tellDistance_68 : decode cX5_tellDistance 68 = .ok (.iload_n 3, 1) := dl_o29 kcX5_tellDistance (by decide +kernel)
theorem dX5_tellDistance_69 : decode cX5_tellDistance 69 = .ok (.aload 5, 2) := dl_o25 kcX5_tellDistance (by decide +kernel)
theorem dX5_tellDistance_71 : decode cX5_tellDistance 71 = .ok (.iload_n 2, 1) := dl_o28 kcX5_tellDistance (by decide +kernel)
theorem dX5_tellDistance_72 : decode cX5_tellDistance 72 = .ok (.invokevirtual 471, 3) := dl_o182 kcX5_tellDistance (by decide +kernel)
theorem dX5_tellDistance_75 : decode cX5_tellDistance 75 = .ok (.invokevirtual 232, 3) := dl_o182 kcX5_tellDistance (by decide +kernel)
theorem dX5_tellDistance_78 : decode cX5_tellDistance 78 = .ok (.return_, 1) := dl_o177 kcX5_tellDistance (by decide +kernel)
def B_X5_tellDistance_75  (s1 : Int64) (V : sv_V) : Option sv_V := (F_X5_push s1 V).bind (fun V1 => some V1)
set_option maxRecDepth 20000 in
theorem tB_X5_tellDistance_75 {g : sx_G} (hG : sx_Go g) {P : Option Value → sv_V → Prop} {Vr : sv_V} (hP : P none Vr)   {s1 : Int64} {V : sv_V} (h : B_X5_tellDistance_75  s1 V = some Vr) : sv_N g qX5_tellDistance 2 75 [] [.long s1, .ref 69] V P := by
  unfold B_X5_tellDistance_75 at h
  obtain ⟨V1, g2, h⟩ := sx_bnd h
  refine sv_cV (pc := 75) (y := qX5_push) (o := none) (as := [.long s1]) (V1 := V1) hG dX5_tellDistance_75 l_X5_232 y0X5_push yvX5_push rfl (Nat.le_of_ble_eq_true rfl) lay_69 kr_5 (by decide) (Nat.le_of_ble_eq_true rfl) rfl rfl rfl (t_X5_push hG ⟨rfl, rfl⟩ g2) ?_
  exact sv_vret (pc := 78) dX5_tellDistance_78 rfl h hP
def F_X5_tellDistance (l1 : Int32) (V : sv_V) : Option sv_V := (F_X5_pop  V).bind (fun (x5, V3) => (F_X5_pop  V3).bind (fun (x8, V6) => (F_X5_zone (0 : Int32) V6).bind (fun (x11, V9) => (F_X5_zone (1 : Int32) V9).bind (fun (x14, V12) => (F_X5_isThere x11 x8 V12).bind (fun (x17, V15) => if x17 = 0 then (some V15) else ((F_X5_isThere x14 x5 V15).bind (fun (x21, V19) => if x21 = 0 then (some V19) else (if l1 = (73 : Int32) then ((F_X5_longBetween x11 x8 x14 x5 V19).bind (fun (x29, V27) => B_X5_tellDistance_75  x29 V27)) else ((F_X5_originalBetween x11 x8 x14 x5 V19).bind (fun (x26, V24) => B_X5_tellDistance_75  x26 V24))))))))))
set_option maxRecDepth 20000 in
theorem t_X5_tellDistance {g : sx_G} (hG : sx_Go g) {P : Option Value → sv_V → Prop} {Vr : sv_V} (hP : P none Vr) {l1 : Int32} {V : sv_V} (h : F_X5_tellDistance l1 V = some Vr) : sv_N g qX5_tellDistance 2 0 [(0, .ref 69), (1, .int l1)] [] V P := by
  unfold F_X5_tellDistance at h
  refine sx_aload_n (pc := 0) dX5_tellDistance_0 sx_m0 ?_
  obtain ⟨⟨x5, V3⟩, g4, h⟩ := sx_bnd h
  refine sv_cV (pc := 1) (y := qX5_pop) (o := (some (.int x5))) (as := []) (V1 := V3) hG dX5_tellDistance_1 l_X5_242 y0X5_pop yvX5_pop rfl (Nat.le_of_ble_eq_true rfl) lay_69 kr_5 (by decide) (Nat.le_of_ble_eq_true rfl) rfl rfl rfl (t_X5_pop hG ⟨rfl, rfl⟩ g4) ?_
  refine sx_istore_n (pc := 4) (lo' := [(2, .int x5), (0, .ref 69), (1, .int l1)]) dX5_tellDistance_4 (by decide) rfl ?_
  refine sx_aload_n (pc := 5) dX5_tellDistance_5 sx_m1 ?_
  obtain ⟨⟨x8, V6⟩, g7, h⟩ := sx_bnd h
  refine sv_cV (pc := 6) (y := qX5_pop) (o := (some (.int x8))) (as := []) (V1 := V6) hG dX5_tellDistance_6 l_X5_242 y0X5_pop yvX5_pop rfl (Nat.le_of_ble_eq_true rfl) lay_69 kr_5 (by decide) (Nat.le_of_ble_eq_true rfl) rfl rfl rfl (t_X5_pop hG ⟨rfl, rfl⟩ g7) ?_
  refine sx_istore_n (pc := 9) (lo' := [(3, .int x8), (2, .int x5), (0, .ref 69), (1, .int l1)]) dX5_tellDistance_9 (by decide) rfl ?_
  refine sx_aload_n (pc := 10) dX5_tellDistance_10 sx_m2 ?_
  refine sx_iconst (pc := 11) (v := 0) dX5_tellDistance_11 (by decide) ?_
  obtain ⟨⟨x11, V9⟩, g10, h⟩ := sx_bnd h
  refine sv_cV (pc := 12) (y := qX5_zone) (o := (some (.ref x11))) (as := [.int (0 : Int32)]) (V1 := V9) hG dX5_tellDistance_12 l_X5_255 y0X5_zone yvX5_zone rfl (Nat.le_of_ble_eq_true rfl) lay_69 kr_5 (by decide) (Nat.le_of_ble_eq_true rfl) rfl rfl rfl (t_X5_zone hG ⟨rfl, rfl⟩ g10) ?_
  refine sx_astore (pc := 15) (lo' := [(4, .ref x11), (3, .int x8), (2, .int x5), (0, .ref 69), (1, .int l1)]) dX5_tellDistance_15 (by decide) rfl ?_
  refine sx_aload_n (pc := 17) dX5_tellDistance_17 sx_m3 ?_
  refine sx_iconst (pc := 18) (v := 1) dX5_tellDistance_18 (by decide) ?_
  obtain ⟨⟨x14, V12⟩, g13, h⟩ := sx_bnd h
  refine sv_cV (pc := 19) (y := qX5_zone) (o := (some (.ref x14))) (as := [.int (1 : Int32)]) (V1 := V12) hG dX5_tellDistance_19 l_X5_255 y0X5_zone yvX5_zone rfl (Nat.le_of_ble_eq_true rfl) lay_69 kr_5 (by decide) (Nat.le_of_ble_eq_true rfl) rfl rfl rfl (t_X5_zone hG ⟨rfl, rfl⟩ g13) ?_
  refine sx_astore (pc := 22) (lo' := [(5, .ref x14), (4, .ref x11), (3, .int x8), (2, .int x5), (0, .ref 69), (1, .int l1)]) dX5_tellDistance_22 (by decide) rfl ?_
  refine sx_aload_n (pc := 24) dX5_tellDistance_24 sx_m4 ?_
  refine sx_aload (pc := 25) dX5_tellDistance_25 sx_m1 ?_
  refine sx_iload_n (pc := 27) dX5_tellDistance_27 sx_m2 ?_
  obtain ⟨⟨x17, V15⟩, g16, h⟩ := sx_bnd h
  refine sv_cV (pc := 28) (y := qX5_isThere) (o := (some (.int x17))) (as := [.ref x11, .int x8]) (V1 := V15) hG dX5_tellDistance_28 l_X5_259 y0X5_isThere yvX5_isThere rfl (Nat.le_of_ble_eq_true rfl) lay_69 kr_5 (by decide) (Nat.le_of_ble_eq_true rfl) rfl rfl rfl (t_X5_isThere hG ⟨rfl, rfl⟩ g16) ?_
  refine sx_if_eq (pc := 31) (tgt := 44) dX5_tellDistance_31 (by decide) (fun c18 => ?_) (fun c18 => ?_)
  · have h := sx_pos c18 h
    exact sv_vret (pc := 44) dX5_tellDistance_44 rfl h hP
  · have h := sx_neg c18 h
    refine sx_aload_n (pc := 34) dX5_tellDistance_34 sx_m4 ?_
    refine sx_aload (pc := 35) dX5_tellDistance_35 sx_m0 ?_
    refine sx_iload_n (pc := 37) dX5_tellDistance_37 sx_m3 ?_
    obtain ⟨⟨x21, V19⟩, g20, h⟩ := sx_bnd h
    refine sv_cV (pc := 38) (y := qX5_isThere) (o := (some (.int x21))) (as := [.ref x14, .int x5]) (V1 := V19) hG dX5_tellDistance_38 l_X5_259 y0X5_isThere yvX5_isThere rfl (Nat.le_of_ble_eq_true rfl) lay_69 kr_5 (by decide) (Nat.le_of_ble_eq_true rfl) rfl rfl rfl (t_X5_isThere hG ⟨rfl, rfl⟩ g20) ?_
    refine sx_if_ne (pc := 41) (tgt := 45) dX5_tellDistance_41 (by decide) (fun c22 => ?_) (fun c22 => ?_)
    · have h := sx_neg c22 h
      refine sx_aload_n (pc := 45) dX5_tellDistance_45 sx_m4 ?_
      refine sx_iload_n (pc := 46) dX5_tellDistance_46 sx_m5 ?_
      refine sx_bipush (pc := 47) (v := 73) dX5_tellDistance_47 (by decide) ?_
      refine sx_icmp_ne (pc := 49) (tgt := 65) dX5_tellDistance_49 (by decide) (fun c23 => ?_) (fun c23 => ?_)
      · have h := sx_neg c23 h
        refine sx_aload_n (pc := 65) dX5_tellDistance_65 sx_m4 ?_
        refine sx_aload (pc := 66) dX5_tellDistance_66 sx_m1 ?_
        refine sx_iload_n (pc := 68) dX5_tellDistance_68 sx_m2 ?_
        refine sx_aload (pc := 69) dX5_tellDistance_69 sx_m0 ?_
        refine sx_iload_n (pc := 71) dX5_tellDistance_71 sx_m3 ?_
        obtain ⟨⟨x26, V24⟩, g25, h⟩ := sx_bnd h
        refine sv_cV (pc := 72) (y := qX5_originalBetween) (o := (some (.long x26))) (as := [.ref x11, .int x8, .ref x14, .int x5]) (V1 := V24) hG dX5_tellDistance_72 l_X5_471 y0X5_originalBetween yvX5_originalBetween rfl (Nat.le_of_ble_eq_true rfl) lay_69 kr_5 (by decide) (Nat.le_of_ble_eq_true rfl) rfl rfl rfl (t_X5_originalBetween hG ⟨rfl, rfl⟩ g25) ?_
        refine sx_wk sx_s0 ?_
        exact tB_X5_tellDistance_75 hG hP  h
      · have h := sx_pos c23 h
        refine sx_aload_n (pc := 52) dX5_tellDistance_52 sx_m4 ?_
        refine sx_aload (pc := 53) dX5_tellDistance_53 sx_m1 ?_
        refine sx_iload_n (pc := 55) dX5_tellDistance_55 sx_m2 ?_
        refine sx_aload (pc := 56) dX5_tellDistance_56 sx_m0 ?_
        refine sx_iload_n (pc := 58) dX5_tellDistance_58 sx_m3 ?_
        obtain ⟨⟨x29, V27⟩, g28, h⟩ := sx_bnd h
        refine sv_cV (pc := 59) (y := qX5_longBetween) (o := (some (.long x29))) (as := [.ref x11, .int x8, .ref x14, .int x5]) (V1 := V27) hG dX5_tellDistance_59 l_X5_455 y0X5_longBetween yvX5_longBetween rfl (Nat.le_of_ble_eq_true rfl) lay_69 kr_5 (by decide) (Nat.le_of_ble_eq_true rfl) rfl rfl rfl (t_X5_longBetween hG ⟨rfl, rfl⟩ g28) ?_
        refine sx_goto (pc := 62) (tgt := 75) dX5_tellDistance_62 (by decide) ?_
        refine sx_wk sx_s0 ?_
        exact tB_X5_tellDistance_75 hG hP  h
    · have h := sx_pos c22 h
      exact sv_vret (pc := 44) dX5_tellDistance_44 rfl h hP
def ncX5_fillBetween : Nat := 15325622468629753232004892802493855017042871509551447337250661007045860300314227642784893160629212760441044546062061427568095446802994127209987917745685746761791283581830912615659525813797123305623791538961263656305507400444329957364659906362569621218201722450961372197198855846384310369936397855938577094223507140647490484505679752780599865155857808435162573611565691781654270190221176874634642131811822165728926842162557055371365662200464346222245429136827800899099854718942740958874091470801859181308077850301703728426740031243541629334745946781182788149547167167530
theorem kcX5_fillBetween : CK cX5_fillBetween ncX5_fillBetween 236 := ⟨by decide +kernel, by decide +kernel⟩
theorem dX5_fillBetween_0 : decode cX5_fillBetween 0 = .ok (.aload_n 0, 1) := dl_o42 kcX5_fillBetween (by decide +kernel)
theorem dX5_fillBetween_1 : decode cX5_fillBetween 1 = .ok (.getfield 38, 3) := dl_o180 kcX5_fillBetween (by decide +kernel)
theorem dX5_fillBetween_4 : decode cX5_fillBetween 4 = .ok (.iload 5, 2) := dl_o21 kcX5_fillBetween (by decide +kernel)
theorem dX5_fillBetween_6 : decode cX5_fillBetween 6 = .ok (.invokevirtual 483, 3) := dl_o182 kcX5_fillBetween (by decide +kernel)
theorem dX5_fillBetween_9 : decode cX5_fillBetween 9 = .ok (.istore 6, 2) := dl_o54 kcX5_fillBetween (by decide +kernel)
theorem dX5_fillBetween_11 : decode cX5_fillBetween 11 = .ok (.aload_n 0, 1) := dl_o42 kcX5_fillBetween (by decide +kernel)
theorem dX5_fillBetween_12 : decode cX5_fillBetween 12 = .ok (.getfield 38, 3) := dl_o180 kcX5_fillBetween (by decide +kernel)
theorem dX5_fillBetween_15 : decode cX5_fillBetween 15 = .ok (.getfield 486, 3) := dl_o180 kcX5_fillBetween (by decide +kernel)
theorem dX5_fillBetween_18 : decode cX5_fillBetween 18 = .ok (.iload 5, 2) := dl_o21 kcX5_fillBetween (by decide +kernel)
theorem dX5_fillBetween_20 : decode cX5_fillBetween 20 = .ok (.iaload, 1) := dl_o46 kcX5_fillBetween (by decide +kernel)
theorem dX5_fillBetween_21 : decode cX5_fillBetween 21 = .ok (.istore 7, 2) := dl_o54 kcX5_fillBetween (by decide +kernel)
theorem dX5_fillBetween_23 : decode cX5_fillBetween 23 = .ok (.aload_n 1, 1) := dl_o43 kcX5_fillBetween (by decide +kernel)
theorem dX5_fillBetween_24 : decode cX5_fillBetween 24 = .ok (.iload 4, 2) := dl_o21 kcX5_fillBetween (by decide +kernel)
theorem dX5_fillBetween_26 : decode cX5_fillBetween 26 = .ok (.iaload, 1) := dl_o46 kcX5_fillBetween (by decide +kernel)
theorem dX5_fillBetween_27 : decode cX5_fillBetween 27 = .ok (.aload_n 1, 1) := dl_o43 kcX5_fillBetween (by decide +kernel)
theorem dX5_fillBetween_28 : decode cX5_fillBetween 28 = .ok (.iload_n 3, 1) := dl_o29 kcX5_fillBetween (by decide +kernel)
theorem dX5_fillBetween_29 : decode cX5_fillBetween 29 = .ok (.iaload, 1) := dl_o46 kcX5_fillBetween (by decide +kernel)
theorem dX5_fillBetween_30 : decode cX5_fillBetween 30 = .ok (.if_icmp .ge 7, 3) := dl_o162 kcX5_fillBetween 7 (by decide +kernel) (by decide +kernel)
theorem dX5_fillBetween_33 : decode cX5_fillBetween 33 = .ok (.iconst 1, 1) := dl_o4 kcX5_fillBetween (by decide +kernel)
theorem dX5_fillBetween_34 : decode cX5_fillBetween 34 = .ok (.goto 4, 3) := dl_o167 kcX5_fillBetween 4 (by decide +kernel) (by decide +kernel)
theorem dX5_fillBetween_37 : decode cX5_fillBetween 37 = .ok (.iconst 0, 1) := dl_o3 kcX5_fillBetween (by decide +kernel)
theorem dX5_fillBetween_38 : decode cX5_fillBetween 38 = .ok (.istore 8, 2) := dl_o54 kcX5_fillBetween (by decide +kernel)
theorem dX5_fillBetween_40 : decode cX5_fillBetween 40 = .ok (.iload 8, 2) := dl_o21 kcX5_fillBetween (by decide +kernel)
theorem dX5_fillBetween_42 : decode cX5_fillBetween 42 = .ok (.ifCond .eq 8, 3) := dl_o153 kcX5_fillBetween 8 (by decide +kernel) (by decide +kernel)
theorem dX5_fillBetween_45 : decode cX5_fillBetween 45 = .ok (.iload 4, 2) := dl_o21 kcX5_fillBetween (by decide +kernel)
theorem dX5_fillBetween_47 : decode cX5_fillBetween 47 = .ok (.goto 4, 3) := dl_o167 kcX5_fillBetween 4 (by decide +kernel) (by decide +kernel)
theorem dX5_fillBetween_50 : decode cX5_fillBetween 50 = .ok (.iload_n 3, 1) := dl_o29 kcX5_fillBetween (by decide +kernel)
theorem dX5_fillBetween_51 : decode cX5_fillBetween 51 = .ok (.istore 9, 2) := dl_o54 kcX5_fillBetween (by decide +kernel)
theorem dX5_fillBetween_53 : decode cX5_fillBetween 53 = .ok (.iload 8, 2) := dl_o21 kcX5_fillBetween (by decide +kernel)
theorem dX5_fillBetween_55 : decode cX5_fillBetween 55 = .ok (.ifCond .eq 7, 3) := dl_o153 kcX5_fillBetween 7 (by decide +kernel) (by decide +kernel)
theorem dX5_fillBetween_58 : decode cX5_fillBetween 58 = .ok (.iload_n 3, 1) := dl_o29 kcX5_fillBetween (by decide +kernel)
theorem dX5_fillBetween_59 : decode cX5_fillBetween 59 = .ok (.goto 5, 3) := dl_o167 kcX5_fillBetween 5 (by decide +kernel) (by decide +kernel)
theorem dX5_fillBetween_62 : decode cX5_fillBetween 62 = .ok (.iload 4, 2) := dl_o21 kcX5_fillBetween (by decide +kernel)
theorem dX5_fillBetween_64 : decode cX5_fillBetween 64 = .ok (.istore 10, 2) := dl_o54 kcX5_fillBetween (by decide +kernel)
theorem dX5_fillBetween_66 : decode cX5_fillBetween 66 = .ok (.iload_n 3, 1) := dl_o29 kcX5_fillBetween (by decide +kernel)
theorem dX5_fillBetween_67 : decode cX5_fillBetween 67 = .ok (.iload 7, 2) := dl_o21 kcX5_fillBetween (by decide +kernel)
theorem dX5_fillBetween_69 : decode cX5_fillBetween 69 = .ok (.if_icmp .ne 8, 3) := dl_o160 kcX5_fillBetween 8 (by decide +kernel) (by decide +kernel)
theorem dX5_fillBetween_72 : decode cX5_fillBetween 72 = .ok (.iload 6, 2) := dl_o21 kcX5_fillBetween (by decide +kernel)
theorem dX5_fillBetween_74 : decode cX5_fillBetween 74 = .ok (.goto 6, 3) := dl_o167 kcX5_fillBetween 6 (by decide +kernel) (by decide +kernel)
theorem dX5_fillBetween_77 : decode cX5_fillBetween 77 = .ok (.iload_n 3, 1) := dl_o29 kcX5_fillBetween (by decide +kernel)
theorem dX5_fillBetween_78 : decode cX5_fillBetween 78 = .ok (.iconst 1, 1) := dl_o4 kcX5_fillBetween (by decide +kernel)
theorem dX5_fillBetween_79 : decode cX5_fillBetween 79 = .ok (.iadd, 1) := dl_o96 kcX5_fillBetween (by decide +kernel)
theorem dX5_fillBetween_80 : decode cX5_fillBetween 80 = .ok (.istore 11, 2) := dl_o54 kcX5_fillBetween (by decide +kernel)
theorem dX5_fillBetween_82 : decode cX5_fillBetween 82 = .ok (.iconst 0, 1) := dl_o3 kcX5_fillBetween (by decide +kernel)
theorem dX5_fillBetween_83 : decode cX5_fillBetween 83 = .ok (.istore 12, 2) := dl_o54 kcX5_fillBetween (by decide +kernel)
theorem dX5_fillBetween_85 : decode cX5_fillBetween 85 = .ok (.iload 12, 2) := dl_o21 kcX5_fillBetween (by decide +kernel)
theorem dX5_fillBetween_87 : decode cX5_fillBetween 87 = .ok (.bipush 100, 2) := dl_o16 kcX5_fillBetween 100 (by decide +kernel) (by decide +kernel)
theorem dX5_fillBetween_89 : decode cX5_fillBetween 89 = .ok (.if_icmp .ge 146, 3) := dl_o162 kcX5_fillBetween 146 (by decide +kernel) (by decide +kernel)
theorem dX5_fillBetween_92 : decode cX5_fillBetween 92 = .ok (.iload 11, 2) := dl_o21 kcX5_fillBetween (by decide +kernel)
theorem dX5_fillBetween_94 : decode cX5_fillBetween 94 = .ok (.iload 4, 2) := dl_o21 kcX5_fillBetween (by decide +kernel)
theorem dX5_fillBetween_96 : decode cX5_fillBetween 96 = .ok (.if_icmp .eq 139, 3) := dl_o159 kcX5_fillBetween 139 (by decide +kernel) (by decide +kernel)
theorem dX5_fillBetween_99 : decode cX5_fillBetween 99 = .ok (.aload_n 1, 1) := dl_o43 kcX5_fillBetween (by decide +kernel)
theorem dX5_fillBetween_100 : decode cX5_fillBetween 100 = .ok (.iload 11, 2) := dl_o21 kcX5_fillBetween (by decide +kernel)
theorem dX5_fillBetween_102 : decode cX5_fillBetween 102 = .ok (.iaload, 1) := dl_o46 kcX5_fillBetween (by decide +kernel)
theorem dX5_fillBetween_103 : decode cX5_fillBetween 103 = .ok (.aload_n 1, 1) := dl_o43 kcX5_fillBetween (by decide +kernel)
theorem dX5_fillBetween_104 : decode cX5_fillBetween 104 = .ok (.iload 9, 2) := dl_o21 kcX5_fillBetween (by decide +kernel)
theorem dX5_fillBetween_106 : decode cX5_fillBetween 106 = .ok (.iaload, 1) := dl_o46 kcX5_fillBetween (by decide +kernel)
theorem dX5_fillBetween_107 : decode cX5_fillBetween 107 = .ok (.if_icmp .gt 24, 3) := dl_o163 kcX5_fillBetween 24 (by decide +kernel) (by decide +kernel)
theorem dX5_fillBetween_110 : decode cX5_fillBetween 110 = .ok (.aload_n 2, 1) := dl_o44 kcX5_fillBetween (by decide +kernel)
theorem dX5_fillBetween_111 : decode cX5_fillBetween 111 = .ok (.iload 11, 2) := dl_o21 kcX5_fillBetween (by decide +kernel)
theorem dX5_fillBetween_113 : decode cX5_fillBetween 113 = .ok (.aload_n 1, 1) := dl_o43 kcX5_fillBetween (by decide +kernel)
theorem dX5_fillBetween_114 : decode cX5_fillBetween 114 = .ok (.iload 11, 2) := dl_o21 kcX5_fillBetween (by decide +kernel)
theorem dX5_fillBetween_116 : decode cX5_fillBetween 116 = .ok (.iaload, 1) := dl_o46 kcX5_fillBetween (by decide +kernel)
theorem dX5_fillBetween_117 : decode cX5_fillBetween 117 = .ok (.aload_n 2, 1) := dl_o44 kcX5_fillBetween (by decide +kernel)
theorem dX5_fillBetween_118 : decode cX5_fillBetween 118 = .ok (.iload 9, 2) := dl_o21 kcX5_fillBetween (by decide +kernel)
theorem dX5_fillBetween_120 : decode cX5_fillBetween 120 = .ok (.iaload, 1) := dl_o46 kcX5_fillBetween (by decide +kernel)
theorem dX5_fillBetween_121 : decode cX5_fillBetween 121 = .ok (.aload_n 1, 1) := dl_o43 kcX5_fillBetween (by decide +kernel)
theorem dX5_fillBetween_122 : decode cX5_fillBetween 122 = .ok (.iload 9, 2) := dl_o21 kcX5_fillBetween (by decide +kernel)
theorem dX5_fillBetween_124 : decode cX5_fillBetween 124 = .ok (.iaload, 1) := dl_o46 kcX5_fillBetween (by decide +kernel)
theorem dX5_fillBetween_125 : decode cX5_fillBetween 125 = .ok (.isub, 1) := dl_o100 kcX5_fillBetween (by decide +kernel)
theorem dX5_fillBetween_126 : decode cX5_fillBetween 126 = .ok (.iadd, 1) := dl_o96 kcX5_fillBetween (by decide +kernel)
theorem dX5_fillBetween_127 : decode cX5_fillBetween 127 = .ok (.iastore, 1) := dl_o79 kcX5_fillBetween (by decide +kernel)
theorem dX5_fillBetween_128 : decode cX5_fillBetween 128 = .ok (.goto 83, 3) := dl_o167 kcX5_fillBetween 83 (by decide +kernel) (by decide +kernel)
theorem dX5_fillBetween_131 : decode cX5_fillBetween 131 = .ok (.aload_n 1, 1) := dl_o43 kcX5_fillBetween (by decide +kernel)
theorem dX5_fillBetween_132 : decode cX5_fillBetween 132 = .ok (.iload 11, 2) := dl_o21 kcX5_fillBetween (by decide +kernel)
theorem dX5_fillBetween_134 : decode cX5_fillBetween 134 = .ok (.iaload, 1) := dl_o46 kcX5_fillBetween (by decide +kernel)
theorem dX5_fillBetween_135 : decode cX5_fillBetween 135 = .ok (.aload_n 1, 1) := dl_o43 kcX5_fillBetween (by decide +kernel)
theorem dX5_fillBetween_136 : decode cX5_fillBetween 136 = .ok (.iload 10, 2) := dl_o21 kcX5_fillBetween (by decide +kernel)
theorem dX5_fillBetween_138 : decode cX5_fillBetween 138 = .ok (.iaload, 1) := dl_o46 kcX5_fillBetween (by decide +kernel)
theorem dX5_fillBetween_139 : decode cX5_fillBetween 139 = .ok (.if_icmp .lt 24, 3) := dl_o161 kcX5_fillBetween 24 (by decide +kernel) (by decide +kernel)
theorem dX5_fillBetween_142 : decode cX5_fillBetween 142 = .ok (.aload_n 2, 1) := dl_o44 kcX5_fillBetween (by decide +kernel)
theorem dX5_fillBetween_143 : decode cX5_fillBetween 143 = .ok (.iload 11, 2) := dl_o21 kcX5_fillBetween (by decide +kernel)
theorem dX5_fillBetween_145 : decode cX5_fillBetween 145 = .ok (.aload_n 1, 1) := dl_o43 kcX5_fillBetween (by decide +kernel)
theorem dX5_fillBetween_146 : decode cX5_fillBetween 146 = .ok (.iload 11, 2) := dl_o21 kcX5_fillBetween (by decide +kernel)
theorem dX5_fillBetween_148 : decode cX5_fillBetween 148 = .ok (.iaload, 1) := dl_o46 kcX5_fillBetween (by decide +kernel)
theorem dX5_fillBetween_149 : decode cX5_fillBetween 149 = .ok (.aload_n 2, 1) := dl_o44 kcX5_fillBetween (by decide +kernel)
theorem dX5_fillBetween_150 : decode cX5_fillBetween 150 = .ok (.iload 10, 2) := dl_o21 kcX5_fillBetween (by decide +kernel)
theorem dX5_fillBetween_152 : decode cX5_fillBetween 152 = .ok (.iaload, 1) := dl_o46 kcX5_fillBetween (by decide +kernel)
theorem dX5_fillBetween_153 : decode cX5_fillBetween 153 = .ok (.aload_n 1, 1) := dl_o43 kcX5_fillBetween (by decide +kernel)
theorem dX5_fillBetween_154 : decode cX5_fillBetween 154 = .ok (.iload 10, 2) := dl_o21 kcX5_fillBetween (by decide +kernel)
theorem dX5_fillBetween_156 : decode cX5_fillBetween 156 = .ok (.iaload, 1) := dl_o46 kcX5_fillBetween (by decide +kernel)
theorem dX5_fillBetween_157 : decode cX5_fillBetween 157 = .ok (.isub, 1) := dl_o100 kcX5_fillBetween (by decide +kernel)
theorem dX5_fillBetween_158 : decode cX5_fillBetween 158 = .ok (.iadd, 1) := dl_o96 kcX5_fillBetween (by decide +kernel)
theorem dX5_fillBetween_159 : decode cX5_fillBetween 159 = .ok (.iastore, 1) := dl_o79 kcX5_fillBetween (by decide +kernel)
theorem dX5_fillBetween_160 : decode cX5_fillBetween 160 = .ok (.goto 51, 3) := dl_o167 kcX5_fillBetween 51 (by decide +kernel) (by decide +kernel)
theorem dX5_fillBetween_163 : decode cX5_fillBetween 163 = .ok (.aload_n 1, 1) := dl_o43 kcX5_fillBetween (by decide +kernel)
theorem dX5_fillBetween_164 : decode cX5_fillBetween 164 = .ok (.iload 11, 2) := dl_o21 kcX5_fillBetween (by decide +kernel)
theorem dX5_fillBetween_166 : decode cX5_fillBetween 166 = .ok (.iaload, 1) := dl_o46 kcX5_fillBetween (by decide +kernel)
theorem dX5_fillBetween_167 : decode cX5_fillBetween 167 = .ok (.aload_n 1, 1) := dl_o43 kcX5_fillBetween (by decide +kernel)
theorem dX5_fillBetween_168 : decode cX5_fillBetween 168 = .ok (.iload 9, 2) := dl_o21 kcX5_fillBetween (by decide +kernel)
theorem dX5_fillBetween_170 : decode cX5_fillBetween 170 = .ok (.iaload, 1) := dl_o46 kcX5_fillBetween (by decide +kernel)
theorem dX5_fillBetween_171 : decode cX5_fillBetween 171 = .ok (.isub, 1) := dl_o100 kcX5_fillBetween (by decide +kernel)
theorem dX5_fillBetween_172 : decode cX5_fillBetween 172 = .ok (.i2l, 1) := dl_o133 kcX5_fillBetween (by decide +kernel)
theorem dX5_fillBetween_173 : decode cX5_fillBetween 173 = .ok (.aload_n 2, 1) := dl_o44 kcX5_fillBetween (by decide +kernel)
theorem dX5_fillBetween_174 : decode cX5_fillBetween 174 = .ok (.iload 10, 2) := dl_o21 kcX5_fillBetween (by decide +kernel)
theorem dX5_fillBetween_176 : decode cX5_fillBetween 176 = .ok (.iaload, 1) := dl_o46 kcX5_fillBetween (by decide +kernel)
theorem dX5_fillBetween_177 : decode cX5_fillBetween 177 = .ok (.aload_n 2, 1) := dl_o44 kcX5_fillBetween (by decide +kernel)
theorem dX5_fillBetween_178 : decode cX5_fillBetween 178 = .ok (.iload 9, 2) := dl_o21 kcX5_fillBetween (by decide +kernel)
theorem dX5_fillBetween_180 : decode cX5_fillBetween 180 = .ok (.iaload, 1) := dl_o46 kcX5_fillBetween (by decide +kernel)
theorem dX5_fillBetween_181 : decode cX5_fillBetween 181 = .ok (.isub, 1) := dl_o100 kcX5_fillBetween (by decide +kernel)
theorem dX5_fillBetween_182 : decode cX5_fillBetween 182 = .ok (.i2l, 1) := dl_o133 kcX5_fillBetween (by decide +kernel)
theorem dX5_fillBetween_183 : decode cX5_fillBetween 183 = .ok (.lmul, 1) := dl_o105 kcX5_fillBetween (by decide +kernel)
theorem dX5_fillBetween_184 : decode cX5_fillBetween 184 = .ok (.lstore 13, 2) := dl_o55 kcX5_fillBetween (by decide +kernel)
theorem dX5_fillBetween_186 : decode cX5_fillBetween 186 = .ok (.aload_n 2, 1) := dl_o44 kcX5_fillBetween (by decide +kernel)
theorem dX5_fillBetween_187 : decode cX5_fillBetween 187 = .ok (.iload 11, 2) := dl_o21 kcX5_fillBetween (by decide +kernel)
theorem dX5_fillBetween_189 : decode cX5_fillBetween 189 = .ok (.aload_n 2, 1) := dl_o44 kcX5_fillBetween (by decide +kernel)
theorem dX5_fillBetween_190 : decode cX5_fillBetween 190 = .ok (.iload 9, 2) := dl_o21 kcX5_fillBetween (by decide +kernel)
theorem dX5_fillBetween_192 : decode cX5_fillBetween 192 = .ok (.iaload, 1) := dl_o46 kcX5_fillBetween (by decide +kernel)
theorem dX5_fillBetween_193 : decode cX5_fillBetween 193 = .ok (.lload 13, 2) := dl_o22 kcX5_fillBetween (by decide +kernel)
theorem dX5_fillBetween_195 : decode cX5_fillBetween 195 = .ok (.aload_n 1, 1) := dl_o43 kcX5_fillBetween (by decide +kernel)
theorem dX5_fillBetween_196 : decode cX5_fillBetween 196 = .ok (.iload 10, 2) := dl_o21 kcX5_fillBetween (by decide +kernel)
theorem dX5_fillBetween_198 : decode cX5_fillBetween 198 = .ok (.iaload, 1) := dl_o46 kcX5_fillBetween (by decide +kernel)
theorem dX5_fillBetween_199 : decode cX5_fillBetween 199 = .ok (.aload_n 1, 1) := dl_o43 kcX5_fillBetween (by decide +kernel)
theorem dX5_fillBetween_200 : decode cX5_fillBetween 200 = .ok (.iload 9, 2) := dl_o21 kcX5_fillBetween (by decide +kernel)
theorem dX5_fillBetween_202 : decode cX5_fillBetween 202 = .ok (.iaload, 1) := dl_o46 kcX5_fillBetween (by decide +kernel)
theorem dX5_fillBetween_203 : decode cX5_fillBetween 203 = .ok (.isub, 1) := dl_o100 kcX5_fillBetween (by decide +kernel)
theorem dX5_fillBetween_204 : decode cX5_fillBetween 204 = .ok (.i2l, 1) := dl_o133 kcX5_fillBetween (by decide +kernel)
theorem dX5_fillBetween_205 : decode cX5_fillBetween 205 = .ok (.invokestatic 75, 3) := dl_o184 kcX5_fillBetween (by decide +kernel)
theorem dX5_fillBetween_208 : decode cX5_fillBetween 208 = .ok (.l2i, 1) := dl_o136 kcX5_fillBetween (by decide +kernel)
theorem dX5_fillBetween_209 : decode cX5_fillBetween 209 = .ok (.iadd, 1) := dl_o96 kcX5_fillBetween (by decide +kernel)
theorem dX5_fillBetween_210 : decode cX5_fillBetween 210 = .ok (.iastore, 1) := dl_o79 kcX5_fillBetween (by decide +kernel)
theorem dX5_fillBetween_211 : decode cX5_fillBetween 211 = .ok (.iload 11, 2) := dl_o21 kcX5_fillBetween (by decide +kernel)
theorem dX5_fillBetween_213 : decode cX5_fillBetween 213 = .ok (.iload 7, 2) := dl_o21 kcX5_fillBetween (by decide +kernel)
theorem dX5_fillBetween_215 : decode cX5_fillBetween 215 = .ok (.if_icmp .ne 8, 3) := dl_o160 kcX5_fillBetween 8 (by decide +kernel) (by decide +kernel)
theorem dX5_fillBetween_218 : decode cX5_fillBetween 218 = .ok (.iload 6, 2) := dl_o21 kcX5_fillBetween (by decide +kernel)
theorem dX5_fillBetween_220 : decode cX5_fillBetween 220 = .ok (.goto 7, 3) := dl_o167 kcX5_fillBetween 7 (by decide +kernel) (by decide +kernel)
theorem dX5_fillBetween_223 : decode cX5_fillBetween 223 = .ok (.iload 11, 2) := dl_o21 kcX5_fillBetween (by decide +kernel)
theorem dX5_fillBetween_225 : decode cX5_fillBetween 225 = .ok (.iconst 1, 1) := dl_o4 kcX5_fillBetween (by decide +kernel)
theorem dX5_fillBetween_226 : decode cX5_fillBetween 226 = .ok (.iadd, 1) := dl_o96 kcX5_fillBetween (by decide +kernel)
theorem dX5_fillBetween_227 : decode cX5_fillBetween 227 = .ok (.istore 11, 2) := dl_o54 kcX5_fillBetween (by decide +kernel)
theorem dX5_fillBetween_229 : decode cX5_fillBetween 229 = .ok (.iinc 12 1, 3) := by decide +kernel
theorem dX5_fillBetween_232 : decode cX5_fillBetween 232 = .ok (.goto (-147), 3) := dl_o167 kcX5_fillBetween 65389 (by decide +kernel) (by decide +kernel)
theorem dX5_fillBetween_235 : decode cX5_fillBetween 235 = .ok (.return_, 1) := dl_o177 kcX5_fillBetween (by decide +kernel)
def B_X5_fillBetween_227 (N : Nat) (k85 : Nat → Nat → Int32 → Int32 → Int32 → Int32 → Int32 → Int32 → Int32 → sv_V → Option sv_V) (l1 : Nat) (l2 : Nat) (l4 : Int32) (l6 : Int32) (l7 : Int32) (l9 : Int32) (l10 : Int32) (l12 : Int32) (s0 : Int32) (V : sv_V) : Option sv_V := sx_let (l12 + 1) (fun x1 => k85 l1 l2 l4 l6 l7 l9 l10 s0 x1 V)
set_option maxRecDepth 20000 in
theorem tB_X5_fillBetween_227 {g : sx_G} (hG : sx_Go g) {P : Option Value → sv_V → Prop} {Vr : sv_V} (hP : P none Vr) {N : Nat} {k85 : Nat → Nat → Int32 → Int32 → Int32 → Int32 → Int32 → Int32 → Int32 → sv_V → Option sv_V} (hk85 : ∀ (l1 : Nat) (l2 : Nat) (l4 : Int32) (l6 : Int32) (l7 : Int32) (l9 : Int32) (l10 : Int32) (l11 : Int32) (l12 : Int32) (V : sv_V), k85 l1 l2 l4 l6 l7 l9 l10 l11 l12 V = some Vr → sv_N g qX5_fillBetween 1 85 [(1, .ref l1), (2, .ref l2), (4, .int l4), (6, .int l6), (7, .int l7), (9, .int l9), (10, .int l10), (11, .int l11), (12, .int l12)] [] V P) {l1 : Nat} {l2 : Nat} {l4 : Int32} {l6 : Int32} {l7 : Int32} {l9 : Int32} {l10 : Int32} {l12 : Int32} {s0 : Int32} {V : sv_V} (h : B_X5_fillBetween_227 N k85 l1 l2 l4 l6 l7 l9 l10 l12 s0 V = some Vr) : sv_N g qX5_fillBetween 1 227 [(1, .ref l1), (2, .ref l2), (4, .int l4), (6, .int l6), (7, .int l7), (9, .int l9), (10, .int l10), (12, .int l12)] [.int s0] V P := by
  unfold B_X5_fillBetween_227 at h
  refine sx_istore (pc := 227) (lo' := [(11, .int s0), (1, .ref l1), (2, .ref l2), (4, .int l4), (6, .int l6), (7, .int l7), (9, .int l9), (10, .int l10), (12, .int l12)]) dX5_fillBetween_227 (by decide) rfl ?_
  obtain ⟨x1, hx1⟩ : ∃ z : Int32, z = l12 + 1 := ⟨_, rfl⟩
  have h := sx_letE hx1 h
  refine sx_iinc (pc := 229) (v := x1) (lo' := [(12, .int x1), (11, .int s0), (1, .ref l1), (2, .ref l2), (4, .int l4), (6, .int l6), (7, .int l7), (9, .int l9), (10, .int l10)]) dX5_fillBetween_229 sx_m8 (by rw [hx1]; rfl) (by decide) rfl ?_
  refine sx_goto (pc := 232) (tgt := 85) dX5_fillBetween_232 (by decide) ?_
  refine sx_wk (sx_s1 sx_m2 (sx_s1 sx_m3 (sx_s1 sx_m4 (sx_s1 sx_m5 (sx_s1 sx_m6 (sx_s1 sx_m7 (sx_s1 sx_m8 (sx_s1 sx_m1 (sx_s1 sx_m0 sx_s0))))))))) ?_
  exact hk85 _ _ _ _ _ _ _ _ _ _ h
def B_X5_fillBetween_211 (N : Nat) (k85 : Nat → Nat → Int32 → Int32 → Int32 → Int32 → Int32 → Int32 → Int32 → sv_V → Option sv_V) (l1 : Nat) (l2 : Nat) (l4 : Int32) (l6 : Int32) (l7 : Int32) (l9 : Int32) (l10 : Int32) (l11 : Int32) (l12 : Int32) (V : sv_V) : Option sv_V := if l11 = l7 then (B_X5_fillBetween_227 N k85 l1 l2 l4 l6 l7 l9 l10 l12 l6 V) else (B_X5_fillBetween_227 N k85 l1 l2 l4 l6 l7 l9 l10 l12 (l11 + (1 : Int32)) V)
set_option maxRecDepth 20000 in
theorem tB_X5_fillBetween_211 {g : sx_G} (hG : sx_Go g) {P : Option Value → sv_V → Prop} {Vr : sv_V} (hP : P none Vr) {N : Nat} {k85 : Nat → Nat → Int32 → Int32 → Int32 → Int32 → Int32 → Int32 → Int32 → sv_V → Option sv_V} (hk85 : ∀ (l1 : Nat) (l2 : Nat) (l4 : Int32) (l6 : Int32) (l7 : Int32) (l9 : Int32) (l10 : Int32) (l11 : Int32) (l12 : Int32) (V : sv_V), k85 l1 l2 l4 l6 l7 l9 l10 l11 l12 V = some Vr → sv_N g qX5_fillBetween 1 85 [(1, .ref l1), (2, .ref l2), (4, .int l4), (6, .int l6), (7, .int l7), (9, .int l9), (10, .int l10), (11, .int l11), (12, .int l12)] [] V P) {l1 : Nat} {l2 : Nat} {l4 : Int32} {l6 : Int32} {l7 : Int32} {l9 : Int32} {l10 : Int32} {l11 : Int32} {l12 : Int32} {V : sv_V} (h : B_X5_fillBetween_211 N k85 l1 l2 l4 l6 l7 l9 l10 l11 l12 V = some Vr) : sv_N g qX5_fillBetween 1 211 [(1, .ref l1), (2, .ref l2), (4, .int l4), (6, .int l6), (7, .int l7), (9, .int l9), (10, .int l10), (11, .int l11), (12, .int l12)] [] V P := by
  unfold B_X5_fillBetween_211 at h
  refine sx_iload (pc := 211) dX5_fillBetween_211 sx_m7 ?_
  refine sx_iload (pc := 213) dX5_fillBetween_213 sx_m4 ?_
  refine sx_icmp_ne (pc := 215) (tgt := 223) dX5_fillBetween_215 (by decide) (fun c2 => ?_) (fun c2 => ?_)
  · have h := sx_neg c2 h
    refine sx_iload (pc := 223) dX5_fillBetween_223 sx_m7 ?_
    refine sx_iconst (pc := 225) (v := 1) dX5_fillBetween_225 (by decide) ?_
    refine sx_iadd (pc := 226) dX5_fillBetween_226 ?_
    refine sx_wk (sx_s1 sx_m0 (sx_s1 sx_m1 (sx_s1 sx_m2 (sx_s1 sx_m3 (sx_s1 sx_m4 (sx_s1 sx_m5 (sx_s1 sx_m6 (sx_s1 sx_m8 sx_s0)))))))) ?_
    exact tB_X5_fillBetween_227 hG hP hk85 h
  · have h := sx_pos c2 h
    refine sx_iload (pc := 218) dX5_fillBetween_218 sx_m3 ?_
    refine sx_goto (pc := 220) (tgt := 227) dX5_fillBetween_220 (by decide) ?_
    refine sx_wk (sx_s1 sx_m0 (sx_s1 sx_m1 (sx_s1 sx_m2 (sx_s1 sx_m3 (sx_s1 sx_m4 (sx_s1 sx_m5 (sx_s1 sx_m6 (sx_s1 sx_m8 sx_s0)))))))) ?_
    exact tB_X5_fillBetween_227 hG hP hk85 h
def B_X5_fillBetween_85 (N : Nat) (k85 : Nat → Nat → Int32 → Int32 → Int32 → Int32 → Int32 → Int32 → Int32 → sv_V → Option sv_V) (l1 : Nat) (l2 : Nat) (l4 : Int32) (l6 : Int32) (l7 : Int32) (l9 : Int32) (l10 : Int32) (l11 : Int32) (l12 : Int32) (V : sv_V) : Option sv_V := if (100 : Int32) ≤ l12 then (some V) else (if l11 = l4 then (some V) else ((sv_len 0 l1).bind (fun n5 => if sx_in l11 n5 = true then if sx_in l9 n5 = true then if (V.1 l1 l9.toNatClampNeg) < (V.1 l1 l11.toNatClampNeg) then (if sx_in l11 n5 = true then if sx_in l10 n5 = true then if (V.1 l1 l11.toNatClampNeg) < (V.1 l1 l10.toNatClampNeg) then (if sx_in l11 n5 = true then if sx_in l9 n5 = true then (sv_len 0 l2).bind (fun n15 => if sx_in l10 n15 = true then if sx_in l9 n15 = true then sx_let ((((V.1 l1 l11.toNatClampNeg) - (V.1 l1 l9.toNatClampNeg)).toInt64) * (((V.1 l2 l10.toNatClampNeg) - (V.1 l2 l9.toNatClampNeg)).toInt64)) (fun x19 => if sx_in l9 n15 = true then if sx_in l10 n5 = true then if sx_in l9 n5 = true then (F_X11_nearest x19 (((V.1 l1 l10.toNatClampNeg) - (V.1 l1 l9.toNatClampNeg)).toInt64) V).bind (fun (x25, V23) => if sx_in l11 n15 = true then sx_let (sv_I V23 l2 l11.toNatClampNeg ((V.1 l2 l9.toNatClampNeg) + x25.toInt32)) (fun V27 => B_X5_fillBetween_211 N k85 l1 l2 l4 l6 l7 l9 l10 l11 l12 V27) else none) else none else none else none) else none else none) else none else none) else (if sx_in l11 n5 = true then (sv_len 0 l2).bind (fun n29 => if sx_in l10 n29 = true then if sx_in l10 n5 = true then if sx_in l11 n29 = true then sx_let (sv_I V l2 l11.toNatClampNeg ((V.1 l1 l11.toNatClampNeg) + ((V.1 l2 l10.toNatClampNeg) - (V.1 l1 l10.toNatClampNeg)))) (fun V34 => B_X5_fillBetween_211 N k85 l1 l2 l4 l6 l7 l9 l10 l11 l12 V34) else none else none else none) else none) else none else none) else (if sx_in l11 n5 = true then (sv_len 0 l2).bind (fun n36 => if sx_in l9 n36 = true then if sx_in l9 n5 = true then if sx_in l11 n36 = true then sx_let (sv_I V l2 l11.toNatClampNeg ((V.1 l1 l11.toNatClampNeg) + ((V.1 l2 l9.toNatClampNeg) - (V.1 l1 l9.toNatClampNeg)))) (fun V41 => B_X5_fillBetween_211 N k85 l1 l2 l4 l6 l7 l9 l10 l11 l12 V41) else none else none else none) else none) else none else none)))
set_option maxRecDepth 20000 in
theorem tB_X5_fillBetween_85 {g : sx_G} (hG : sx_Go g) {P : Option Value → sv_V → Prop} {Vr : sv_V} (hP : P none Vr) {N : Nat} {k85 : Nat → Nat → Int32 → Int32 → Int32 → Int32 → Int32 → Int32 → Int32 → sv_V → Option sv_V} (hk85 : ∀ (l1 : Nat) (l2 : Nat) (l4 : Int32) (l6 : Int32) (l7 : Int32) (l9 : Int32) (l10 : Int32) (l11 : Int32) (l12 : Int32) (V : sv_V), k85 l1 l2 l4 l6 l7 l9 l10 l11 l12 V = some Vr → sv_N g qX5_fillBetween 1 85 [(1, .ref l1), (2, .ref l2), (4, .int l4), (6, .int l6), (7, .int l7), (9, .int l9), (10, .int l10), (11, .int l11), (12, .int l12)] [] V P) {l1 : Nat} {l2 : Nat} {l4 : Int32} {l6 : Int32} {l7 : Int32} {l9 : Int32} {l10 : Int32} {l11 : Int32} {l12 : Int32} {V : sv_V} (h : B_X5_fillBetween_85 N k85 l1 l2 l4 l6 l7 l9 l10 l11 l12 V = some Vr) : sv_N g qX5_fillBetween 1 85 [(1, .ref l1), (2, .ref l2), (4, .int l4), (6, .int l6), (7, .int l7), (9, .int l9), (10, .int l10), (11, .int l11), (12, .int l12)] [] V P := by
  unfold B_X5_fillBetween_85 at h
  refine sx_iload (pc := 85) dX5_fillBetween_85 sx_m8 ?_
  refine sx_bipush (pc := 87) (v := 100) dX5_fillBetween_87 (by decide) ?_
  refine sx_icmp_ge (pc := 89) (tgt := 235) dX5_fillBetween_89 (by decide) (fun c3 => ?_) (fun c3 => ?_)
  · have h := sx_pos c3 h
    exact sv_vret (pc := 235) dX5_fillBetween_235 rfl h hP
  · have h := sx_neg c3 h
    refine sx_iload (pc := 92) dX5_fillBetween_92 sx_m7 ?_
    refine sx_iload (pc := 94) dX5_fillBetween_94 sx_m2 ?_
    refine sx_icmp_eq (pc := 96) (tgt := 235) dX5_fillBetween_96 (by decide) (fun c4 => ?_) (fun c4 => ?_)
    · have h := sx_pos c4 h
      exact sv_vret (pc := 235) dX5_fillBetween_235 rfl h hP
    · have h := sx_neg c4 h
      refine sx_aload_n (pc := 99) dX5_fillBetween_99 sx_m0 ?_
      refine sx_iload (pc := 100) dX5_fillBetween_100 sx_m7 ?_
      obtain ⟨n5, g6, h⟩ := sx_bnd h
      obtain ⟨g7, h⟩ := sx_grd h
      refine sv_iald (pc := 102) hG dX5_fillBetween_102 (sv_len_e g6) g7 ?_
      refine sx_aload_n (pc := 103) dX5_fillBetween_103 sx_m0 ?_
      refine sx_iload (pc := 104) dX5_fillBetween_104 sx_m5 ?_
      obtain ⟨g8, h⟩ := sx_grd h
      refine sv_iald (pc := 106) hG dX5_fillBetween_106 (sv_len_e g6) g8 ?_
      refine sx_icmp_gt (pc := 107) (tgt := 131) dX5_fillBetween_107 (by decide) (fun c9 => ?_) (fun c9 => ?_)
      · have h := sx_pos c9 h
        refine sx_aload_n (pc := 131) dX5_fillBetween_131 sx_m0 ?_
        refine sx_iload (pc := 132) dX5_fillBetween_132 sx_m7 ?_
        obtain ⟨g10, h⟩ := sx_grd h
        refine sv_iald (pc := 134) hG dX5_fillBetween_134 (sv_len_e g6) g10 ?_
        refine sx_aload_n (pc := 135) dX5_fillBetween_135 sx_m0 ?_
        refine sx_iload (pc := 136) dX5_fillBetween_136 sx_m6 ?_
        obtain ⟨g11, h⟩ := sx_grd h
        refine sv_iald (pc := 138) hG dX5_fillBetween_138 (sv_len_e g6) g11 ?_
        refine sx_icmp_lt (pc := 139) (tgt := 163) dX5_fillBetween_139 (by decide) (fun c12 => ?_) (fun c12 => ?_)
        · have h := sx_pos c12 h
          refine sx_aload_n (pc := 163) dX5_fillBetween_163 sx_m0 ?_
          refine sx_iload (pc := 164) dX5_fillBetween_164 sx_m7 ?_
          obtain ⟨g13, h⟩ := sx_grd h
          refine sv_iald (pc := 166) hG dX5_fillBetween_166 (sv_len_e g6) g13 ?_
          refine sx_aload_n (pc := 167) dX5_fillBetween_167 sx_m0 ?_
          refine sx_iload (pc := 168) dX5_fillBetween_168 sx_m5 ?_
          obtain ⟨g14, h⟩ := sx_grd h
          refine sv_iald (pc := 170) hG dX5_fillBetween_170 (sv_len_e g6) g14 ?_
          refine sx_isub (pc := 171) dX5_fillBetween_171 ?_
          refine sx_i2l (pc := 172) dX5_fillBetween_172 ?_
          refine sx_aload_n (pc := 173) dX5_fillBetween_173 sx_m1 ?_
          refine sx_iload (pc := 174) dX5_fillBetween_174 sx_m6 ?_
          obtain ⟨n15, g16, h⟩ := sx_bnd h
          obtain ⟨g17, h⟩ := sx_grd h
          refine sv_iald (pc := 176) hG dX5_fillBetween_176 (sv_len_e g16) g17 ?_
          refine sx_aload_n (pc := 177) dX5_fillBetween_177 sx_m1 ?_
          refine sx_iload (pc := 178) dX5_fillBetween_178 sx_m5 ?_
          obtain ⟨g18, h⟩ := sx_grd h
          refine sv_iald (pc := 180) hG dX5_fillBetween_180 (sv_len_e g16) g18 ?_
          refine sx_isub (pc := 181) dX5_fillBetween_181 ?_
          refine sx_i2l (pc := 182) dX5_fillBetween_182 ?_
          refine sx_lmul (pc := 183) dX5_fillBetween_183 ?_
          refine sv_tJ (fun x19 hx19 => ?_)
          have h := sx_letE hx19 h
          refine sx_lstore (pc := 184) (lo' := [(13, .long x19), (1, .ref l1), (2, .ref l2), (4, .int l4), (6, .int l6), (7, .int l7), (9, .int l9), (10, .int l10), (11, .int l11), (12, .int l12)]) dX5_fillBetween_184 (by decide) rfl ?_
          refine sx_aload_n (pc := 186) dX5_fillBetween_186 sx_m2 ?_
          refine sx_iload (pc := 187) dX5_fillBetween_187 sx_m8 ?_
          refine sx_aload_n (pc := 189) dX5_fillBetween_189 sx_m2 ?_
          refine sx_iload (pc := 190) dX5_fillBetween_190 sx_m6 ?_
          obtain ⟨g20, h⟩ := sx_grd h
          refine sv_iald (pc := 192) hG dX5_fillBetween_192 (sv_len_e g16) g20 ?_
          refine sx_lload (pc := 193) dX5_fillBetween_193 sx_m0 ?_
          refine sx_aload_n (pc := 195) dX5_fillBetween_195 sx_m1 ?_
          refine sx_iload (pc := 196) dX5_fillBetween_196 sx_m7 ?_
          obtain ⟨g21, h⟩ := sx_grd h
          refine sv_iald (pc := 198) hG dX5_fillBetween_198 (sv_len_e g6) g21 ?_
          refine sx_aload_n (pc := 199) dX5_fillBetween_199 sx_m1 ?_
          refine sx_iload (pc := 200) dX5_fillBetween_200 sx_m6 ?_
          obtain ⟨g22, h⟩ := sx_grd h
          refine sv_iald (pc := 202) hG dX5_fillBetween_202 (sv_len_e g6) g22 ?_
          refine sx_isub (pc := 203) dX5_fillBetween_203 ?_
          refine sx_i2l (pc := 204) dX5_fillBetween_204 ?_
          obtain ⟨⟨x25, V23⟩, g24, h⟩ := sx_bnd h
          refine sv_cN (pc := 205) (y := qX11_nearest) (o := (some (.long x25))) (as := [.long x19, .long (((V.1 l1 l10.toNatClampNeg) - (V.1 l1 l9.toNatClampNeg)).toInt64)]) (V1 := V23) dX5_fillBetween_205 n_X5_75 y0X11_nearest ysX11_nearest rfl (Nat.le_of_ble_eq_true rfl) (by decide) (Nat.le_of_ble_eq_true rfl) rfl rfl rfl (t_X11_nearest hG ⟨rfl, rfl⟩ g24) ?_
          refine sx_l2i (pc := 208) dX5_fillBetween_208 ?_
          refine sx_iadd (pc := 209) dX5_fillBetween_209 ?_
          obtain ⟨g26, h⟩ := sx_grd h
          obtain ⟨V27, hV27⟩ : ∃ z : sv_V, z = sv_I V23 l2 l11.toNatClampNeg ((V.1 l2 l9.toNatClampNeg) + x25.toInt32) := ⟨_, rfl⟩
          have h := sx_letE hV27 h
          refine sv_iast (pc := 210) hG dX5_fillBetween_210 (sv_len_e g16) g26 hV27 ?_
          refine sx_wk (sx_s1 sx_m1 (sx_s1 sx_m2 (sx_s1 sx_m3 (sx_s1 sx_m4 (sx_s1 sx_m5 (sx_s1 sx_m6 (sx_s1 sx_m7 (sx_s1 sx_m8 (sx_s1 sx_m9 sx_s0))))))))) ?_
          exact tB_X5_fillBetween_211 hG hP hk85 h
        · have h := sx_neg c12 h
          refine sx_aload_n (pc := 142) dX5_fillBetween_142 sx_m1 ?_
          refine sx_iload (pc := 143) dX5_fillBetween_143 sx_m7 ?_
          refine sx_aload_n (pc := 145) dX5_fillBetween_145 sx_m0 ?_
          refine sx_iload (pc := 146) dX5_fillBetween_146 sx_m7 ?_
          obtain ⟨g28, h⟩ := sx_grd h
          refine sv_iald (pc := 148) hG dX5_fillBetween_148 (sv_len_e g6) g28 ?_
          refine sx_aload_n (pc := 149) dX5_fillBetween_149 sx_m1 ?_
          refine sx_iload (pc := 150) dX5_fillBetween_150 sx_m6 ?_
          obtain ⟨n29, g30, h⟩ := sx_bnd h
          obtain ⟨g31, h⟩ := sx_grd h
          refine sv_iald (pc := 152) hG dX5_fillBetween_152 (sv_len_e g30) g31 ?_
          refine sx_aload_n (pc := 153) dX5_fillBetween_153 sx_m0 ?_
          refine sx_iload (pc := 154) dX5_fillBetween_154 sx_m6 ?_
          obtain ⟨g32, h⟩ := sx_grd h
          refine sv_iald (pc := 156) hG dX5_fillBetween_156 (sv_len_e g6) g32 ?_
          refine sx_isub (pc := 157) dX5_fillBetween_157 ?_
          refine sx_iadd (pc := 158) dX5_fillBetween_158 ?_
          obtain ⟨g33, h⟩ := sx_grd h
          obtain ⟨V34, hV34⟩ : ∃ z : sv_V, z = sv_I V l2 l11.toNatClampNeg ((V.1 l1 l11.toNatClampNeg) + ((V.1 l2 l10.toNatClampNeg) - (V.1 l1 l10.toNatClampNeg))) := ⟨_, rfl⟩
          have h := sx_letE hV34 h
          refine sv_iast (pc := 159) hG dX5_fillBetween_159 (sv_len_e g30) g33 hV34 ?_
          refine sx_goto (pc := 160) (tgt := 211) dX5_fillBetween_160 (by decide) ?_
          refine sx_wk (sx_s1 sx_m0 (sx_s1 sx_m1 (sx_s1 sx_m2 (sx_s1 sx_m3 (sx_s1 sx_m4 (sx_s1 sx_m5 (sx_s1 sx_m6 (sx_s1 sx_m7 (sx_s1 sx_m8 sx_s0))))))))) ?_
          exact tB_X5_fillBetween_211 hG hP hk85 h
      · have h := sx_neg c9 h
        refine sx_aload_n (pc := 110) dX5_fillBetween_110 sx_m1 ?_
        refine sx_iload (pc := 111) dX5_fillBetween_111 sx_m7 ?_
        refine sx_aload_n (pc := 113) dX5_fillBetween_113 sx_m0 ?_
        refine sx_iload (pc := 114) dX5_fillBetween_114 sx_m7 ?_
        obtain ⟨g35, h⟩ := sx_grd h
        refine sv_iald (pc := 116) hG dX5_fillBetween_116 (sv_len_e g6) g35 ?_
        refine sx_aload_n (pc := 117) dX5_fillBetween_117 sx_m1 ?_
        refine sx_iload (pc := 118) dX5_fillBetween_118 sx_m5 ?_
        obtain ⟨n36, g37, h⟩ := sx_bnd h
        obtain ⟨g38, h⟩ := sx_grd h
        refine sv_iald (pc := 120) hG dX5_fillBetween_120 (sv_len_e g37) g38 ?_
        refine sx_aload_n (pc := 121) dX5_fillBetween_121 sx_m0 ?_
        refine sx_iload (pc := 122) dX5_fillBetween_122 sx_m5 ?_
        obtain ⟨g39, h⟩ := sx_grd h
        refine sv_iald (pc := 124) hG dX5_fillBetween_124 (sv_len_e g6) g39 ?_
        refine sx_isub (pc := 125) dX5_fillBetween_125 ?_
        refine sx_iadd (pc := 126) dX5_fillBetween_126 ?_
        obtain ⟨g40, h⟩ := sx_grd h
        obtain ⟨V41, hV41⟩ : ∃ z : sv_V, z = sv_I V l2 l11.toNatClampNeg ((V.1 l1 l11.toNatClampNeg) + ((V.1 l2 l9.toNatClampNeg) - (V.1 l1 l9.toNatClampNeg))) := ⟨_, rfl⟩
        have h := sx_letE hV41 h
        refine sv_iast (pc := 127) hG dX5_fillBetween_127 (sv_len_e g37) g40 hV41 ?_
        refine sx_goto (pc := 128) (tgt := 211) dX5_fillBetween_128 (by decide) ?_
        refine sx_wk (sx_s1 sx_m0 (sx_s1 sx_m1 (sx_s1 sx_m2 (sx_s1 sx_m3 (sx_s1 sx_m4 (sx_s1 sx_m5 (sx_s1 sx_m6 (sx_s1 sx_m7 (sx_s1 sx_m8 sx_s0))))))))) ?_
        exact tB_X5_fillBetween_211 hG hP hk85 h
theorem tL_X5_fillBetween_85 {g : sx_G} (hG : sx_Go g) {P : Option Value → sv_V → Prop} {Vr : sv_V} (hP : P none Vr) {N : Nat}   : ∀ (n : Nat) (l1 : Nat) (l2 : Nat) (l4 : Int32) (l6 : Int32) (l7 : Int32) (l9 : Int32) (l10 : Int32) (l11 : Int32) (l12 : Int32) (V : sv_V), sx_lp10 (B_X5_fillBetween_85 N ) n l1 l2 l4 l6 l7 l9 l10 l11 l12 V = some Vr → sv_N g qX5_fillBetween 1 85 [(1, .ref l1), (2, .ref l2), (4, .int l4), (6, .int l6), (7, .int l7), (9, .int l9), (10, .int l10), (11, .int l11), (12, .int l12)] [] V P :=
  sx_lp10_ind (fun k0 ih _ _ _ _ _ _ _ _ _ V h => tB_X5_fillBetween_85 hG hP ih h)
def B_X5_fillBetween_80 (N : Nat)  (l1 : Nat) (l2 : Nat) (l4 : Int32) (l6 : Int32) (l7 : Int32) (l9 : Int32) (l10 : Int32) (s0 : Int32) (V : sv_V) : Option sv_V := sx_lp10 (B_X5_fillBetween_85 N ) N l1 l2 l4 l6 l7 l9 l10 s0 (0 : Int32) V
set_option maxRecDepth 20000 in
theorem tB_X5_fillBetween_80 {g : sx_G} (hG : sx_Go g) {P : Option Value → sv_V → Prop} {Vr : sv_V} (hP : P none Vr) {N : Nat}   {l1 : Nat} {l2 : Nat} {l4 : Int32} {l6 : Int32} {l7 : Int32} {l9 : Int32} {l10 : Int32} {s0 : Int32} {V : sv_V} (h : B_X5_fillBetween_80 N  l1 l2 l4 l6 l7 l9 l10 s0 V = some Vr) : sv_N g qX5_fillBetween 1 80 [(1, .ref l1), (2, .ref l2), (4, .int l4), (6, .int l6), (7, .int l7), (9, .int l9), (10, .int l10)] [.int s0] V P := by
  unfold B_X5_fillBetween_80 at h
  refine sx_istore (pc := 80) (lo' := [(11, .int s0), (1, .ref l1), (2, .ref l2), (4, .int l4), (6, .int l6), (7, .int l7), (9, .int l9), (10, .int l10)]) dX5_fillBetween_80 (by decide) rfl ?_
  refine sx_iconst (pc := 82) (v := 0) dX5_fillBetween_82 (by decide) ?_
  refine sx_istore (pc := 83) (lo' := [(12, .int (0 : Int32)), (11, .int s0), (1, .ref l1), (2, .ref l2), (4, .int l4), (6, .int l6), (7, .int l7), (9, .int l9), (10, .int l10)]) dX5_fillBetween_83 (by decide) rfl ?_
  refine sx_wk (sx_s1 sx_m2 (sx_s1 sx_m3 (sx_s1 sx_m4 (sx_s1 sx_m5 (sx_s1 sx_m6 (sx_s1 sx_m7 (sx_s1 sx_m8 (sx_s1 sx_m1 (sx_s1 sx_m0 sx_s0))))))))) ?_
  exact tL_X5_fillBetween_85 hG hP  N _ _ _ _ _ _ _ _ _ _ h
def B_X5_fillBetween_64 (N : Nat)  (l1 : Nat) (l2 : Nat) (l3 : Int32) (l4 : Int32) (l6 : Int32) (l7 : Int32) (l9 : Int32) (s0 : Int32) (V : sv_V) : Option sv_V := if l3 = l7 then (B_X5_fillBetween_80 N  l1 l2 l4 l6 l7 l9 s0 l6 V) else (B_X5_fillBetween_80 N  l1 l2 l4 l6 l7 l9 s0 (l3 + (1 : Int32)) V)
set_option maxRecDepth 20000 in
theorem tB_X5_fillBetween_64 {g : sx_G} (hG : sx_Go g) {P : Option Value → sv_V → Prop} {Vr : sv_V} (hP : P none Vr) {N : Nat}   {l1 : Nat} {l2 : Nat} {l3 : Int32} {l4 : Int32} {l6 : Int32} {l7 : Int32} {l9 : Int32} {s0 : Int32} {V : sv_V} (h : B_X5_fillBetween_64 N  l1 l2 l3 l4 l6 l7 l9 s0 V = some Vr) : sv_N g qX5_fillBetween 1 64 [(1, .ref l1), (2, .ref l2), (3, .int l3), (4, .int l4), (6, .int l6), (7, .int l7), (9, .int l9)] [.int s0] V P := by
  unfold B_X5_fillBetween_64 at h
  refine sx_istore (pc := 64) (lo' := [(10, .int s0), (1, .ref l1), (2, .ref l2), (3, .int l3), (4, .int l4), (6, .int l6), (7, .int l7), (9, .int l9)]) dX5_fillBetween_64 (by decide) rfl ?_
  refine sx_iload_n (pc := 66) dX5_fillBetween_66 sx_m3 ?_
  refine sx_iload (pc := 67) dX5_fillBetween_67 sx_m6 ?_
  refine sx_icmp_ne (pc := 69) (tgt := 77) dX5_fillBetween_69 (by decide) (fun c42 => ?_) (fun c42 => ?_)
  · have h := sx_neg c42 h
    refine sx_iload_n (pc := 77) dX5_fillBetween_77 sx_m3 ?_
    refine sx_iconst (pc := 78) (v := 1) dX5_fillBetween_78 (by decide) ?_
    refine sx_iadd (pc := 79) dX5_fillBetween_79 ?_
    refine sx_wk (sx_s1 sx_m1 (sx_s1 sx_m2 (sx_s1 sx_m4 (sx_s1 sx_m5 (sx_s1 sx_m6 (sx_s1 sx_m7 (sx_s1 sx_m0 sx_s0))))))) ?_
    exact tB_X5_fillBetween_80 hG hP  h
  · have h := sx_pos c42 h
    refine sx_iload (pc := 72) dX5_fillBetween_72 sx_m5 ?_
    refine sx_goto (pc := 74) (tgt := 80) dX5_fillBetween_74 (by decide) ?_
    refine sx_wk (sx_s1 sx_m1 (sx_s1 sx_m2 (sx_s1 sx_m4 (sx_s1 sx_m5 (sx_s1 sx_m6 (sx_s1 sx_m7 (sx_s1 sx_m0 sx_s0))))))) ?_
    exact tB_X5_fillBetween_80 hG hP  h
def B_X5_fillBetween_51 (N : Nat)  (l1 : Nat) (l2 : Nat) (l3 : Int32) (l4 : Int32) (l6 : Int32) (l7 : Int32) (l8 : Int32) (s0 : Int32) (V : sv_V) : Option sv_V := if l8 = 0 then (B_X5_fillBetween_64 N  l1 l2 l3 l4 l6 l7 s0 l4 V) else (B_X5_fillBetween_64 N  l1 l2 l3 l4 l6 l7 s0 l3 V)
set_option maxRecDepth 20000 in
theorem tB_X5_fillBetween_51 {g : sx_G} (hG : sx_Go g) {P : Option Value → sv_V → Prop} {Vr : sv_V} (hP : P none Vr) {N : Nat}   {l1 : Nat} {l2 : Nat} {l3 : Int32} {l4 : Int32} {l6 : Int32} {l7 : Int32} {l8 : Int32} {s0 : Int32} {V : sv_V} (h : B_X5_fillBetween_51 N  l1 l2 l3 l4 l6 l7 l8 s0 V = some Vr) : sv_N g qX5_fillBetween 1 51 [(1, .ref l1), (2, .ref l2), (3, .int l3), (4, .int l4), (6, .int l6), (7, .int l7), (8, .int l8)] [.int s0] V P := by
  unfold B_X5_fillBetween_51 at h
  refine sx_istore (pc := 51) (lo' := [(9, .int s0), (1, .ref l1), (2, .ref l2), (3, .int l3), (4, .int l4), (6, .int l6), (7, .int l7), (8, .int l8)]) dX5_fillBetween_51 (by decide) rfl ?_
  refine sx_iload (pc := 53) dX5_fillBetween_53 sx_m7 ?_
  refine sx_if_eq (pc := 55) (tgt := 62) dX5_fillBetween_55 (by decide) (fun c43 => ?_) (fun c43 => ?_)
  · have h := sx_pos c43 h
    refine sx_iload (pc := 62) dX5_fillBetween_62 sx_m4 ?_
    refine sx_wk (sx_s1 sx_m1 (sx_s1 sx_m2 (sx_s1 sx_m3 (sx_s1 sx_m4 (sx_s1 sx_m5 (sx_s1 sx_m6 (sx_s1 sx_m0 sx_s0))))))) ?_
    exact tB_X5_fillBetween_64 hG hP  h
  · have h := sx_neg c43 h
    refine sx_iload_n (pc := 58) dX5_fillBetween_58 sx_m3 ?_
    refine sx_goto (pc := 59) (tgt := 64) dX5_fillBetween_59 (by decide) ?_
    refine sx_wk (sx_s1 sx_m1 (sx_s1 sx_m2 (sx_s1 sx_m3 (sx_s1 sx_m4 (sx_s1 sx_m5 (sx_s1 sx_m6 (sx_s1 sx_m0 sx_s0))))))) ?_
    exact tB_X5_fillBetween_64 hG hP  h
def B_X5_fillBetween_38 (N : Nat)  (l1 : Nat) (l2 : Nat) (l3 : Int32) (l4 : Int32) (l6 : Int32) (l7 : Int32) (s0 : Int32) (V : sv_V) : Option sv_V := if s0 = 0 then (B_X5_fillBetween_51 N  l1 l2 l3 l4 l6 l7 s0 l3 V) else (B_X5_fillBetween_51 N  l1 l2 l3 l4 l6 l7 s0 l4 V)
set_option maxRecDepth 20000 in
theorem tB_X5_fillBetween_38 {g : sx_G} (hG : sx_Go g) {P : Option Value → sv_V → Prop} {Vr : sv_V} (hP : P none Vr) {N : Nat}   {l1 : Nat} {l2 : Nat} {l3 : Int32} {l4 : Int32} {l6 : Int32} {l7 : Int32} {s0 : Int32} {V : sv_V} (h : B_X5_fillBetween_38 N  l1 l2 l3 l4 l6 l7 s0 V = some Vr) : sv_N g qX5_fillBetween 1 38 [(1, .ref l1), (2, .ref l2), (3, .int l3), (4, .int l4), (6, .int l6), (7, .int l7)] [.int s0] V P := by
  unfold B_X5_fillBetween_38 at h
  refine sx_istore (pc := 38) (lo' := [(8, .int s0), (1, .ref l1), (2, .ref l2), (3, .int l3), (4, .int l4), (6, .int l6), (7, .int l7)]) dX5_fillBetween_38 (by decide) rfl ?_
  refine sx_iload (pc := 40) dX5_fillBetween_40 sx_m0 ?_
  refine sx_if_eq (pc := 42) (tgt := 50) dX5_fillBetween_42 (by decide) (fun c44 => ?_) (fun c44 => ?_)
  · have h := sx_pos c44 h
    refine sx_iload_n (pc := 50) dX5_fillBetween_50 sx_m3 ?_
    refine sx_wk (sx_s1 sx_m1 (sx_s1 sx_m2 (sx_s1 sx_m3 (sx_s1 sx_m4 (sx_s1 sx_m5 (sx_s1 sx_m6 (sx_s1 sx_m0 sx_s0))))))) ?_
    exact tB_X5_fillBetween_51 hG hP  h
  · have h := sx_neg c44 h
    refine sx_iload (pc := 45) dX5_fillBetween_45 sx_m4 ?_
    refine sx_goto (pc := 47) (tgt := 51) dX5_fillBetween_47 (by decide) ?_
    refine sx_wk (sx_s1 sx_m1 (sx_s1 sx_m2 (sx_s1 sx_m3 (sx_s1 sx_m4 (sx_s1 sx_m5 (sx_s1 sx_m6 (sx_s1 sx_m0 sx_s0))))))) ?_
    exact tB_X5_fillBetween_51 hG hP  h
def F_X5_fillBetween (N : Nat) (l1 : Nat) (l2 : Nat) (l3 : Int32) (l4 : Int32) (l5 : Int32) (V : sv_V) : Option sv_V := (V.2.2 69 7).bind (fun b45 => (F_X8_firstOf b45 l5 V).bind (fun (x49, V47) => if lay b45 = .inl 8 then (V47.2.2 69 7).bind (fun b51 => if lay b51 = .inl 8 then (cr b51 6).bind (fun b54 => (sv_len 0 b54).bind (fun n56 => if sx_in l5 n56 = true then sx_let (V47.1 b54 l5.toNatClampNeg) (fun x59 => (sv_len 0 l1).bind (fun n60 => if sx_in l4 n60 = true then if sx_in l3 n60 = true then if (V47.1 l1 l3.toNatClampNeg) ≤ (V47.1 l1 l4.toNatClampNeg) then (B_X5_fillBetween_38 N  l1 l2 l3 l4 x49 x59 (0 : Int32) V47) else (B_X5_fillBetween_38 N  l1 l2 l3 l4 x49 x59 (1 : Int32) V47) else none else none)) else none)) else none) else none))
set_option maxRecDepth 20000 in
theorem t_X5_fillBetween {g : sx_G} (hG : sx_Go g) {P : Option Value → sv_V → Prop} {Vr : sv_V} (hP : P none Vr) {N : Nat} {l1 : Nat} {l2 : Nat} {l3 : Int32} {l4 : Int32} {l5 : Int32} {V : sv_V} (h : F_X5_fillBetween N l1 l2 l3 l4 l5 V = some Vr) : sv_N g qX5_fillBetween 1 0 [(0, .ref 69), (1, .ref l1), (2, .ref l2), (3, .int l3), (4, .int l4), (5, .int l5)] [] V P := by
  unfold F_X5_fillBetween at h
  refine sx_aload_n (pc := 0) dX5_fillBetween_0 sx_m0 ?_
  obtain ⟨b45, g46, h⟩ := sx_bnd h
  refine sv_getV (pc := 1) hG dX5_fillBetween_1 f_5_38 lay_69 rfl rfl g46 ?_
  refine sx_iload (pc := 4) dX5_fillBetween_4 sx_m5 ?_
  obtain ⟨⟨x49, V47⟩, g48, h⟩ := sx_bnd h
  obtain ⟨g50, h⟩ := sx_grd h
  refine sv_cV (pc := 6) (y := qX8_firstOf) (o := (some (.int x49))) (as := [.int l5]) (V1 := V47) hG dX5_fillBetween_6 l_X5_483 y0X8_firstOf yvX8_firstOf rfl (Nat.le_of_ble_eq_true rfl) g50 kr_8 (by decide) (Nat.le_of_ble_eq_true rfl) rfl rfl rfl (t_X8_firstOf hG ⟨rfl, rfl⟩ g48) ?_
  refine sx_istore (pc := 9) (lo' := [(6, .int x49), (0, .ref 69), (1, .ref l1), (2, .ref l2), (3, .int l3), (4, .int l4), (5, .int l5)]) dX5_fillBetween_9 (by decide) rfl ?_
  refine sx_aload_n (pc := 11) dX5_fillBetween_11 sx_m1 ?_
  obtain ⟨b51, g52, h⟩ := sx_bnd h
  refine sv_getV (pc := 12) hG dX5_fillBetween_12 f_5_38 lay_69 rfl rfl g52 ?_
  obtain ⟨g53, h⟩ := sx_grd h
  obtain ⟨b54, g55, h⟩ := sx_bnd h
  refine sv_getA (pc := 15) hG dX5_fillBetween_15 f_5_486 g53 rfl g55 ?_
  refine sx_iload (pc := 18) dX5_fillBetween_18 sx_m6 ?_
  obtain ⟨n56, g57, h⟩ := sx_bnd h
  obtain ⟨g58, h⟩ := sx_grd h
  refine sv_iald (pc := 20) hG dX5_fillBetween_20 (sv_len_e g57) g58 ?_
  refine sv_tI (fun x59 hx59 => ?_)
  have h := sx_letE hx59 h
  refine sx_istore (pc := 21) (lo' := [(7, .int x59), (6, .int x49), (0, .ref 69), (1, .ref l1), (2, .ref l2), (3, .int l3), (4, .int l4), (5, .int l5)]) dX5_fillBetween_21 (by decide) rfl ?_
  refine sx_aload_n (pc := 23) dX5_fillBetween_23 sx_m3 ?_
  refine sx_iload (pc := 24) dX5_fillBetween_24 sx_m6 ?_
  obtain ⟨n60, g61, h⟩ := sx_bnd h
  obtain ⟨g62, h⟩ := sx_grd h
  refine sv_iald (pc := 26) hG dX5_fillBetween_26 (sv_len_e g61) g62 ?_
  refine sx_aload_n (pc := 27) dX5_fillBetween_27 sx_m3 ?_
  refine sx_iload_n (pc := 28) dX5_fillBetween_28 sx_m5 ?_
  obtain ⟨g63, h⟩ := sx_grd h
  refine sv_iald (pc := 29) hG dX5_fillBetween_29 (sv_len_e g61) g63 ?_
  refine sx_icmp_ge (pc := 30) (tgt := 37) dX5_fillBetween_30 (by decide) (fun c64 => ?_) (fun c64 => ?_)
  · have h := sx_pos c64 h
    refine sx_iconst (pc := 37) (v := 0) dX5_fillBetween_37 (by decide) ?_
    refine sx_wk (sx_s1 sx_m3 (sx_s1 sx_m4 (sx_s1 sx_m5 (sx_s1 sx_m6 (sx_s1 sx_m1 (sx_s1 sx_m0 sx_s0)))))) ?_
    exact tB_X5_fillBetween_38 hG hP  h
  · have h := sx_neg c64 h
    refine sx_iconst (pc := 33) (v := 1) dX5_fillBetween_33 (by decide) ?_
    refine sx_goto (pc := 34) (tgt := 38) dX5_fillBetween_34 (by decide) ?_
    refine sx_wk (sx_s1 sx_m3 (sx_s1 sx_m4 (sx_s1 sx_m5 (sx_s1 sx_m6 (sx_s1 sx_m1 (sx_s1 sx_m0 sx_s0)))))) ?_
    exact tB_X5_fillBetween_38 hG hP  h
def ncX5_shiftPoints : Nat := 554537202922442697862127012401964378583367846357703204272123906656117442314023960972521662135105641271029113404591545700977250008742554285746029866
theorem kcX5_shiftPoints : CK cX5_shiftPoints ncX5_shiftPoints 61 := ⟨by decide +kernel, by decide +kernel⟩
theorem dX5_shiftPoints_0 : decode cX5_shiftPoints 0 = .ok (.aload_n 0, 1) := dl_o42 kcX5_shiftPoints (by decide +kernel)
theorem dX5_shiftPoints_1 : decode cX5_shiftPoints 1 = .ok (.iconst 2, 1) := dl_o5 kcX5_shiftPoints (by decide +kernel)
theorem dX5_shiftPoints_2 : decode cX5_shiftPoints 2 = .ok (.invokevirtual 255, 3) := dl_o182 kcX5_shiftPoints (by decide +kernel)
theorem dX5_shiftPoints_5 : decode cX5_shiftPoints 5 = .ok (.astore_n 3, 1) := dl_o78 kcX5_shiftPoints (by decide +kernel)
theorem dX5_shiftPoints_6 : decode cX5_shiftPoints 6 = .ok (.iconst 0, 1) := dl_o3 kcX5_shiftPoints (by decide +kernel)
theorem dX5_shiftPoints_7 : decode cX5_shiftPoints 7 = .ok (.istore 4, 2) := dl_o54 kcX5_shiftPoints (by decide +kernel)
theorem dX5_shiftPoints_9 : decode cX5_shiftPoints 9 = .ok (.iload 4, 2) := dl_o21 kcX5_shiftPoints (by decide +kernel)
theorem dX5_shiftPoints_11 : decode cX5_shiftPoints 11 = .ok (.aload_n 0, 1) := dl_o42 kcX5_shiftPoints (by decide +kernel)
theorem dX5_shiftPoints_12 : decode cX5_shiftPoints 12 = .ok (.getfield 12, 3) := dl_o180 kcX5_shiftPoints (by decide +kernel)
theorem dX5_shiftPoints_15 : decode cX5_shiftPoints 15 = .ok (.getfield 163, 3) := dl_o180 kcX5_shiftPoints (by decide +kernel)
theorem dX5_shiftPoints_18 : decode cX5_shiftPoints 18 = .ok (.if_icmp .ge 34, 3) := dl_o162 kcX5_shiftPoints 34 (by decide +kernel) (by decide +kernel)
theorem dX5_shiftPoints_21 : decode cX5_shiftPoints 21 = .ok (.aload_n 0, 1) := dl_o42 kcX5_shiftPoints (by decide +kernel)
theorem dX5_shiftPoints_22 : decode cX5_shiftPoints 22 = .ok (.invokevirtual 242, 3) := dl_o182 kcX5_shiftPoints (by decide +kernel)
theorem dX5_shiftPoints_25 : decode cX5_shiftPoints 25 = .ok (.istore 5, 2) := dl_o54 kcX5_shiftPoints (by decide +kernel)
theorem dX5_shiftPoints_27 : decode cX5_shiftPoints 27 = .ok (.aload_n 0, 1) := dl_o42 kcX5_shiftPoints (by decide +kernel)
theorem dX5_shiftPoints_28 : decode cX5_shiftPoints 28 = .ok (.aload_n 3, 1) := dl_o45 kcX5_shiftPoints (by decide +kernel)
theorem dX5_shiftPoints_29 : decode cX5_shiftPoints 29 = .ok (.iload 5, 2) := dl_o21 kcX5_shiftPoints (by decide +kernel)
theorem dX5_shiftPoints_31 : decode cX5_shiftPoints 31 = .ok (.invokevirtual 259, 3) := dl_o182 kcX5_shiftPoints (by decide +kernel)
theorem dX5_shiftPoints_34 : decode cX5_shiftPoints 34 = .ok (.ifCond .ne 4, 3) := dl_o154 kcX5_shiftPoints 4 (by decide +kernel) (by decide +kernel)
theorem dX5_shiftPoints_37 : decode cX5_shiftPoints 37 = .ok (.return_, 1) := dl_o177 kcX5_shiftPoints (by decide +kernel)
theorem dX5_shiftPoints_38 : decode cX5_shiftPoints 38 = .ok (.aload_n 0, 1) := dl_o42 kcX5_shiftPoints (by decide +kernel)
theorem dX5_shiftPoints_39 : decode cX5_shiftPoints 39 = .ok (.aload_n 3, 1) := dl_o45 kcX5_shiftPoints (by decide +kernel)
theorem dX5_shiftPoints_40 : decode cX5_shiftPoints 40 = .ok (.iload 5, 2) := dl_o21 kcX5_shiftPoints (by decide +kernel)
theorem dX5_shiftPoints_42 : decode cX5_shiftPoints 42 = .ok (.lload_n 1, 1) := dl_o31 kcX5_shiftPoints (by decide +kernel)
theorem dX5_shiftPoints_43 : decode cX5_shiftPoints 43 = .ok (.invokevirtual 461, 3) := dl_o182 kcX5_shiftPoints (by decide +kernel)
theorem dX5_shiftPoints_46 : decode cX5_shiftPoints 46 = .ok (.iinc 4 1, 3) := by decide +kernel
theorem dX5_shiftPoints_49 : decode cX5_shiftPoints 49 = .ok (.goto (-40), 3) := dl_o167 kcX5_shiftPoints 65496 (by decide +kernel) (by decide +kernel)
theorem dX5_shiftPoints_52 : decode cX5_shiftPoints 52 = .ok (.aload_n 0, 1) := dl_o42 kcX5_shiftPoints (by decide +kernel)
theorem dX5_shiftPoints_53 : decode cX5_shiftPoints 53 = .ok (.getfield 12, 3) := dl_o180 kcX5_shiftPoints (by decide +kernel)
theorem dX5_shiftPoints_56 : decode cX5_shiftPoints 56 = .ok (.iconst 1, 1) := dl_o4 kcX5_shiftPoints (by decide +kernel)
theorem dX5_shiftPoints_57 : decode cX5_shiftPoints 57 = .ok (.putfield 163, 3) := dl_o181 kcX5_shiftPoints (by decide +kernel)
theorem dX5_shiftPoints_60 : decode cX5_shiftPoints 60 = .ok (.return_, 1) := dl_o177 kcX5_shiftPoints (by decide +kernel)
def B_X5_shiftPoints_9 (N : Nat) (k9 : Int64 → Nat → Int32 → sv_V → Option sv_V) (l1 : Int64) (l3 : Nat) (l4 : Int32) (V : sv_V) : Option sv_V := if (V.1 70 8) ≤ l4 then (sx_let (sv_I V 70 8 (1 : Int32)) (fun V2 => some V2)) else ((F_X5_pop  V).bind (fun (x5, V3) => (F_X5_isThere l3 x5 V3).bind (fun (x8, V6) => if x8 = 0 then (some V6) else ((F_X5_move l3 x5 l1 V6).bind (fun V10 => sx_let (l4 + 1) (fun x12 => k9 l1 l3 x12 V10))))))
set_option maxRecDepth 20000 in
theorem tB_X5_shiftPoints_9 {g : sx_G} (hG : sx_Go g) {P : Option Value → sv_V → Prop} {Vr : sv_V} (hP : P none Vr) {N : Nat} {k9 : Int64 → Nat → Int32 → sv_V → Option sv_V} (hk9 : ∀ (l1 : Int64) (l3 : Nat) (l4 : Int32) (V : sv_V), k9 l1 l3 l4 V = some Vr → sv_N g qX5_shiftPoints 2 9 [(0, .ref 69), (1, .long l1), (3, .ref l3), (4, .int l4)] [] V P) {l1 : Int64} {l3 : Nat} {l4 : Int32} {V : sv_V} (h : B_X5_shiftPoints_9 N k9 l1 l3 l4 V = some Vr) : sv_N g qX5_shiftPoints 2 9 [(0, .ref 69), (1, .long l1), (3, .ref l3), (4, .int l4)] [] V P := by
  unfold B_X5_shiftPoints_9 at h
  refine sx_iload (pc := 9) dX5_shiftPoints_9 sx_m3 ?_
  refine sx_aload_n (pc := 11) dX5_shiftPoints_11 sx_m0 ?_
  refine sv_getO (pc := 12) hG dX5_shiftPoints_12 f_5_12 lay_69 rfl cr_69_1 ?_
  refine sv_getI (pc := 15) hG dX5_shiftPoints_15 f_5_163 lay_70 rfl ?_
  refine sx_icmp_ge (pc := 18) (tgt := 52) dX5_shiftPoints_18 (by decide) (fun c1 => ?_) (fun c1 => ?_)
  · have h := sx_pos c1 h
    refine sx_aload_n (pc := 52) dX5_shiftPoints_52 sx_m0 ?_
    refine sv_getO (pc := 53) hG dX5_shiftPoints_53 f_5_12 lay_69 rfl cr_69_1 ?_
    refine sx_iconst (pc := 56) (v := 1) dX5_shiftPoints_56 (by decide) ?_
    obtain ⟨V2, hV2⟩ : ∃ z : sv_V, z = sv_I V 70 8 (1 : Int32) := ⟨_, rfl⟩
    have h := sx_letE hV2 h
    refine sv_putI (pc := 57) hG dX5_shiftPoints_57 f_5_163 lay_70 rfl hV2 ?_
    exact sv_vret (pc := 60) dX5_shiftPoints_60 rfl h hP
  · have h := sx_neg c1 h
    refine sx_aload_n (pc := 21) dX5_shiftPoints_21 sx_m0 ?_
    obtain ⟨⟨x5, V3⟩, g4, h⟩ := sx_bnd h
    refine sv_cV (pc := 22) (y := qX5_pop) (o := (some (.int x5))) (as := []) (V1 := V3) hG dX5_shiftPoints_22 l_X5_242 y0X5_pop yvX5_pop rfl (Nat.le_of_ble_eq_true rfl) lay_69 kr_5 (by decide) (Nat.le_of_ble_eq_true rfl) rfl rfl rfl (t_X5_pop hG ⟨rfl, rfl⟩ g4) ?_
    refine sx_istore (pc := 25) (lo' := [(5, .int x5), (0, .ref 69), (1, .long l1), (3, .ref l3), (4, .int l4)]) dX5_shiftPoints_25 (by decide) rfl ?_
    refine sx_aload_n (pc := 27) dX5_shiftPoints_27 sx_m1 ?_
    refine sx_aload_n (pc := 28) dX5_shiftPoints_28 sx_m3 ?_
    refine sx_iload (pc := 29) dX5_shiftPoints_29 sx_m0 ?_
    obtain ⟨⟨x8, V6⟩, g7, h⟩ := sx_bnd h
    refine sv_cV (pc := 31) (y := qX5_isThere) (o := (some (.int x8))) (as := [.ref l3, .int x5]) (V1 := V6) hG dX5_shiftPoints_31 l_X5_259 y0X5_isThere yvX5_isThere rfl (Nat.le_of_ble_eq_true rfl) lay_69 kr_5 (by decide) (Nat.le_of_ble_eq_true rfl) rfl rfl rfl (t_X5_isThere hG ⟨rfl, rfl⟩ g7) ?_
    refine sx_if_ne (pc := 34) (tgt := 38) dX5_shiftPoints_34 (by decide) (fun c9 => ?_) (fun c9 => ?_)
    · have h := sx_neg c9 h
      refine sx_aload_n (pc := 38) dX5_shiftPoints_38 sx_m1 ?_
      refine sx_aload_n (pc := 39) dX5_shiftPoints_39 sx_m3 ?_
      refine sx_iload (pc := 40) dX5_shiftPoints_40 sx_m0 ?_
      refine sx_lload_n (pc := 42) dX5_shiftPoints_42 sx_m2 ?_
      obtain ⟨V10, g11, h⟩ := sx_bnd h
      refine sv_cV (pc := 43) (y := qX5_move) (o := none) (as := [.ref l3, .int x5, .long l1]) (V1 := V10) hG dX5_shiftPoints_43 l_X5_461 y0X5_move yvX5_move rfl (Nat.le_of_ble_eq_true rfl) lay_69 kr_5 (by decide) (Nat.le_of_ble_eq_true rfl) rfl rfl rfl (t_X5_move hG ⟨rfl, rfl⟩ g11) ?_
      obtain ⟨x12, hx12⟩ : ∃ z : Int32, z = l4 + 1 := ⟨_, rfl⟩
      have h := sx_letE hx12 h
      refine sx_iinc (pc := 46) (v := x12) (lo' := [(4, .int x12), (5, .int x5), (0, .ref 69), (1, .long l1), (3, .ref l3)]) dX5_shiftPoints_46 sx_m4 (by rw [hx12]; rfl) (by decide) rfl ?_
      refine sx_goto (pc := 49) (tgt := 9) dX5_shiftPoints_49 (by decide) ?_
      refine sx_wk (sx_s1 sx_m2 (sx_s1 sx_m3 (sx_s1 sx_m4 (sx_s1 sx_m0 sx_s0)))) ?_
      exact hk9 _ _ _ _ h
    · have h := sx_pos c9 h
      exact sv_vret (pc := 37) dX5_shiftPoints_37 rfl h hP
theorem tL_X5_shiftPoints_9 {g : sx_G} (hG : sx_Go g) {P : Option Value → sv_V → Prop} {Vr : sv_V} (hP : P none Vr) {N : Nat}   : ∀ (n : Nat) (l1 : Int64) (l3 : Nat) (l4 : Int32) (V : sv_V), sx_lp4 (B_X5_shiftPoints_9 N ) n l1 l3 l4 V = some Vr → sv_N g qX5_shiftPoints 2 9 [(0, .ref 69), (1, .long l1), (3, .ref l3), (4, .int l4)] [] V P :=
  sx_lp4_ind (fun k0 ih _ _ _ V h => tB_X5_shiftPoints_9 hG hP ih h)
def F_X5_shiftPoints (N : Nat) (l1 : Int64) (V : sv_V) : Option sv_V := (F_X5_zone (2 : Int32) V).bind (fun (x15, V13) => sx_lp4 (B_X5_shiftPoints_9 N ) N l1 x15 (0 : Int32) V13)
set_option maxRecDepth 20000 in
theorem t_X5_shiftPoints {g : sx_G} (hG : sx_Go g) {P : Option Value → sv_V → Prop} {Vr : sv_V} (hP : P none Vr) {N : Nat} {l1 : Int64} {V : sv_V} (h : F_X5_shiftPoints N l1 V = some Vr) : sv_N g qX5_shiftPoints 2 0 [(0, .ref 69), (1, .long l1)] [] V P := by
  unfold F_X5_shiftPoints at h
  refine sx_aload_n (pc := 0) dX5_shiftPoints_0 sx_m0 ?_
  refine sx_iconst (pc := 1) (v := 2) dX5_shiftPoints_1 (by decide) ?_
  obtain ⟨⟨x15, V13⟩, g14, h⟩ := sx_bnd h
  refine sv_cV (pc := 2) (y := qX5_zone) (o := (some (.ref x15))) (as := [.int (2 : Int32)]) (V1 := V13) hG dX5_shiftPoints_2 l_X5_255 y0X5_zone yvX5_zone rfl (Nat.le_of_ble_eq_true rfl) lay_69 kr_5 (by decide) (Nat.le_of_ble_eq_true rfl) rfl rfl rfl (t_X5_zone hG ⟨rfl, rfl⟩ g14) ?_
  refine sx_astore_n (pc := 5) (lo' := [(3, .ref x15), (0, .ref 69), (1, .long l1)]) dX5_shiftPoints_5 (by decide) rfl ?_
  refine sx_iconst (pc := 6) (v := 0) dX5_shiftPoints_6 (by decide) ?_
  refine sx_istore (pc := 7) (lo' := [(4, .int (0 : Int32)), (3, .ref x15), (0, .ref 69), (1, .long l1)]) dX5_shiftPoints_7 (by decide) rfl ?_
  refine sx_wk (sx_s1 sx_m2 (sx_s1 sx_m3 (sx_s1 sx_m1 (sx_s1 sx_m0 sx_s0)))) ?_
  exact tL_X5_shiftPoints_9 hG hP  N _ _ _ _ h
def ncX5_shiftContour : Nat := 251149702657988211603084403722914944086029906555191315178710245641381963166743980825689838768681019812287934398270228454119913400677454788407555641538455569278750459117010474308962790630014171077783477342816342301688772138
theorem kcX5_shiftContour : CK cX5_shiftContour ncX5_shiftContour 92 := ⟨by decide +kernel, by decide +kernel⟩
theorem dX5_shiftContour_0 : decode cX5_shiftContour 0 = .ok (.aload_n 0, 1) := dl_o42 kcX5_shiftContour (by decide +kernel)
theorem dX5_shiftContour_1 : decode cX5_shiftContour 1 = .ok (.invokevirtual 242, 3) := dl_o182 kcX5_shiftContour (by decide +kernel)
theorem dX5_shiftContour_4 : decode cX5_shiftContour 4 = .ok (.istore 4, 2) := dl_o54 kcX5_shiftContour (by decide +kernel)
theorem dX5_shiftContour_6 : decode cX5_shiftContour 6 = .ok (.aload_n 0, 1) := dl_o42 kcX5_shiftContour (by decide +kernel)
theorem dX5_shiftContour_7 : decode cX5_shiftContour 7 = .ok (.getfield 12, 3) := dl_o180 kcX5_shiftContour (by decide +kernel)
theorem dX5_shiftContour_10 : decode cX5_shiftContour 10 = .ok (.getfield 172, 3) := dl_o180 kcX5_shiftContour (by decide +kernel)
theorem dX5_shiftContour_13 : decode cX5_shiftContour 13 = .ok (.iconst 2, 1) := dl_o5 kcX5_shiftContour (by decide +kernel)
theorem dX5_shiftContour_14 : decode cX5_shiftContour 14 = .ok (.iaload, 1) := dl_o46 kcX5_shiftContour (by decide +kernel)
theorem dX5_shiftContour_15 : decode cX5_shiftContour 15 = .ok (.iconst 1, 1) := dl_o4 kcX5_shiftContour (by decide +kernel)
theorem dX5_shiftContour_16 : decode cX5_shiftContour 16 = .ok (.if_icmp .ne 20, 3) := dl_o160 kcX5_shiftContour 20 (by decide +kernel) (by decide +kernel)
theorem dX5_shiftContour_19 : decode cX5_shiftContour 19 = .ok (.iload 4, 2) := dl_o21 kcX5_shiftContour (by decide +kernel)
theorem dX5_shiftContour_21 : decode cX5_shiftContour 21 = .ok (.ifCond .lt 15, 3) := dl_o155 kcX5_shiftContour 15 (by decide +kernel) (by decide +kernel)
theorem dX5_shiftContour_24 : decode cX5_shiftContour 24 = .ok (.iload 4, 2) := dl_o21 kcX5_shiftContour (by decide +kernel)
theorem dX5_shiftContour_26 : decode cX5_shiftContour 26 = .ok (.aload_n 0, 1) := dl_o42 kcX5_shiftContour (by decide +kernel)
theorem dX5_shiftContour_27 : decode cX5_shiftContour 27 = .ok (.getfield 38, 3) := dl_o180 kcX5_shiftContour (by decide +kernel)
theorem dX5_shiftContour_30 : decode cX5_shiftContour 30 = .ok (.getfield 480, 3) := dl_o180 kcX5_shiftContour (by decide +kernel)
theorem dX5_shiftContour_33 : decode cX5_shiftContour 33 = .ok (.if_icmp .lt 9, 3) := dl_o161 kcX5_shiftContour 9 (by decide +kernel) (by decide +kernel)
theorem dX5_shiftContour_36 : decode cX5_shiftContour 36 = .ok (.aload_n 0, 1) := dl_o42 kcX5_shiftContour (by decide +kernel)
theorem dX5_shiftContour_37 : decode cX5_shiftContour 37 = .ok (.iconst 5, 1) := dl_o8 kcX5_shiftContour (by decide +kernel)
theorem dX5_shiftContour_38 : decode cX5_shiftContour 38 = .ok (.putfield 56, 3) := dl_o181 kcX5_shiftContour (by decide +kernel)
theorem dX5_shiftContour_41 : decode cX5_shiftContour 41 = .ok (.return_, 1) := dl_o177 kcX5_shiftContour (by decide +kernel)
theorem dX5_shiftContour_42 : decode cX5_shiftContour 42 = .ok (.aload_n 0, 1) := dl_o42 kcX5_shiftContour (by decide +kernel)
theorem dX5_shiftContour_43 : decode cX5_shiftContour 43 = .ok (.getfield 38, 3) := dl_o180 kcX5_shiftContour (by decide +kernel)
theorem dX5_shiftContour_46 : decode cX5_shiftContour 46 = .ok (.iload 4, 2) := dl_o21 kcX5_shiftContour (by decide +kernel)
theorem dX5_shiftContour_48 : decode cX5_shiftContour 48 = .ok (.invokevirtual 483, 3) := dl_o182 kcX5_shiftContour (by decide +kernel)
theorem dX5_shiftContour_51 : decode cX5_shiftContour 51 = .ok (.istore 5, 2) := dl_o54 kcX5_shiftContour (by decide +kernel)
theorem dX5_shiftContour_53 : decode cX5_shiftContour 53 = .ok (.iload 5, 2) := dl_o21 kcX5_shiftContour (by decide +kernel)
theorem dX5_shiftContour_55 : decode cX5_shiftContour 55 = .ok (.aload_n 0, 1) := dl_o42 kcX5_shiftContour (by decide +kernel)
theorem dX5_shiftContour_56 : decode cX5_shiftContour 56 = .ok (.getfield 38, 3) := dl_o180 kcX5_shiftContour (by decide +kernel)
theorem dX5_shiftContour_59 : decode cX5_shiftContour 59 = .ok (.getfield 486, 3) := dl_o180 kcX5_shiftContour (by decide +kernel)
theorem dX5_shiftContour_62 : decode cX5_shiftContour 62 = .ok (.iload 4, 2) := dl_o21 kcX5_shiftContour (by decide +kernel)
theorem dX5_shiftContour_64 : decode cX5_shiftContour 64 = .ok (.iaload, 1) := dl_o46 kcX5_shiftContour (by decide +kernel)
theorem dX5_shiftContour_65 : decode cX5_shiftContour 65 = .ok (.if_icmp .gt 26, 3) := dl_o163 kcX5_shiftContour 26 (by decide +kernel) (by decide +kernel)
theorem dX5_shiftContour_68 : decode cX5_shiftContour 68 = .ok (.iload 5, 2) := dl_o21 kcX5_shiftContour (by decide +kernel)
theorem dX5_shiftContour_70 : decode cX5_shiftContour 70 = .ok (.iload_n 3, 1) := dl_o29 kcX5_shiftContour (by decide +kernel)
theorem dX5_shiftContour_71 : decode cX5_shiftContour 71 = .ok (.if_icmp .eq 14, 3) := dl_o159 kcX5_shiftContour 14 (by decide +kernel) (by decide +kernel)
theorem dX5_shiftContour_74 : decode cX5_shiftContour 74 = .ok (.aload_n 0, 1) := dl_o42 kcX5_shiftContour (by decide +kernel)
theorem dX5_shiftContour_75 : decode cX5_shiftContour 75 = .ok (.aload_n 0, 1) := dl_o42 kcX5_shiftContour (by decide +kernel)
theorem dX5_shiftContour_76 : decode cX5_shiftContour 76 = .ok (.getfield 38, 3) := dl_o180 kcX5_shiftContour (by decide +kernel)
theorem dX5_shiftContour_79 : decode cX5_shiftContour 79 = .ok (.iload 5, 2) := dl_o21 kcX5_shiftContour (by decide +kernel)
theorem dX5_shiftContour_81 : decode cX5_shiftContour 81 = .ok (.lload_n 1, 1) := dl_o31 kcX5_shiftContour (by decide +kernel)
theorem dX5_shiftContour_82 : decode cX5_shiftContour 82 = .ok (.invokevirtual 461, 3) := dl_o182 kcX5_shiftContour (by decide +kernel)
theorem dX5_shiftContour_85 : decode cX5_shiftContour 85 = .ok (.iinc 5 1, 3) := by decide +kernel
theorem dX5_shiftContour_88 : decode cX5_shiftContour 88 = .ok (.goto (-35), 3) := dl_o167 kcX5_shiftContour 65501 (by decide +kernel) (by decide +kernel)
theorem dX5_shiftContour_91 : decode cX5_shiftContour 91 = .ok (.return_, 1) := dl_o177 kcX5_shiftContour (by decide +kernel)
def B_X5_shiftContour_85 (N : Nat) (k53 : Int64 → Int32 → Int32 → Int32 → sv_V → Option sv_V) (l1 : Int64) (l3 : Int32) (l4 : Int32) (l5 : Int32) (V : sv_V) : Option sv_V := sx_let (l5 + 1) (fun x1 => k53 l1 l3 l4 x1 V)
set_option maxRecDepth 20000 in
theorem tB_X5_shiftContour_85 {g : sx_G} (hG : sx_Go g) {P : Option Value → sv_V → Prop} {Vr : sv_V} (hP : P none Vr) {N : Nat} {k53 : Int64 → Int32 → Int32 → Int32 → sv_V → Option sv_V} (hk53 : ∀ (l1 : Int64) (l3 : Int32) (l4 : Int32) (l5 : Int32) (V : sv_V), k53 l1 l3 l4 l5 V = some Vr → sv_N g qX5_shiftContour 2 53 [(0, .ref 69), (1, .long l1), (3, .int l3), (4, .int l4), (5, .int l5)] [] V P) {l1 : Int64} {l3 : Int32} {l4 : Int32} {l5 : Int32} {V : sv_V} (h : B_X5_shiftContour_85 N k53 l1 l3 l4 l5 V = some Vr) : sv_N g qX5_shiftContour 2 85 [(0, .ref 69), (1, .long l1), (3, .int l3), (4, .int l4), (5, .int l5)] [] V P := by
  unfold B_X5_shiftContour_85 at h
  obtain ⟨x1, hx1⟩ : ∃ z : Int32, z = l5 + 1 := ⟨_, rfl⟩
  have h := sx_letE hx1 h
  refine sx_iinc (pc := 85) (v := x1) (lo' := [(5, .int x1), (0, .ref 69), (1, .long l1), (3, .int l3), (4, .int l4)]) dX5_shiftContour_85 sx_m4 (by rw [hx1]; rfl) (by decide) rfl ?_
  refine sx_goto (pc := 88) (tgt := 53) dX5_shiftContour_88 (by decide) ?_
  refine sx_wk (sx_s1 sx_m1 (sx_s1 sx_m2 (sx_s1 sx_m3 (sx_s1 sx_m4 (sx_s1 sx_m0 sx_s0))))) ?_
  exact hk53 _ _ _ _ _ h
def B_X5_shiftContour_53 (N : Nat) (k53 : Int64 → Int32 → Int32 → Int32 → sv_V → Option sv_V) (l1 : Int64) (l3 : Int32) (l4 : Int32) (l5 : Int32) (V : sv_V) : Option sv_V := (V.2.2 69 7).bind (fun b2 => if lay b2 = .inl 8 then (cr b2 6).bind (fun b5 => (sv_len 0 b5).bind (fun n7 => if sx_in l4 n7 = true then if (V.1 b5 l4.toNatClampNeg) < l5 then (some V) else (if l5 = l3 then (B_X5_shiftContour_85 N k53 l1 l3 l4 l5 V) else ((V.2.2 69 7).bind (fun b12 => (F_X5_move b12 l5 l1 V).bind (fun V14 => B_X5_shiftContour_85 N k53 l1 l3 l4 l5 V14)))) else none)) else none)
set_option maxRecDepth 20000 in
theorem tB_X5_shiftContour_53 {g : sx_G} (hG : sx_Go g) {P : Option Value → sv_V → Prop} {Vr : sv_V} (hP : P none Vr) {N : Nat} {k53 : Int64 → Int32 → Int32 → Int32 → sv_V → Option sv_V} (hk53 : ∀ (l1 : Int64) (l3 : Int32) (l4 : Int32) (l5 : Int32) (V : sv_V), k53 l1 l3 l4 l5 V = some Vr → sv_N g qX5_shiftContour 2 53 [(0, .ref 69), (1, .long l1), (3, .int l3), (4, .int l4), (5, .int l5)] [] V P) {l1 : Int64} {l3 : Int32} {l4 : Int32} {l5 : Int32} {V : sv_V} (h : B_X5_shiftContour_53 N k53 l1 l3 l4 l5 V = some Vr) : sv_N g qX5_shiftContour 2 53 [(0, .ref 69), (1, .long l1), (3, .int l3), (4, .int l4), (5, .int l5)] [] V P := by
  unfold B_X5_shiftContour_53 at h
  refine sx_iload (pc := 53) dX5_shiftContour_53 sx_m4 ?_
  refine sx_aload_n (pc := 55) dX5_shiftContour_55 sx_m0 ?_
  obtain ⟨b2, g3, h⟩ := sx_bnd h
  refine sv_getV (pc := 56) hG dX5_shiftContour_56 f_5_38 lay_69 rfl rfl g3 ?_
  obtain ⟨g4, h⟩ := sx_grd h
  obtain ⟨b5, g6, h⟩ := sx_bnd h
  refine sv_getA (pc := 59) hG dX5_shiftContour_59 f_5_486 g4 rfl g6 ?_
  refine sx_iload (pc := 62) dX5_shiftContour_62 sx_m3 ?_
  obtain ⟨n7, g8, h⟩ := sx_bnd h
  obtain ⟨g9, h⟩ := sx_grd h
  refine sv_iald (pc := 64) hG dX5_shiftContour_64 (sv_len_e g8) g9 ?_
  refine sx_icmp_gt (pc := 65) (tgt := 91) dX5_shiftContour_65 (by decide) (fun c10 => ?_) (fun c10 => ?_)
  · have h := sx_pos c10 h
    exact sv_vret (pc := 91) dX5_shiftContour_91 rfl h hP
  · have h := sx_neg c10 h
    refine sx_iload (pc := 68) dX5_shiftContour_68 sx_m4 ?_
    refine sx_iload_n (pc := 70) dX5_shiftContour_70 sx_m2 ?_
    refine sx_icmp_eq (pc := 71) (tgt := 85) dX5_shiftContour_71 (by decide) (fun c11 => ?_) (fun c11 => ?_)
    · have h := sx_pos c11 h
      refine sx_wk (sx_s1 sx_m0 (sx_s1 sx_m1 (sx_s1 sx_m2 (sx_s1 sx_m3 (sx_s1 sx_m4 sx_s0))))) ?_
      exact tB_X5_shiftContour_85 hG hP hk53 h
    · have h := sx_neg c11 h
      refine sx_aload_n (pc := 74) dX5_shiftContour_74 sx_m0 ?_
      refine sx_aload_n (pc := 75) dX5_shiftContour_75 sx_m0 ?_
      obtain ⟨b12, g13, h⟩ := sx_bnd h
      refine sv_getV (pc := 76) hG dX5_shiftContour_76 f_5_38 lay_69 rfl rfl g13 ?_
      refine sx_iload (pc := 79) dX5_shiftContour_79 sx_m4 ?_
      refine sx_lload_n (pc := 81) dX5_shiftContour_81 sx_m1 ?_
      obtain ⟨V14, g15, h⟩ := sx_bnd h
      refine sv_cV (pc := 82) (y := qX5_move) (o := none) (as := [.ref b12, .int l5, .long l1]) (V1 := V14) hG dX5_shiftContour_82 l_X5_461 y0X5_move yvX5_move rfl (Nat.le_of_ble_eq_true rfl) lay_69 kr_5 (by decide) (Nat.le_of_ble_eq_true rfl) rfl rfl rfl (t_X5_move hG ⟨rfl, rfl⟩ g15) ?_
      refine sx_wk (sx_s1 sx_m0 (sx_s1 sx_m1 (sx_s1 sx_m2 (sx_s1 sx_m3 (sx_s1 sx_m4 sx_s0))))) ?_
      exact tB_X5_shiftContour_85 hG hP hk53 h
theorem tL_X5_shiftContour_53 {g : sx_G} (hG : sx_Go g) {P : Option Value → sv_V → Prop} {Vr : sv_V} (hP : P none Vr) {N : Nat}   : ∀ (n : Nat) (l1 : Int64) (l3 : Int32) (l4 : Int32) (l5 : Int32) (V : sv_V), sx_lp5 (B_X5_shiftContour_53 N ) n l1 l3 l4 l5 V = some Vr → sv_N g qX5_shiftContour 2 53 [(0, .ref 69), (1, .long l1), (3, .int l3), (4, .int l4), (5, .int l5)] [] V P :=
  sx_lp5_ind (fun k0 ih _ _ _ _ V h => tB_X5_shiftContour_53 hG hP ih h)
def F_X5_shiftContour (N : Nat) (l1 : Int64) (l3 : Int32) (V : sv_V) : Option sv_V := (F_X5_pop  V).bind (fun (x18, V16) => if (V16.1 72 (2 : Int32).toNatClampNeg) = (1 : Int32) then (if x18 < 0 then (sx_let (sv_I V16 69 14 (5 : Int32)) (fun V22 => some V22)) else ((V16.2.2 69 7).bind (fun b23 => if lay b23 = .inl 8 then if x18 < (V16.1 b23 10) then ((V16.2.2 69 7).bind (fun b27 => (F_X8_firstOf b27 x18 V16).bind (fun (x31, V29) => if lay b27 = .inl 8 then sx_lp5 (B_X5_shiftContour_53 N ) N l1 l3 x18 x31 V29 else none))) else (sx_let (sv_I V16 69 14 (5 : Int32)) (fun V33 => some V33)) else none))) else (sx_let (sv_I V16 69 14 (5 : Int32)) (fun V20 => some V20)))
set_option maxRecDepth 20000 in
theorem t_X5_shiftContour {g : sx_G} (hG : sx_Go g) {P : Option Value → sv_V → Prop} {Vr : sv_V} (hP : P none Vr) {N : Nat} {l1 : Int64} {l3 : Int32} {V : sv_V} (h : F_X5_shiftContour N l1 l3 V = some Vr) : sv_N g qX5_shiftContour 2 0 [(0, .ref 69), (1, .long l1), (3, .int l3)] [] V P := by
  unfold F_X5_shiftContour at h
  refine sx_aload_n (pc := 0) dX5_shiftContour_0 sx_m0 ?_
  obtain ⟨⟨x18, V16⟩, g17, h⟩ := sx_bnd h
  refine sv_cV (pc := 1) (y := qX5_pop) (o := (some (.int x18))) (as := []) (V1 := V16) hG dX5_shiftContour_1 l_X5_242 y0X5_pop yvX5_pop rfl (Nat.le_of_ble_eq_true rfl) lay_69 kr_5 (by decide) (Nat.le_of_ble_eq_true rfl) rfl rfl rfl (t_X5_pop hG ⟨rfl, rfl⟩ g17) ?_
  refine sx_istore (pc := 4) (lo' := [(4, .int x18), (0, .ref 69), (1, .long l1), (3, .int l3)]) dX5_shiftContour_4 (by decide) rfl ?_
  refine sx_aload_n (pc := 6) dX5_shiftContour_6 sx_m1 ?_
  refine sv_getO (pc := 7) hG dX5_shiftContour_7 f_5_12 lay_69 rfl cr_69_1 ?_
  refine sv_getA (pc := 10) hG dX5_shiftContour_10 f_5_172 lay_70 rfl cr_70_7 ?_
  refine sx_iconst (pc := 13) (v := 2) dX5_shiftContour_13 (by decide) ?_
  refine sv_iald (pc := 14) hG dX5_shiftContour_14 lay_72 (by decide) ?_
  refine sx_iconst (pc := 15) (v := 1) dX5_shiftContour_15 (by decide) ?_
  refine sx_icmp_ne (pc := 16) (tgt := 36) dX5_shiftContour_16 (by decide) (fun c19 => ?_) (fun c19 => ?_)
  · have h := sx_neg c19 h
    refine sx_aload_n (pc := 36) dX5_shiftContour_36 sx_m1 ?_
    refine sx_iconst (pc := 37) (v := 5) dX5_shiftContour_37 (by decide) ?_
    obtain ⟨V20, hV20⟩ : ∃ z : sv_V, z = sv_I V16 69 14 (5 : Int32) := ⟨_, rfl⟩
    have h := sx_letE hV20 h
    refine sv_putI (pc := 38) hG dX5_shiftContour_38 f_5_56 lay_69 rfl hV20 ?_
    exact sv_vret (pc := 41) dX5_shiftContour_41 rfl h hP
  · have h := sx_pos c19 h
    refine sx_iload (pc := 19) dX5_shiftContour_19 sx_m0 ?_
    refine sx_if_lt (pc := 21) (tgt := 36) dX5_shiftContour_21 (by decide) (fun c21 => ?_) (fun c21 => ?_)
    · have h := sx_pos c21 h
      refine sx_aload_n (pc := 36) dX5_shiftContour_36 sx_m1 ?_
      refine sx_iconst (pc := 37) (v := 5) dX5_shiftContour_37 (by decide) ?_
      obtain ⟨V22, hV22⟩ : ∃ z : sv_V, z = sv_I V16 69 14 (5 : Int32) := ⟨_, rfl⟩
      have h := sx_letE hV22 h
      refine sv_putI (pc := 38) hG dX5_shiftContour_38 f_5_56 lay_69 rfl hV22 ?_
      exact sv_vret (pc := 41) dX5_shiftContour_41 rfl h hP
    · have h := sx_neg c21 h
      refine sx_iload (pc := 24) dX5_shiftContour_24 sx_m0 ?_
      refine sx_aload_n (pc := 26) dX5_shiftContour_26 sx_m1 ?_
      obtain ⟨b23, g24, h⟩ := sx_bnd h
      refine sv_getV (pc := 27) hG dX5_shiftContour_27 f_5_38 lay_69 rfl rfl g24 ?_
      obtain ⟨g25, h⟩ := sx_grd h
      refine sv_getI (pc := 30) hG dX5_shiftContour_30 f_5_480 g25 rfl ?_
      refine sx_icmp_lt (pc := 33) (tgt := 42) dX5_shiftContour_33 (by decide) (fun c26 => ?_) (fun c26 => ?_)
      · have h := sx_pos c26 h
        refine sx_aload_n (pc := 42) dX5_shiftContour_42 sx_m1 ?_
        obtain ⟨b27, g28, h⟩ := sx_bnd h
        refine sv_getV (pc := 43) hG dX5_shiftContour_43 f_5_38 lay_69 rfl rfl g28 ?_
        refine sx_iload (pc := 46) dX5_shiftContour_46 sx_m0 ?_
        obtain ⟨⟨x31, V29⟩, g30, h⟩ := sx_bnd h
        obtain ⟨g32, h⟩ := sx_grd h
        refine sv_cV (pc := 48) (y := qX8_firstOf) (o := (some (.int x31))) (as := [.int x18]) (V1 := V29) hG dX5_shiftContour_48 l_X5_483 y0X8_firstOf yvX8_firstOf rfl (Nat.le_of_ble_eq_true rfl) g32 kr_8 (by decide) (Nat.le_of_ble_eq_true rfl) rfl rfl rfl (t_X8_firstOf hG ⟨rfl, rfl⟩ g30) ?_
        refine sx_istore (pc := 51) (lo' := [(5, .int x31), (4, .int x18), (0, .ref 69), (1, .long l1), (3, .int l3)]) dX5_shiftContour_51 (by decide) rfl ?_
        refine sx_wk (sx_s1 sx_m2 (sx_s1 sx_m3 (sx_s1 sx_m4 (sx_s1 sx_m1 (sx_s1 sx_m0 sx_s0))))) ?_
        exact tL_X5_shiftContour_53 hG hP  N _ _ _ _ _ h
      · have h := sx_neg c26 h
        refine sx_aload_n (pc := 36) dX5_shiftContour_36 sx_m1 ?_
        refine sx_iconst (pc := 37) (v := 5) dX5_shiftContour_37 (by decide) ?_
        obtain ⟨V33, hV33⟩ : ∃ z : sv_V, z = sv_I V16 69 14 (5 : Int32) := ⟨_, rfl⟩
        have h := sx_letE hV33 h
        refine sv_putI (pc := 38) hG dX5_shiftContour_38 f_5_56 lay_69 rfl hV33 ?_
        exact sv_vret (pc := 41) dX5_shiftContour_41 rfl h hP
def ncX5_shiftZone : Nat := 19889389557718995110683910773171525471648127552386491039419995177976031386478197750366889742052181599706686072302572619121103492627643979436325359955565839816539216684752304954296518095505304662247000399959337173590154569726755750555674877423127672362
theorem kcX5_shiftZone : CK cX5_shiftZone ncX5_shiftZone 104 := ⟨by decide +kernel, by decide +kernel⟩
theorem dX5_shiftZone_0 : decode cX5_shiftZone 0 = .ok (.aload_n 0, 1) := dl_o42 kcX5_shiftZone (by decide +kernel)
theorem dX5_shiftZone_1 : decode cX5_shiftZone 1 = .ok (.invokevirtual 242, 3) := dl_o182 kcX5_shiftZone (by decide +kernel)
theorem dX5_shiftZone_4 : decode cX5_shiftZone 4 = .ok (.istore 5, 2) := dl_o54 kcX5_shiftZone (by decide +kernel)
theorem dX5_shiftZone_6 : decode cX5_shiftZone 6 = .ok (.aload_n 0, 1) := dl_o42 kcX5_shiftZone (by decide +kernel)
theorem dX5_shiftZone_7 : decode cX5_shiftZone 7 = .ok (.iload 5, 2) := dl_o21 kcX5_shiftZone (by decide +kernel)
theorem dX5_shiftZone_9 : decode cX5_shiftZone 9 = .ok (.invokevirtual 298, 3) := dl_o182 kcX5_shiftZone (by decide +kernel)
theorem dX5_shiftZone_12 : decode cX5_shiftZone 12 = .ok (.ifCond .ne 9, 3) := dl_o154 kcX5_shiftZone 9 (by decide +kernel) (by decide +kernel)
theorem dX5_shiftZone_15 : decode cX5_shiftZone 15 = .ok (.aload_n 0, 1) := dl_o42 kcX5_shiftZone (by decide +kernel)
theorem dX5_shiftZone_16 : decode cX5_shiftZone 16 = .ok (.iconst 5, 1) := dl_o8 kcX5_shiftZone (by decide +kernel)
theorem dX5_shiftZone_17 : decode cX5_shiftZone 17 = .ok (.putfield 56, 3) := dl_o181 kcX5_shiftZone (by decide +kernel)
theorem dX5_shiftZone_20 : decode cX5_shiftZone 20 = .ok (.return_, 1) := dl_o177 kcX5_shiftZone (by decide +kernel)
theorem dX5_shiftZone_21 : decode cX5_shiftZone 21 = .ok (.iload 5, 2) := dl_o21 kcX5_shiftZone (by decide +kernel)
theorem dX5_shiftZone_23 : decode cX5_shiftZone 23 = .ok (.ifCond .ne 13, 3) := dl_o154 kcX5_shiftZone 13 (by decide +kernel) (by decide +kernel)
theorem dX5_shiftZone_26 : decode cX5_shiftZone 26 = .ok (.aload_n 0, 1) := dl_o42 kcX5_shiftZone (by decide +kernel)
theorem dX5_shiftZone_27 : decode cX5_shiftZone 27 = .ok (.getfield 49, 3) := dl_o180 kcX5_shiftZone (by decide +kernel)
theorem dX5_shiftZone_30 : decode cX5_shiftZone 30 = .ok (.getfield 175, 3) := dl_o180 kcX5_shiftZone (by decide +kernel)
theorem dX5_shiftZone_33 : decode cX5_shiftZone 33 = .ok (.goto 7, 3) := dl_o167 kcX5_shiftZone 7 (by decide +kernel) (by decide +kernel)
theorem dX5_shiftZone_36 : decode cX5_shiftZone 36 = .ok (.aload_n 0, 1) := dl_o42 kcX5_shiftZone (by decide +kernel)
theorem dX5_shiftZone_37 : decode cX5_shiftZone 37 = .ok (.getfield 38, 3) := dl_o180 kcX5_shiftZone (by decide +kernel)
theorem dX5_shiftZone_40 : decode cX5_shiftZone 40 = .ok (.astore 6, 2) := dl_o58 kcX5_shiftZone (by decide +kernel)
theorem dX5_shiftZone_42 : decode cX5_shiftZone 42 = .ok (.iconst 0, 1) := dl_o3 kcX5_shiftZone (by decide +kernel)
theorem dX5_shiftZone_43 : decode cX5_shiftZone 43 = .ok (.istore 7, 2) := dl_o54 kcX5_shiftZone (by decide +kernel)
theorem dX5_shiftZone_45 : decode cX5_shiftZone 45 = .ok (.iload 7, 2) := dl_o21 kcX5_shiftZone (by decide +kernel)
theorem dX5_shiftZone_47 : decode cX5_shiftZone 47 = .ok (.aload 6, 2) := dl_o25 kcX5_shiftZone (by decide +kernel)
theorem dX5_shiftZone_49 : decode cX5_shiftZone 49 = .ok (.getfield 474, 3) := dl_o180 kcX5_shiftZone (by decide +kernel)
theorem dX5_shiftZone_52 : decode cX5_shiftZone 52 = .ok (.if_icmp .ge 51, 3) := dl_o162 kcX5_shiftZone 51 (by decide +kernel) (by decide +kernel)
theorem dX5_shiftZone_55 : decode cX5_shiftZone 55 = .ok (.aload 6, 2) := dl_o25 kcX5_shiftZone (by decide +kernel)
theorem dX5_shiftZone_57 : decode cX5_shiftZone 57 = .ok (.aload_n 3, 1) := dl_o45 kcX5_shiftZone (by decide +kernel)
theorem dX5_shiftZone_58 : decode cX5_shiftZone 58 = .ok (.if_acmp .ne 10, 3) := by decide +kernel
theorem dX5_shiftZone_61 : decode cX5_shiftZone 61 = .ok (.iload 7, 2) := dl_o21 kcX5_shiftZone (by decide +kernel)
theorem dX5_shiftZone_63 : decode cX5_shiftZone 63 = .ok (.iload 4, 2) := dl_o21 kcX5_shiftZone (by decide +kernel)
theorem dX5_shiftZone_65 : decode cX5_shiftZone 65 = .ok (.if_icmp .eq 32, 3) := dl_o159 kcX5_shiftZone 32 (by decide +kernel) (by decide +kernel)
theorem dX5_shiftZone_68 : decode cX5_shiftZone 68 = .ok (.aload 6, 2) := dl_o25 kcX5_shiftZone (by decide +kernel)
theorem dX5_shiftZone_70 : decode cX5_shiftZone 70 = .ok (.getfield 220, 3) := dl_o180 kcX5_shiftZone (by decide +kernel)
theorem dX5_shiftZone_73 : decode cX5_shiftZone 73 = .ok (.iload 7, 2) := dl_o21 kcX5_shiftZone (by decide +kernel)
theorem dX5_shiftZone_75 : decode cX5_shiftZone 75 = .ok (.iaload, 1) := dl_o46 kcX5_shiftZone (by decide +kernel)
theorem dX5_shiftZone_76 : decode cX5_shiftZone 76 = .ok (.istore 8, 2) := dl_o54 kcX5_shiftZone (by decide +kernel)
theorem dX5_shiftZone_78 : decode cX5_shiftZone 78 = .ok (.aload_n 0, 1) := dl_o42 kcX5_shiftZone (by decide +kernel)
theorem dX5_shiftZone_79 : decode cX5_shiftZone 79 = .ok (.aload 6, 2) := dl_o25 kcX5_shiftZone (by decide +kernel)
theorem dX5_shiftZone_81 : decode cX5_shiftZone 81 = .ok (.iload 7, 2) := dl_o21 kcX5_shiftZone (by decide +kernel)
theorem dX5_shiftZone_83 : decode cX5_shiftZone 83 = .ok (.lload_n 1, 1) := dl_o31 kcX5_shiftZone (by decide +kernel)
theorem dX5_shiftZone_84 : decode cX5_shiftZone 84 = .ok (.invokevirtual 461, 3) := dl_o182 kcX5_shiftZone (by decide +kernel)
theorem dX5_shiftZone_87 : decode cX5_shiftZone 87 = .ok (.aload 6, 2) := dl_o25 kcX5_shiftZone (by decide +kernel)
theorem dX5_shiftZone_89 : decode cX5_shiftZone 89 = .ok (.getfield 220, 3) := dl_o180 kcX5_shiftZone (by decide +kernel)
theorem dX5_shiftZone_92 : decode cX5_shiftZone 92 = .ok (.iload 7, 2) := dl_o21 kcX5_shiftZone (by decide +kernel)
theorem dX5_shiftZone_94 : decode cX5_shiftZone 94 = .ok (.iload 8, 2) := dl_o21 kcX5_shiftZone (by decide +kernel)
theorem dX5_shiftZone_96 : decode cX5_shiftZone 96 = .ok (.iastore, 1) := dl_o79 kcX5_shiftZone (by decide +kernel)
theorem dX5_shiftZone_97 : decode cX5_shiftZone 97 = .ok (.iinc 7 1, 3) := by decide +kernel
theorem dX5_shiftZone_100 : decode cX5_shiftZone 100 = .ok (.goto (-55), 3) := dl_o167 kcX5_shiftZone 65481 (by decide +kernel) (by decide +kernel)
theorem dX5_shiftZone_103 : decode cX5_shiftZone 103 = .ok (.return_, 1) := dl_o177 kcX5_shiftZone (by decide +kernel)
def B_X5_shiftZone_97 (N : Nat) (k45 : Int64 → Nat → Int32 → Nat → Int32 → sv_V → Option sv_V) (l1 : Int64) (l3 : Nat) (l4 : Int32) (l6 : Nat) (l7 : Int32) (V : sv_V) : Option sv_V := sx_let (l7 + 1) (fun x1 => k45 l1 l3 l4 l6 x1 V)
set_option maxRecDepth 20000 in
theorem tB_X5_shiftZone_97 {g : sx_G} (hG : sx_Go g) {P : Option Value → sv_V → Prop} {Vr : sv_V} (hP : P none Vr) {N : Nat} {k45 : Int64 → Nat → Int32 → Nat → Int32 → sv_V → Option sv_V} (hk45 : ∀ (l1 : Int64) (l3 : Nat) (l4 : Int32) (l6 : Nat) (l7 : Int32) (V : sv_V), k45 l1 l3 l4 l6 l7 V = some Vr → sv_N g qX5_shiftZone 2 45 [(0, .ref 69), (1, .long l1), (3, .ref l3), (4, .int l4), (6, .ref l6), (7, .int l7)] [] V P) {l1 : Int64} {l3 : Nat} {l4 : Int32} {l6 : Nat} {l7 : Int32} {V : sv_V} (h : B_X5_shiftZone_97 N k45 l1 l3 l4 l6 l7 V = some Vr) : sv_N g qX5_shiftZone 2 97 [(0, .ref 69), (1, .long l1), (3, .ref l3), (4, .int l4), (6, .ref l6), (7, .int l7)] [] V P := by
  unfold B_X5_shiftZone_97 at h
  obtain ⟨x1, hx1⟩ : ∃ z : Int32, z = l7 + 1 := ⟨_, rfl⟩
  have h := sx_letE hx1 h
  refine sx_iinc (pc := 97) (v := x1) (lo' := [(7, .int x1), (0, .ref 69), (1, .long l1), (3, .ref l3), (4, .int l4), (6, .ref l6)]) dX5_shiftZone_97 sx_m5 (by rw [hx1]; rfl) (by decide) rfl ?_
  refine sx_goto (pc := 100) (tgt := 45) dX5_shiftZone_100 (by decide) ?_
  refine sx_wk (sx_s1 sx_m1 (sx_s1 sx_m2 (sx_s1 sx_m3 (sx_s1 sx_m4 (sx_s1 sx_m5 (sx_s1 sx_m0 sx_s0)))))) ?_
  exact hk45 _ _ _ _ _ _ h
def B_X5_shiftZone_68 (N : Nat) (k45 : Int64 → Nat → Int32 → Nat → Int32 → sv_V → Option sv_V) (l1 : Int64) (l3 : Nat) (l4 : Int32) (l6 : Nat) (l7 : Int32) (V : sv_V) : Option sv_V := if lay l6 = .inl 8 then (cr l6 4).bind (fun b3 => (sv_len 0 b3).bind (fun n5 => if sx_in l7 n5 = true then sx_let (V.1 b3 l7.toNatClampNeg) (fun x8 => (F_X5_move l6 l7 l1 V).bind (fun V9 => if sx_in l7 n5 = true then sx_let (sv_I V9 b3 l7.toNatClampNeg x8) (fun V12 => B_X5_shiftZone_97 N k45 l1 l3 l4 l6 l7 V12) else none)) else none)) else none
set_option maxRecDepth 20000 in
theorem tB_X5_shiftZone_68 {g : sx_G} (hG : sx_Go g) {P : Option Value → sv_V → Prop} {Vr : sv_V} (hP : P none Vr) {N : Nat} {k45 : Int64 → Nat → Int32 → Nat → Int32 → sv_V → Option sv_V} (hk45 : ∀ (l1 : Int64) (l3 : Nat) (l4 : Int32) (l6 : Nat) (l7 : Int32) (V : sv_V), k45 l1 l3 l4 l6 l7 V = some Vr → sv_N g qX5_shiftZone 2 45 [(0, .ref 69), (1, .long l1), (3, .ref l3), (4, .int l4), (6, .ref l6), (7, .int l7)] [] V P) {l1 : Int64} {l3 : Nat} {l4 : Int32} {l6 : Nat} {l7 : Int32} {V : sv_V} (h : B_X5_shiftZone_68 N k45 l1 l3 l4 l6 l7 V = some Vr) : sv_N g qX5_shiftZone 2 68 [(0, .ref 69), (1, .long l1), (3, .ref l3), (4, .int l4), (6, .ref l6), (7, .int l7)] [] V P := by
  unfold B_X5_shiftZone_68 at h
  refine sx_aload (pc := 68) dX5_shiftZone_68 sx_m4 ?_
  obtain ⟨g2, h⟩ := sx_grd h
  obtain ⟨b3, g4, h⟩ := sx_bnd h
  refine sv_getA (pc := 70) hG dX5_shiftZone_70 f_5_220 g2 rfl g4 ?_
  refine sx_iload (pc := 73) dX5_shiftZone_73 sx_m5 ?_
  obtain ⟨n5, g6, h⟩ := sx_bnd h
  obtain ⟨g7, h⟩ := sx_grd h
  refine sv_iald (pc := 75) hG dX5_shiftZone_75 (sv_len_e g6) g7 ?_
  refine sv_tI (fun x8 hx8 => ?_)
  have h := sx_letE hx8 h
  refine sx_istore (pc := 76) (lo' := [(8, .int x8), (0, .ref 69), (1, .long l1), (3, .ref l3), (4, .int l4), (6, .ref l6), (7, .int l7)]) dX5_shiftZone_76 (by decide) rfl ?_
  refine sx_aload_n (pc := 78) dX5_shiftZone_78 sx_m1 ?_
  refine sx_aload (pc := 79) dX5_shiftZone_79 sx_m5 ?_
  refine sx_iload (pc := 81) dX5_shiftZone_81 sx_m6 ?_
  refine sx_lload_n (pc := 83) dX5_shiftZone_83 sx_m2 ?_
  obtain ⟨V9, g10, h⟩ := sx_bnd h
  refine sv_cV (pc := 84) (y := qX5_move) (o := none) (as := [.ref l6, .int l7, .long l1]) (V1 := V9) hG dX5_shiftZone_84 l_X5_461 y0X5_move yvX5_move rfl (Nat.le_of_ble_eq_true rfl) lay_69 kr_5 (by decide) (Nat.le_of_ble_eq_true rfl) rfl rfl rfl (t_X5_move hG ⟨rfl, rfl⟩ g10) ?_
  refine sx_aload (pc := 87) dX5_shiftZone_87 sx_m5 ?_
  refine sv_getA (pc := 89) hG dX5_shiftZone_89 f_5_220 g2 rfl g4 ?_
  refine sx_iload (pc := 92) dX5_shiftZone_92 sx_m6 ?_
  refine sx_iload (pc := 94) dX5_shiftZone_94 sx_m0 ?_
  obtain ⟨g11, h⟩ := sx_grd h
  obtain ⟨V12, hV12⟩ : ∃ z : sv_V, z = sv_I V9 b3 l7.toNatClampNeg x8 := ⟨_, rfl⟩
  have h := sx_letE hV12 h
  refine sv_iast (pc := 96) hG dX5_shiftZone_96 (sv_len_e g6) g11 hV12 ?_
  refine sx_wk (sx_s1 sx_m1 (sx_s1 sx_m2 (sx_s1 sx_m3 (sx_s1 sx_m4 (sx_s1 sx_m5 (sx_s1 sx_m6 sx_s0)))))) ?_
  exact tB_X5_shiftZone_97 hG hP hk45 h
def B_X5_shiftZone_45 (N : Nat) (k45 : Int64 → Nat → Int32 → Nat → Int32 → sv_V → Option sv_V) (l1 : Int64) (l3 : Nat) (l4 : Int32) (l6 : Nat) (l7 : Int32) (V : sv_V) : Option sv_V := if lay l6 = .inl 8 then if (V.1 l6 9) ≤ l7 then (some V) else (if lay l3 = .inl 8 then if l6 = l3 then (if l7 = l4 then (B_X5_shiftZone_97 N k45 l1 l3 l4 l6 l7 V) else (B_X5_shiftZone_68 N k45 l1 l3 l4 l6 l7 V)) else (B_X5_shiftZone_68 N k45 l1 l3 l4 l6 l7 V) else none) else none
set_option maxRecDepth 20000 in
theorem tB_X5_shiftZone_45 {g : sx_G} (hG : sx_Go g) {P : Option Value → sv_V → Prop} {Vr : sv_V} (hP : P none Vr) {N : Nat} {k45 : Int64 → Nat → Int32 → Nat → Int32 → sv_V → Option sv_V} (hk45 : ∀ (l1 : Int64) (l3 : Nat) (l4 : Int32) (l6 : Nat) (l7 : Int32) (V : sv_V), k45 l1 l3 l4 l6 l7 V = some Vr → sv_N g qX5_shiftZone 2 45 [(0, .ref 69), (1, .long l1), (3, .ref l3), (4, .int l4), (6, .ref l6), (7, .int l7)] [] V P) {l1 : Int64} {l3 : Nat} {l4 : Int32} {l6 : Nat} {l7 : Int32} {V : sv_V} (h : B_X5_shiftZone_45 N k45 l1 l3 l4 l6 l7 V = some Vr) : sv_N g qX5_shiftZone 2 45 [(0, .ref 69), (1, .long l1), (3, .ref l3), (4, .int l4), (6, .ref l6), (7, .int l7)] [] V P := by
  unfold B_X5_shiftZone_45 at h
  refine sx_iload (pc := 45) dX5_shiftZone_45 sx_m5 ?_
  refine sx_aload (pc := 47) dX5_shiftZone_47 sx_m4 ?_
  obtain ⟨g13, h⟩ := sx_grd h
  refine sv_getI (pc := 49) hG dX5_shiftZone_49 f_5_474 g13 rfl ?_
  refine sx_icmp_ge (pc := 52) (tgt := 103) dX5_shiftZone_52 (by decide) (fun c14 => ?_) (fun c14 => ?_)
  · have h := sx_pos c14 h
    exact sv_vret (pc := 103) dX5_shiftZone_103 rfl h hP
  · have h := sx_neg c14 h
    refine sx_aload (pc := 55) dX5_shiftZone_55 sx_m4 ?_
    refine sx_aload_n (pc := 57) dX5_shiftZone_57 sx_m2 ?_
    obtain ⟨g15, h⟩ := sx_grd h
    refine sv_acmp (pc := 58) (tgt := 68) dX5_shiftZone_58 (by decide) g13 g15 (fun c16 => ?_) (fun c16 => ?_)
    · have h := sx_neg c16 h
      refine sx_wk (sx_s1 sx_m0 (sx_s1 sx_m1 (sx_s1 sx_m2 (sx_s1 sx_m3 (sx_s1 sx_m4 (sx_s1 sx_m5 sx_s0)))))) ?_
      exact tB_X5_shiftZone_68 hG hP hk45 h
    · have h := sx_pos c16 h
      refine sx_iload (pc := 61) dX5_shiftZone_61 sx_m5 ?_
      refine sx_iload (pc := 63) dX5_shiftZone_63 sx_m3 ?_
      refine sx_icmp_eq (pc := 65) (tgt := 97) dX5_shiftZone_65 (by decide) (fun c17 => ?_) (fun c17 => ?_)
      · have h := sx_pos c17 h
        refine sx_wk (sx_s1 sx_m0 (sx_s1 sx_m1 (sx_s1 sx_m2 (sx_s1 sx_m3 (sx_s1 sx_m4 (sx_s1 sx_m5 sx_s0)))))) ?_
        exact tB_X5_shiftZone_97 hG hP hk45 h
      · have h := sx_neg c17 h
        refine sx_wk (sx_s1 sx_m0 (sx_s1 sx_m1 (sx_s1 sx_m2 (sx_s1 sx_m3 (sx_s1 sx_m4 (sx_s1 sx_m5 sx_s0)))))) ?_
        exact tB_X5_shiftZone_68 hG hP hk45 h
theorem tL_X5_shiftZone_45 {g : sx_G} (hG : sx_Go g) {P : Option Value → sv_V → Prop} {Vr : sv_V} (hP : P none Vr) {N : Nat}   : ∀ (n : Nat) (l1 : Int64) (l3 : Nat) (l4 : Int32) (l6 : Nat) (l7 : Int32) (V : sv_V), sx_lp6 (B_X5_shiftZone_45 N ) n l1 l3 l4 l6 l7 V = some Vr → sv_N g qX5_shiftZone 2 45 [(0, .ref 69), (1, .long l1), (3, .ref l3), (4, .int l4), (6, .ref l6), (7, .int l7)] [] V P :=
  sx_lp6_ind (fun k0 ih _ _ _ _ _ V h => tB_X5_shiftZone_45 hG hP ih h)
def B_X5_shiftZone_40 (N : Nat)  (l1 : Int64) (l3 : Nat) (l4 : Int32) (s0 : Nat) (V : sv_V) : Option sv_V := sx_lp6 (B_X5_shiftZone_45 N ) N l1 l3 l4 s0 (0 : Int32) V
set_option maxRecDepth 20000 in
theorem tB_X5_shiftZone_40 {g : sx_G} (hG : sx_Go g) {P : Option Value → sv_V → Prop} {Vr : sv_V} (hP : P none Vr) {N : Nat}   {l1 : Int64} {l3 : Nat} {l4 : Int32} {s0 : Nat} {V : sv_V} (h : B_X5_shiftZone_40 N  l1 l3 l4 s0 V = some Vr) : sv_N g qX5_shiftZone 2 40 [(0, .ref 69), (1, .long l1), (3, .ref l3), (4, .int l4)] [.ref s0] V P := by
  unfold B_X5_shiftZone_40 at h
  refine sx_astore (pc := 40) (lo' := [(6, .ref s0), (0, .ref 69), (1, .long l1), (3, .ref l3), (4, .int l4)]) dX5_shiftZone_40 (by decide) rfl ?_
  refine sx_iconst (pc := 42) (v := 0) dX5_shiftZone_42 (by decide) ?_
  refine sx_istore (pc := 43) (lo' := [(7, .int (0 : Int32)), (6, .ref s0), (0, .ref 69), (1, .long l1), (3, .ref l3), (4, .int l4)]) dX5_shiftZone_43 (by decide) rfl ?_
  refine sx_wk (sx_s1 sx_m2 (sx_s1 sx_m3 (sx_s1 sx_m4 (sx_s1 sx_m5 (sx_s1 sx_m1 (sx_s1 sx_m0 sx_s0)))))) ?_
  exact tL_X5_shiftZone_45 hG hP  N _ _ _ _ _ _ h
def F_X5_shiftZone (N : Nat) (l1 : Int64) (l3 : Nat) (l4 : Int32) (V : sv_V) : Option sv_V := (F_X5_pop  V).bind (fun (x20, V18) => (F_X5_isZone x20 V18).bind (fun (x23, V21) => if x23 = 0 then (sx_let (sv_I V21 69 14 (5 : Int32)) (fun V33 => some V33)) else (if x20 = 0 then ((V21.2.2 69 6).bind (fun b28 => if lay b28 = .inl 7 then (cr b28 4).bind (fun b31 => B_X5_shiftZone_40 N  l1 l3 l4 b31 V21) else none)) else ((V21.2.2 69 7).bind (fun b26 => B_X5_shiftZone_40 N  l1 l3 l4 b26 V21)))))
set_option maxRecDepth 20000 in
theorem t_X5_shiftZone {g : sx_G} (hG : sx_Go g) {P : Option Value → sv_V → Prop} {Vr : sv_V} (hP : P none Vr) {N : Nat} {l1 : Int64} {l3 : Nat} {l4 : Int32} {V : sv_V} (h : F_X5_shiftZone N l1 l3 l4 V = some Vr) : sv_N g qX5_shiftZone 2 0 [(0, .ref 69), (1, .long l1), (3, .ref l3), (4, .int l4)] [] V P := by
  unfold F_X5_shiftZone at h
  refine sx_aload_n (pc := 0) dX5_shiftZone_0 sx_m0 ?_
  obtain ⟨⟨x20, V18⟩, g19, h⟩ := sx_bnd h
  refine sv_cV (pc := 1) (y := qX5_pop) (o := (some (.int x20))) (as := []) (V1 := V18) hG dX5_shiftZone_1 l_X5_242 y0X5_pop yvX5_pop rfl (Nat.le_of_ble_eq_true rfl) lay_69 kr_5 (by decide) (Nat.le_of_ble_eq_true rfl) rfl rfl rfl (t_X5_pop hG ⟨rfl, rfl⟩ g19) ?_
  refine sx_istore (pc := 4) (lo' := [(5, .int x20), (0, .ref 69), (1, .long l1), (3, .ref l3), (4, .int l4)]) dX5_shiftZone_4 (by decide) rfl ?_
  refine sx_aload_n (pc := 6) dX5_shiftZone_6 sx_m1 ?_
  refine sx_iload (pc := 7) dX5_shiftZone_7 sx_m0 ?_
  obtain ⟨⟨x23, V21⟩, g22, h⟩ := sx_bnd h
  refine sv_cV (pc := 9) (y := qX5_isZone) (o := (some (.int x23))) (as := [.int x20]) (V1 := V21) hG dX5_shiftZone_9 l_X5_298 y0X5_isZone yvX5_isZone rfl (Nat.le_of_ble_eq_true rfl) lay_69 kr_5 (by decide) (Nat.le_of_ble_eq_true rfl) rfl rfl rfl (t_X5_isZone hG ⟨rfl, rfl⟩ g22) ?_
  refine sx_if_ne (pc := 12) (tgt := 21) dX5_shiftZone_12 (by decide) (fun c24 => ?_) (fun c24 => ?_)
  · have h := sx_neg c24 h
    refine sx_iload (pc := 21) dX5_shiftZone_21 sx_m0 ?_
    refine sx_if_ne (pc := 23) (tgt := 36) dX5_shiftZone_23 (by decide) (fun c25 => ?_) (fun c25 => ?_)
    · have h := sx_neg c25 h
      refine sx_aload_n (pc := 36) dX5_shiftZone_36 sx_m1 ?_
      obtain ⟨b26, g27, h⟩ := sx_bnd h
      refine sv_getV (pc := 37) hG dX5_shiftZone_37 f_5_38 lay_69 rfl rfl g27 ?_
      refine sx_wk (sx_s1 sx_m1 (sx_s1 sx_m2 (sx_s1 sx_m3 (sx_s1 sx_m4 sx_s0)))) ?_
      exact tB_X5_shiftZone_40 hG hP  h
    · have h := sx_pos c25 h
      refine sx_aload_n (pc := 26) dX5_shiftZone_26 sx_m1 ?_
      obtain ⟨b28, g29, h⟩ := sx_bnd h
      refine sv_getV (pc := 27) hG dX5_shiftZone_27 f_5_49 lay_69 rfl rfl g29 ?_
      obtain ⟨g30, h⟩ := sx_grd h
      obtain ⟨b31, g32, h⟩ := sx_bnd h
      refine sv_getO (pc := 30) hG dX5_shiftZone_30 f_5_175 g30 rfl g32 ?_
      refine sx_goto (pc := 33) (tgt := 40) dX5_shiftZone_33 (by decide) ?_
      refine sx_wk (sx_s1 sx_m1 (sx_s1 sx_m2 (sx_s1 sx_m3 (sx_s1 sx_m4 sx_s0)))) ?_
      exact tB_X5_shiftZone_40 hG hP  h
  · have h := sx_pos c24 h
    refine sx_aload_n (pc := 15) dX5_shiftZone_15 sx_m1 ?_
    refine sx_iconst (pc := 16) (v := 5) dX5_shiftZone_16 (by decide) ?_
    obtain ⟨V33, hV33⟩ : ∃ z : sv_V, z = sv_I V21 69 14 (5 : Int32) := ⟨_, rfl⟩
    have h := sx_letE hV33 h
    refine sv_putI (pc := 17) hG dX5_shiftZone_17 f_5_56 lay_69 rfl hV33 ?_
    exact sv_vret (pc := 20) dX5_shiftZone_20 rfl h hP
def ncX5_shiftByPixels : Nat := 487268568713901790692903035398502150500847351582849719840810509625211032282747311349171705938905105729471203197880748598874782347573569280167984736688463959050618641728684050727938112380941091912431344534733594606765937234478572215013270950713896363145092223663297264286080137531383219218916161529537672746
theorem kcX5_shiftByPixels : CK cX5_shiftByPixels ncX5_shiftByPixels 127 := ⟨by decide +kernel, by decide +kernel⟩
theorem dX5_shiftByPixels_0 : decode cX5_shiftByPixels 0 = .ok (.aload_n 0, 1) := dl_o42 kcX5_shiftByPixels (by decide +kernel)
theorem dX5_shiftByPixels_1 : decode cX5_shiftByPixels 1 = .ok (.invokevirtual 242, 3) := dl_o182 kcX5_shiftByPixels (by decide +kernel)
theorem dX5_shiftByPixels_4 : decode cX5_shiftByPixels 4 = .ok (.i2l, 1) := dl_o133 kcX5_shiftByPixels (by decide +kernel)
theorem dX5_shiftByPixels_5 : decode cX5_shiftByPixels 5 = .ok (.lstore_n 1, 1) := dl_o64 kcX5_shiftByPixels (by decide +kernel)
theorem dX5_shiftByPixels_6 : decode cX5_shiftByPixels 6 = .ok (.aload_n 0, 1) := dl_o42 kcX5_shiftByPixels (by decide +kernel)
theorem dX5_shiftByPixels_7 : decode cX5_shiftByPixels 7 = .ok (.iconst 2, 1) := dl_o5 kcX5_shiftByPixels (by decide +kernel)
theorem dX5_shiftByPixels_8 : decode cX5_shiftByPixels 8 = .ok (.invokevirtual 255, 3) := dl_o182 kcX5_shiftByPixels (by decide +kernel)
theorem dX5_shiftByPixels_11 : decode cX5_shiftByPixels 11 = .ok (.astore_n 3, 1) := dl_o78 kcX5_shiftByPixels (by decide +kernel)
theorem dX5_shiftByPixels_12 : decode cX5_shiftByPixels 12 = .ok (.iconst 0, 1) := dl_o3 kcX5_shiftByPixels (by decide +kernel)
theorem dX5_shiftByPixels_13 : decode cX5_shiftByPixels 13 = .ok (.istore 4, 2) := dl_o54 kcX5_shiftByPixels (by decide +kernel)
theorem dX5_shiftByPixels_15 : decode cX5_shiftByPixels 15 = .ok (.iload 4, 2) := dl_o21 kcX5_shiftByPixels (by decide +kernel)
theorem dX5_shiftByPixels_17 : decode cX5_shiftByPixels 17 = .ok (.aload_n 0, 1) := dl_o42 kcX5_shiftByPixels (by decide +kernel)
theorem dX5_shiftByPixels_18 : decode cX5_shiftByPixels 18 = .ok (.getfield 12, 3) := dl_o180 kcX5_shiftByPixels (by decide +kernel)
theorem dX5_shiftByPixels_21 : decode cX5_shiftByPixels 21 = .ok (.getfield 163, 3) := dl_o180 kcX5_shiftByPixels (by decide +kernel)
theorem dX5_shiftByPixels_24 : decode cX5_shiftByPixels 24 = .ok (.if_icmp .ge 94, 3) := dl_o162 kcX5_shiftByPixels 94 (by decide +kernel) (by decide +kernel)
theorem dX5_shiftByPixels_27 : decode cX5_shiftByPixels 27 = .ok (.aload_n 0, 1) := dl_o42 kcX5_shiftByPixels (by decide +kernel)
theorem dX5_shiftByPixels_28 : decode cX5_shiftByPixels 28 = .ok (.invokevirtual 242, 3) := dl_o182 kcX5_shiftByPixels (by decide +kernel)
theorem dX5_shiftByPixels_31 : decode cX5_shiftByPixels 31 = .ok (.istore 5, 2) := dl_o54 kcX5_shiftByPixels (by decide +kernel)
theorem dX5_shiftByPixels_33 : decode cX5_shiftByPixels 33 = .ok (.aload_n 0, 1) := dl_o42 kcX5_shiftByPixels (by decide +kernel)
theorem dX5_shiftByPixels_34 : decode cX5_shiftByPixels 34 = .ok (.aload_n 3, 1) := dl_o45 kcX5_shiftByPixels (by decide +kernel)
theorem dX5_shiftByPixels_35 : decode cX5_shiftByPixels 35 = .ok (.iload 5, 2) := dl_o21 kcX5_shiftByPixels (by decide +kernel)
theorem dX5_shiftByPixels_37 : decode cX5_shiftByPixels 37 = .ok (.invokevirtual 259, 3) := dl_o182 kcX5_shiftByPixels (by decide +kernel)
theorem dX5_shiftByPixels_40 : decode cX5_shiftByPixels 40 = .ok (.ifCond .ne 4, 3) := dl_o154 kcX5_shiftByPixels 4 (by decide +kernel) (by decide +kernel)
theorem dX5_shiftByPixels_43 : decode cX5_shiftByPixels 43 = .ok (.return_, 1) := dl_o177 kcX5_shiftByPixels (by decide +kernel)
theorem dX5_shiftByPixels_44 : decode cX5_shiftByPixels 44 = .ok (.aload_n 3, 1) := dl_o45 kcX5_shiftByPixels (by decide +kernel)
theorem dX5_shiftByPixels_45 : decode cX5_shiftByPixels 45 = .ok (.getfield 198, 3) := dl_o180 kcX5_shiftByPixels (by decide +kernel)
theorem dX5_shiftByPixels_48 : decode cX5_shiftByPixels 48 = .ok (.iload 5, 2) := dl_o21 kcX5_shiftByPixels (by decide +kernel)
theorem dX5_shiftByPixels_50 : decode cX5_shiftByPixels 50 = .ok (.dup2, 1) := dl_o92 kcX5_shiftByPixels (by decide +kernel)
theorem dX5_shiftByPixels_51 : decode cX5_shiftByPixels 51 = .ok (.iaload, 1) := dl_o46 kcX5_shiftByPixels (by decide +kernel)
theorem dX5_shiftByPixels_52 : decode cX5_shiftByPixels 52 = .ok (.lload_n 1, 1) := dl_o31 kcX5_shiftByPixels (by decide +kernel)
theorem dX5_shiftByPixels_53 : decode cX5_shiftByPixels 53 = .ok (.aload_n 0, 1) := dl_o42 kcX5_shiftByPixels (by decide +kernel)
theorem dX5_shiftByPixels_54 : decode cX5_shiftByPixels 54 = .ok (.getfield 12, 3) := dl_o180 kcX5_shiftByPixels (by decide +kernel)
theorem dX5_shiftByPixels_57 : decode cX5_shiftByPixels 57 = .ok (.getfield 210, 3) := dl_o180 kcX5_shiftByPixels (by decide +kernel)
theorem dX5_shiftByPixels_60 : decode cX5_shiftByPixels 60 = .ok (.i2l, 1) := dl_o133 kcX5_shiftByPixels (by decide +kernel)
theorem dX5_shiftByPixels_61 : decode cX5_shiftByPixels 61 = .ok (.lmul, 1) := dl_o105 kcX5_shiftByPixels (by decide +kernel)
theorem dX5_shiftByPixels_62 : decode cX5_shiftByPixels 62 = .ok (.ldc2_w 190, 3) := dl_o20 kcX5_shiftByPixels (by decide +kernel)
theorem dX5_shiftByPixels_65 : decode cX5_shiftByPixels 65 = .ok (.invokestatic 75, 3) := dl_o184 kcX5_shiftByPixels (by decide +kernel)
theorem dX5_shiftByPixels_68 : decode cX5_shiftByPixels 68 = .ok (.l2i, 1) := dl_o136 kcX5_shiftByPixels (by decide +kernel)
theorem dX5_shiftByPixels_69 : decode cX5_shiftByPixels 69 = .ok (.iadd, 1) := dl_o96 kcX5_shiftByPixels (by decide +kernel)
theorem dX5_shiftByPixels_70 : decode cX5_shiftByPixels 70 = .ok (.iastore, 1) := dl_o79 kcX5_shiftByPixels (by decide +kernel)
theorem dX5_shiftByPixels_71 : decode cX5_shiftByPixels 71 = .ok (.aload_n 3, 1) := dl_o45 kcX5_shiftByPixels (by decide +kernel)
theorem dX5_shiftByPixels_72 : decode cX5_shiftByPixels 72 = .ok (.getfield 201, 3) := dl_o180 kcX5_shiftByPixels (by decide +kernel)
theorem dX5_shiftByPixels_75 : decode cX5_shiftByPixels 75 = .ok (.iload 5, 2) := dl_o21 kcX5_shiftByPixels (by decide +kernel)
theorem dX5_shiftByPixels_77 : decode cX5_shiftByPixels 77 = .ok (.dup2, 1) := dl_o92 kcX5_shiftByPixels (by decide +kernel)
theorem dX5_shiftByPixels_78 : decode cX5_shiftByPixels 78 = .ok (.iaload, 1) := dl_o46 kcX5_shiftByPixels (by decide +kernel)
theorem dX5_shiftByPixels_79 : decode cX5_shiftByPixels 79 = .ok (.lload_n 1, 1) := dl_o31 kcX5_shiftByPixels (by decide +kernel)
theorem dX5_shiftByPixels_80 : decode cX5_shiftByPixels 80 = .ok (.aload_n 0, 1) := dl_o42 kcX5_shiftByPixels (by decide +kernel)
theorem dX5_shiftByPixels_81 : decode cX5_shiftByPixels 81 = .ok (.getfield 12, 3) := dl_o180 kcX5_shiftByPixels (by decide +kernel)
theorem dX5_shiftByPixels_84 : decode cX5_shiftByPixels 84 = .ok (.getfield 213, 3) := dl_o180 kcX5_shiftByPixels (by decide +kernel)
theorem dX5_shiftByPixels_87 : decode cX5_shiftByPixels 87 = .ok (.i2l, 1) := dl_o133 kcX5_shiftByPixels (by decide +kernel)
theorem dX5_shiftByPixels_88 : decode cX5_shiftByPixels 88 = .ok (.lmul, 1) := dl_o105 kcX5_shiftByPixels (by decide +kernel)
theorem dX5_shiftByPixels_89 : decode cX5_shiftByPixels 89 = .ok (.ldc2_w 190, 3) := dl_o20 kcX5_shiftByPixels (by decide +kernel)
theorem dX5_shiftByPixels_92 : decode cX5_shiftByPixels 92 = .ok (.invokestatic 75, 3) := dl_o184 kcX5_shiftByPixels (by decide +kernel)
theorem dX5_shiftByPixels_95 : decode cX5_shiftByPixels 95 = .ok (.l2i, 1) := dl_o136 kcX5_shiftByPixels (by decide +kernel)
theorem dX5_shiftByPixels_96 : decode cX5_shiftByPixels 96 = .ok (.iadd, 1) := dl_o96 kcX5_shiftByPixels (by decide +kernel)
theorem dX5_shiftByPixels_97 : decode cX5_shiftByPixels 97 = .ok (.iastore, 1) := dl_o79 kcX5_shiftByPixels (by decide +kernel)
theorem dX5_shiftByPixels_98 : decode cX5_shiftByPixels 98 = .ok (.aload_n 3, 1) := dl_o45 kcX5_shiftByPixels (by decide +kernel)
theorem dX5_shiftByPixels_99 : decode cX5_shiftByPixels 99 = .ok (.getfield 220, 3) := dl_o180 kcX5_shiftByPixels (by decide +kernel)
theorem dX5_shiftByPixels_102 : decode cX5_shiftByPixels 102 = .ok (.iload 5, 2) := dl_o21 kcX5_shiftByPixels (by decide +kernel)
theorem dX5_shiftByPixels_104 : decode cX5_shiftByPixels 104 = .ok (.dup2, 1) := dl_o92 kcX5_shiftByPixels (by decide +kernel)
theorem dX5_shiftByPixels_105 : decode cX5_shiftByPixels 105 = .ok (.iaload, 1) := dl_o46 kcX5_shiftByPixels (by decide +kernel)
theorem dX5_shiftByPixels_106 : decode cX5_shiftByPixels 106 = .ok (.aload_n 0, 1) := dl_o42 kcX5_shiftByPixels (by decide +kernel)
theorem dX5_shiftByPixels_107 : decode cX5_shiftByPixels 107 = .ok (.invokevirtual 223, 3) := dl_o182 kcX5_shiftByPixels (by decide +kernel)
theorem dX5_shiftByPixels_110 : decode cX5_shiftByPixels 110 = .ok (.ior, 1) := dl_o128 kcX5_shiftByPixels (by decide +kernel)
theorem dX5_shiftByPixels_111 : decode cX5_shiftByPixels 111 = .ok (.iastore, 1) := dl_o79 kcX5_shiftByPixels (by decide +kernel)
theorem dX5_shiftByPixels_112 : decode cX5_shiftByPixels 112 = .ok (.iinc 4 1, 3) := by decide +kernel
theorem dX5_shiftByPixels_115 : decode cX5_shiftByPixels 115 = .ok (.goto (-100), 3) := dl_o167 kcX5_shiftByPixels 65436 (by decide +kernel) (by decide +kernel)
theorem dX5_shiftByPixels_118 : decode cX5_shiftByPixels 118 = .ok (.aload_n 0, 1) := dl_o42 kcX5_shiftByPixels (by decide +kernel)
theorem dX5_shiftByPixels_119 : decode cX5_shiftByPixels 119 = .ok (.getfield 12, 3) := dl_o180 kcX5_shiftByPixels (by decide +kernel)
theorem dX5_shiftByPixels_122 : decode cX5_shiftByPixels 122 = .ok (.iconst 1, 1) := dl_o4 kcX5_shiftByPixels (by decide +kernel)
theorem dX5_shiftByPixels_123 : decode cX5_shiftByPixels 123 = .ok (.putfield 163, 3) := dl_o181 kcX5_shiftByPixels (by decide +kernel)
theorem dX5_shiftByPixels_126 : decode cX5_shiftByPixels 126 = .ok (.return_, 1) := dl_o177 kcX5_shiftByPixels (by decide +kernel)
def B_X5_shiftByPixels_15 (N : Nat) (k15 : Int64 → Nat → Int32 → sv_V → Option sv_V) (l1 : Int64) (l3 : Nat) (l4 : Int32) (V : sv_V) : Option sv_V := if (V.1 70 8) ≤ l4 then (sx_let (sv_I V 70 8 (1 : Int32)) (fun V2 => some V2)) else ((F_X5_pop  V).bind (fun (x5, V3) => (F_X5_isThere l3 x5 V3).bind (fun (x8, V6) => if x8 = 0 then (some V6) else (if lay l3 = .inl 8 then (cr l3 0).bind (fun b11 => (sv_len 0 b11).bind (fun n13 => if sx_in x5 n13 = true then (F_X11_nearest (l1 * ((V6.1 70 0).toInt64)) (16384 : Int64) V6).bind (fun (x18, V16) => if sx_in x5 n13 = true then sx_let (sv_I V16 b11 x5.toNatClampNeg ((V6.1 b11 x5.toNatClampNeg) + x18.toInt32)) (fun V20 => (cr l3 1).bind (fun b21 => (sv_len 0 b21).bind (fun n23 => if sx_in x5 n23 = true then (F_X11_nearest (l1 * ((V20.1 70 1).toInt64)) (16384 : Int64) V20).bind (fun (x28, V26) => if sx_in x5 n23 = true then sx_let (sv_I V26 b21 x5.toNatClampNeg ((V20.1 b21 x5.toNatClampNeg) + x28.toInt32)) (fun V30 => (cr l3 4).bind (fun b31 => (sv_len 0 b31).bind (fun n33 => if sx_in x5 n33 = true then (F_X5_touchBits  V30).bind (fun (x38, V36) => if sx_in x5 n33 = true then sx_let (sv_I V36 b31 x5.toNatClampNeg ((V30.1 b31 x5.toNatClampNeg) ||| x38)) (fun V40 => sx_let (l4 + 1) (fun x41 => k15 l1 l3 x41 V40)) else none) else none))) else none) else none))) else none) else none)) else none))))
set_option maxRecDepth 20000 in
theorem tB_X5_shiftByPixels_15 {g : sx_G} (hG : sx_Go g) {P : Option Value → sv_V → Prop} {Vr : sv_V} (hP : P none Vr) {N : Nat} {k15 : Int64 → Nat → Int32 → sv_V → Option sv_V} (hk15 : ∀ (l1 : Int64) (l3 : Nat) (l4 : Int32) (V : sv_V), k15 l1 l3 l4 V = some Vr → sv_N g qX5_shiftByPixels 2 15 [(0, .ref 69), (1, .long l1), (3, .ref l3), (4, .int l4)] [] V P) {l1 : Int64} {l3 : Nat} {l4 : Int32} {V : sv_V} (h : B_X5_shiftByPixels_15 N k15 l1 l3 l4 V = some Vr) : sv_N g qX5_shiftByPixels 2 15 [(0, .ref 69), (1, .long l1), (3, .ref l3), (4, .int l4)] [] V P := by
  unfold B_X5_shiftByPixels_15 at h
  refine sx_iload (pc := 15) dX5_shiftByPixels_15 sx_m3 ?_
  refine sx_aload_n (pc := 17) dX5_shiftByPixels_17 sx_m0 ?_
  refine sv_getO (pc := 18) hG dX5_shiftByPixels_18 f_5_12 lay_69 rfl cr_69_1 ?_
  refine sv_getI (pc := 21) hG dX5_shiftByPixels_21 f_5_163 lay_70 rfl ?_
  refine sx_icmp_ge (pc := 24) (tgt := 118) dX5_shiftByPixels_24 (by decide) (fun c1 => ?_) (fun c1 => ?_)
  · have h := sx_pos c1 h
    refine sx_aload_n (pc := 118) dX5_shiftByPixels_118 sx_m0 ?_
    refine sv_getO (pc := 119) hG dX5_shiftByPixels_119 f_5_12 lay_69 rfl cr_69_1 ?_
    refine sx_iconst (pc := 122) (v := 1) dX5_shiftByPixels_122 (by decide) ?_
    obtain ⟨V2, hV2⟩ : ∃ z : sv_V, z = sv_I V 70 8 (1 : Int32) := ⟨_, rfl⟩
    have h := sx_letE hV2 h
    refine sv_putI (pc := 123) hG dX5_shiftByPixels_123 f_5_163 lay_70 rfl hV2 ?_
    exact sv_vret (pc := 126) dX5_shiftByPixels_126 rfl h hP
  · have h := sx_neg c1 h
    refine sx_aload_n (pc := 27) dX5_shiftByPixels_27 sx_m0 ?_
    obtain ⟨⟨x5, V3⟩, g4, h⟩ := sx_bnd h
    refine sv_cV (pc := 28) (y := qX5_pop) (o := (some (.int x5))) (as := []) (V1 := V3) hG dX5_shiftByPixels_28 l_X5_242 y0X5_pop yvX5_pop rfl (Nat.le_of_ble_eq_true rfl) lay_69 kr_5 (by decide) (Nat.le_of_ble_eq_true rfl) rfl rfl rfl (t_X5_pop hG ⟨rfl, rfl⟩ g4) ?_
    refine sx_istore (pc := 31) (lo' := [(5, .int x5), (0, .ref 69), (1, .long l1), (3, .ref l3), (4, .int l4)]) dX5_shiftByPixels_31 (by decide) rfl ?_
    refine sx_aload_n (pc := 33) dX5_shiftByPixels_33 sx_m1 ?_
    refine sx_aload_n (pc := 34) dX5_shiftByPixels_34 sx_m3 ?_
    refine sx_iload (pc := 35) dX5_shiftByPixels_35 sx_m0 ?_
    obtain ⟨⟨x8, V6⟩, g7, h⟩ := sx_bnd h
    refine sv_cV (pc := 37) (y := qX5_isThere) (o := (some (.int x8))) (as := [.ref l3, .int x5]) (V1 := V6) hG dX5_shiftByPixels_37 l_X5_259 y0X5_isThere yvX5_isThere rfl (Nat.le_of_ble_eq_true rfl) lay_69 kr_5 (by decide) (Nat.le_of_ble_eq_true rfl) rfl rfl rfl (t_X5_isThere hG ⟨rfl, rfl⟩ g7) ?_
    refine sx_if_ne (pc := 40) (tgt := 44) dX5_shiftByPixels_40 (by decide) (fun c9 => ?_) (fun c9 => ?_)
    · have h := sx_neg c9 h
      refine sx_aload_n (pc := 44) dX5_shiftByPixels_44 sx_m3 ?_
      obtain ⟨g10, h⟩ := sx_grd h
      obtain ⟨b11, g12, h⟩ := sx_bnd h
      refine sv_getA (pc := 45) hG dX5_shiftByPixels_45 f_5_198 g10 rfl g12 ?_
      refine sx_iload (pc := 48) dX5_shiftByPixels_48 sx_m0 ?_
      refine sx_dup2 (pc := 50) dX5_shiftByPixels_50 rfl rfl ?_
      obtain ⟨n13, g14, h⟩ := sx_bnd h
      obtain ⟨g15, h⟩ := sx_grd h
      refine sv_iald (pc := 51) hG dX5_shiftByPixels_51 (sv_len_e g14) g15 ?_
      refine sx_lload_n (pc := 52) dX5_shiftByPixels_52 sx_m2 ?_
      refine sx_aload_n (pc := 53) dX5_shiftByPixels_53 sx_m1 ?_
      refine sv_getO (pc := 54) hG dX5_shiftByPixels_54 f_5_12 lay_69 rfl cr_69_1 ?_
      refine sv_getI (pc := 57) hG dX5_shiftByPixels_57 f_5_210 lay_70 rfl ?_
      refine sx_i2l (pc := 60) dX5_shiftByPixels_60 ?_
      refine sx_lmul (pc := 61) dX5_shiftByPixels_61 ?_
      refine sx_ldc2 (pc := 62) dX5_shiftByPixels_62 k_X5_190 ?_
      obtain ⟨⟨x18, V16⟩, g17, h⟩ := sx_bnd h
      refine sv_cN (pc := 65) (y := qX11_nearest) (o := (some (.long x18))) (as := [.long (l1 * ((V6.1 70 0).toInt64)), .long (16384 : Int64)]) (V1 := V16) dX5_shiftByPixels_65 n_X5_75 y0X11_nearest ysX11_nearest rfl (Nat.le_of_ble_eq_true rfl) (by decide) (Nat.le_of_ble_eq_true rfl) rfl rfl rfl (t_X11_nearest hG ⟨rfl, rfl⟩ g17) ?_
      refine sx_l2i (pc := 68) dX5_shiftByPixels_68 ?_
      refine sx_iadd (pc := 69) dX5_shiftByPixels_69 ?_
      obtain ⟨g19, h⟩ := sx_grd h
      obtain ⟨V20, hV20⟩ : ∃ z : sv_V, z = sv_I V16 b11 x5.toNatClampNeg ((V6.1 b11 x5.toNatClampNeg) + x18.toInt32) := ⟨_, rfl⟩
      have h := sx_letE hV20 h
      refine sv_iast (pc := 70) hG dX5_shiftByPixels_70 (sv_len_e g14) g19 hV20 ?_
      refine sx_aload_n (pc := 71) dX5_shiftByPixels_71 sx_m3 ?_
      obtain ⟨b21, g22, h⟩ := sx_bnd h
      refine sv_getA (pc := 72) hG dX5_shiftByPixels_72 f_5_201 g10 rfl g22 ?_
      refine sx_iload (pc := 75) dX5_shiftByPixels_75 sx_m0 ?_
      refine sx_dup2 (pc := 77) dX5_shiftByPixels_77 rfl rfl ?_
      obtain ⟨n23, g24, h⟩ := sx_bnd h
      obtain ⟨g25, h⟩ := sx_grd h
      refine sv_iald (pc := 78) hG dX5_shiftByPixels_78 (sv_len_e g24) g25 ?_
      refine sx_lload_n (pc := 79) dX5_shiftByPixels_79 sx_m2 ?_
      refine sx_aload_n (pc := 80) dX5_shiftByPixels_80 sx_m1 ?_
      refine sv_getO (pc := 81) hG dX5_shiftByPixels_81 f_5_12 lay_69 rfl cr_69_1 ?_
      refine sv_getI (pc := 84) hG dX5_shiftByPixels_84 f_5_213 lay_70 rfl ?_
      refine sx_i2l (pc := 87) dX5_shiftByPixels_87 ?_
      refine sx_lmul (pc := 88) dX5_shiftByPixels_88 ?_
      refine sx_ldc2 (pc := 89) dX5_shiftByPixels_89 k_X5_190 ?_
      obtain ⟨⟨x28, V26⟩, g27, h⟩ := sx_bnd h
      refine sv_cN (pc := 92) (y := qX11_nearest) (o := (some (.long x28))) (as := [.long (l1 * ((V20.1 70 1).toInt64)), .long (16384 : Int64)]) (V1 := V26) dX5_shiftByPixels_92 n_X5_75 y0X11_nearest ysX11_nearest rfl (Nat.le_of_ble_eq_true rfl) (by decide) (Nat.le_of_ble_eq_true rfl) rfl rfl rfl (t_X11_nearest hG ⟨rfl, rfl⟩ g27) ?_
      refine sx_l2i (pc := 95) dX5_shiftByPixels_95 ?_
      refine sx_iadd (pc := 96) dX5_shiftByPixels_96 ?_
      obtain ⟨g29, h⟩ := sx_grd h
      obtain ⟨V30, hV30⟩ : ∃ z : sv_V, z = sv_I V26 b21 x5.toNatClampNeg ((V20.1 b21 x5.toNatClampNeg) + x28.toInt32) := ⟨_, rfl⟩
      have h := sx_letE hV30 h
      refine sv_iast (pc := 97) hG dX5_shiftByPixels_97 (sv_len_e g24) g29 hV30 ?_
      refine sx_aload_n (pc := 98) dX5_shiftByPixels_98 sx_m3 ?_
      obtain ⟨b31, g32, h⟩ := sx_bnd h
      refine sv_getA (pc := 99) hG dX5_shiftByPixels_99 f_5_220 g10 rfl g32 ?_
      refine sx_iload (pc := 102) dX5_shiftByPixels_102 sx_m0 ?_
      refine sx_dup2 (pc := 104) dX5_shiftByPixels_104 rfl rfl ?_
      obtain ⟨n33, g34, h⟩ := sx_bnd h
      obtain ⟨g35, h⟩ := sx_grd h
      refine sv_iald (pc := 105) hG dX5_shiftByPixels_105 (sv_len_e g34) g35 ?_
      refine sx_aload_n (pc := 106) dX5_shiftByPixels_106 sx_m1 ?_
      obtain ⟨⟨x38, V36⟩, g37, h⟩ := sx_bnd h
      refine sv_cV (pc := 107) (y := qX5_touchBits) (o := (some (.int x38))) (as := []) (V1 := V36) hG dX5_shiftByPixels_107 l_X5_223 y0X5_touchBits yvX5_touchBits rfl (Nat.le_of_ble_eq_true rfl) lay_69 kr_5 (by decide) (Nat.le_of_ble_eq_true rfl) rfl rfl rfl (t_X5_touchBits hG ⟨rfl, rfl⟩ g37) ?_
      refine sx_ior (pc := 110) dX5_shiftByPixels_110 ?_
      obtain ⟨g39, h⟩ := sx_grd h
      obtain ⟨V40, hV40⟩ : ∃ z : sv_V, z = sv_I V36 b31 x5.toNatClampNeg ((V30.1 b31 x5.toNatClampNeg) ||| x38) := ⟨_, rfl⟩
      have h := sx_letE hV40 h
      refine sv_iast (pc := 111) hG dX5_shiftByPixels_111 (sv_len_e g34) g39 hV40 ?_
      obtain ⟨x41, hx41⟩ : ∃ z : Int32, z = l4 + 1 := ⟨_, rfl⟩
      have h := sx_letE hx41 h
      refine sx_iinc (pc := 112) (v := x41) (lo' := [(4, .int x41), (5, .int x5), (0, .ref 69), (1, .long l1), (3, .ref l3)]) dX5_shiftByPixels_112 sx_m4 (by rw [hx41]; rfl) (by decide) rfl ?_
      refine sx_goto (pc := 115) (tgt := 15) dX5_shiftByPixels_115 (by decide) ?_
      refine sx_wk (sx_s1 sx_m2 (sx_s1 sx_m3 (sx_s1 sx_m4 (sx_s1 sx_m0 sx_s0)))) ?_
      exact hk15 _ _ _ _ h
    · have h := sx_pos c9 h
      exact sv_vret (pc := 43) dX5_shiftByPixels_43 rfl h hP
theorem tL_X5_shiftByPixels_15 {g : sx_G} (hG : sx_Go g) {P : Option Value → sv_V → Prop} {Vr : sv_V} (hP : P none Vr) {N : Nat}   : ∀ (n : Nat) (l1 : Int64) (l3 : Nat) (l4 : Int32) (V : sv_V), sx_lp4 (B_X5_shiftByPixels_15 N ) n l1 l3 l4 V = some Vr → sv_N g qX5_shiftByPixels 2 15 [(0, .ref 69), (1, .long l1), (3, .ref l3), (4, .int l4)] [] V P :=
  sx_lp4_ind (fun k0 ih _ _ _ V h => tB_X5_shiftByPixels_15 hG hP ih h)
def F_X5_shiftByPixels (N : Nat)  (V : sv_V) : Option sv_V := (F_X5_pop  V).bind (fun (x44, V42) => sx_let (x44.toInt64) (fun x45 => (F_X5_zone (2 : Int32) V42).bind (fun (x48, V46) => sx_lp4 (B_X5_shiftByPixels_15 N ) N x45 x48 (0 : Int32) V46)))
set_option maxRecDepth 20000 in
theorem t_X5_shiftByPixels {g : sx_G} (hG : sx_Go g) {P : Option Value → sv_V → Prop} {Vr : sv_V} (hP : P none Vr) {N : Nat}  {V : sv_V} (h : F_X5_shiftByPixels N  V = some Vr) : sv_N g qX5_shiftByPixels 2 0 [(0, .ref 69)] [] V P := by
  unfold F_X5_shiftByPixels at h
  refine sx_aload_n (pc := 0) dX5_shiftByPixels_0 sx_m0 ?_
  obtain ⟨⟨x44, V42⟩, g43, h⟩ := sx_bnd h
  refine sv_cV (pc := 1) (y := qX5_pop) (o := (some (.int x44))) (as := []) (V1 := V42) hG dX5_shiftByPixels_1 l_X5_242 y0X5_pop yvX5_pop rfl (Nat.le_of_ble_eq_true rfl) lay_69 kr_5 (by decide) (Nat.le_of_ble_eq_true rfl) rfl rfl rfl (t_X5_pop hG ⟨rfl, rfl⟩ g43) ?_
  refine sx_i2l (pc := 4) dX5_shiftByPixels_4 ?_
  refine sv_tJ (fun x45 hx45 => ?_)
  have h := sx_letE hx45 h
  refine sx_lstore_n (pc := 5) (lo' := [(1, .long x45), (0, .ref 69)]) dX5_shiftByPixels_5 (by decide) rfl ?_
  refine sx_aload_n (pc := 6) dX5_shiftByPixels_6 sx_m1 ?_
  refine sx_iconst (pc := 7) (v := 2) dX5_shiftByPixels_7 (by decide) ?_
  obtain ⟨⟨x48, V46⟩, g47, h⟩ := sx_bnd h
  refine sv_cV (pc := 8) (y := qX5_zone) (o := (some (.ref x48))) (as := [.int (2 : Int32)]) (V1 := V46) hG dX5_shiftByPixels_8 l_X5_255 y0X5_zone yvX5_zone rfl (Nat.le_of_ble_eq_true rfl) lay_69 kr_5 (by decide) (Nat.le_of_ble_eq_true rfl) rfl rfl rfl (t_X5_zone hG ⟨rfl, rfl⟩ g47) ?_
  refine sx_astore_n (pc := 11) (lo' := [(3, .ref x48), (1, .long x45), (0, .ref 69)]) dX5_shiftByPixels_11 (by decide) rfl ?_
  refine sx_iconst (pc := 12) (v := 0) dX5_shiftByPixels_12 (by decide) ?_
  refine sx_istore (pc := 13) (lo' := [(4, .int (0 : Int32)), (3, .ref x48), (1, .long x45), (0, .ref 69)]) dX5_shiftByPixels_13 (by decide) rfl ?_
  refine sx_wk (sx_s1 sx_m3 (sx_s1 sx_m2 (sx_s1 sx_m1 (sx_s1 sx_m0 sx_s0)))) ?_
  exact tL_X5_shiftByPixels_15 hG hP  N _ _ _ _ h
def ncX5_interpolate : Nat := 389409266687275868735492676966065660835506109357103651483975418262111107672464517110421537034558965257593655486829366878541074775863126607873567265881765922866840053932718438083282565682825452008744727933184160369250621957125494198108004638909636979929524112410534371520419426064497991636844018696583236578535949178348326814960961258055401031897721675048639436621831584783592632281028964542498473449263916829376165154197191896568159222524504763151024938
theorem kcX5_interpolate : CK cX5_interpolate ncX5_interpolate 188 := ⟨by decide +kernel, by decide +kernel⟩
theorem dX5_interpolate_0 : decode cX5_interpolate 0 = .ok (.aload_n 0, 1) := dl_o42 kcX5_interpolate (by decide +kernel)
theorem dX5_interpolate_1 : decode cX5_interpolate 1 = .ok (.iconst 0, 1) := dl_o3 kcX5_interpolate (by decide +kernel)
theorem dX5_interpolate_2 : decode cX5_interpolate 2 = .ok (.invokevirtual 255, 3) := dl_o182 kcX5_interpolate (by decide +kernel)
theorem dX5_interpolate_5 : decode cX5_interpolate 5 = .ok (.astore_n 1, 1) := dl_o76 kcX5_interpolate (by decide +kernel)
theorem dX5_interpolate_6 : decode cX5_interpolate 6 = .ok (.aload_n 0, 1) := dl_o42 kcX5_interpolate (by decide +kernel)
theorem dX5_interpolate_7 : decode cX5_interpolate 7 = .ok (.iconst 1, 1) := dl_o4 kcX5_interpolate (by decide +kernel)
theorem dX5_interpolate_8 : decode cX5_interpolate 8 = .ok (.invokevirtual 255, 3) := dl_o182 kcX5_interpolate (by decide +kernel)
theorem dX5_interpolate_11 : decode cX5_interpolate 11 = .ok (.astore_n 2, 1) := dl_o77 kcX5_interpolate (by decide +kernel)
theorem dX5_interpolate_12 : decode cX5_interpolate 12 = .ok (.aload_n 0, 1) := dl_o42 kcX5_interpolate (by decide +kernel)
theorem dX5_interpolate_13 : decode cX5_interpolate 13 = .ok (.iconst 2, 1) := dl_o5 kcX5_interpolate (by decide +kernel)
theorem dX5_interpolate_14 : decode cX5_interpolate 14 = .ok (.invokevirtual 255, 3) := dl_o182 kcX5_interpolate (by decide +kernel)
theorem dX5_interpolate_17 : decode cX5_interpolate 17 = .ok (.astore_n 3, 1) := dl_o78 kcX5_interpolate (by decide +kernel)
theorem dX5_interpolate_18 : decode cX5_interpolate 18 = .ok (.aload_n 0, 1) := dl_o42 kcX5_interpolate (by decide +kernel)
theorem dX5_interpolate_19 : decode cX5_interpolate 19 = .ok (.getfield 12, 3) := dl_o180 kcX5_interpolate (by decide +kernel)
theorem dX5_interpolate_22 : decode cX5_interpolate 22 = .ok (.getfield 275, 3) := dl_o180 kcX5_interpolate (by decide +kernel)
theorem dX5_interpolate_25 : decode cX5_interpolate 25 = .ok (.iconst 1, 1) := dl_o4 kcX5_interpolate (by decide +kernel)
theorem dX5_interpolate_26 : decode cX5_interpolate 26 = .ok (.iaload, 1) := dl_o46 kcX5_interpolate (by decide +kernel)
theorem dX5_interpolate_27 : decode cX5_interpolate 27 = .ok (.istore 4, 2) := dl_o54 kcX5_interpolate (by decide +kernel)
theorem dX5_interpolate_29 : decode cX5_interpolate 29 = .ok (.aload_n 0, 1) := dl_o42 kcX5_interpolate (by decide +kernel)
theorem dX5_interpolate_30 : decode cX5_interpolate 30 = .ok (.getfield 12, 3) := dl_o180 kcX5_interpolate (by decide +kernel)
theorem dX5_interpolate_33 : decode cX5_interpolate 33 = .ok (.getfield 275, 3) := dl_o180 kcX5_interpolate (by decide +kernel)
theorem dX5_interpolate_36 : decode cX5_interpolate 36 = .ok (.iconst 2, 1) := dl_o5 kcX5_interpolate (by decide +kernel)
theorem dX5_interpolate_37 : decode cX5_interpolate 37 = .ok (.iaload, 1) := dl_o46 kcX5_interpolate (by decide +kernel)
theorem dX5_interpolate_38 : decode cX5_interpolate 38 = .ok (.istore 5, 2) := dl_o54 kcX5_interpolate (by decide +kernel)
theorem dX5_interpolate_40 : decode cX5_interpolate 40 = .ok (.aload_n 0, 1) := dl_o42 kcX5_interpolate (by decide +kernel)
theorem dX5_interpolate_41 : decode cX5_interpolate 41 = .ok (.aload_n 1, 1) := dl_o43 kcX5_interpolate (by decide +kernel)
theorem dX5_interpolate_42 : decode cX5_interpolate 42 = .ok (.iload 4, 2) := dl_o21 kcX5_interpolate (by decide +kernel)
theorem dX5_interpolate_44 : decode cX5_interpolate 44 = .ok (.invokevirtual 259, 3) := dl_o182 kcX5_interpolate (by decide +kernel)
theorem dX5_interpolate_47 : decode cX5_interpolate 47 = .ok (.ifCond .eq 13, 3) := dl_o153 kcX5_interpolate 13 (by decide +kernel) (by decide +kernel)
theorem dX5_interpolate_50 : decode cX5_interpolate 50 = .ok (.aload_n 0, 1) := dl_o42 kcX5_interpolate (by decide +kernel)
theorem dX5_interpolate_51 : decode cX5_interpolate 51 = .ok (.aload_n 2, 1) := dl_o44 kcX5_interpolate (by decide +kernel)
theorem dX5_interpolate_52 : decode cX5_interpolate 52 = .ok (.iload 5, 2) := dl_o21 kcX5_interpolate (by decide +kernel)
theorem dX5_interpolate_54 : decode cX5_interpolate 54 = .ok (.invokevirtual 259, 3) := dl_o182 kcX5_interpolate (by decide +kernel)
theorem dX5_interpolate_57 : decode cX5_interpolate 57 = .ok (.ifCond .ne 4, 3) := dl_o154 kcX5_interpolate 4 (by decide +kernel) (by decide +kernel)
theorem dX5_interpolate_60 : decode cX5_interpolate 60 = .ok (.return_, 1) := dl_o177 kcX5_interpolate (by decide +kernel)
theorem dX5_interpolate_61 : decode cX5_interpolate 61 = .ok (.aload_n 0, 1) := dl_o42 kcX5_interpolate (by decide +kernel)
theorem dX5_interpolate_62 : decode cX5_interpolate 62 = .ok (.aload_n 2, 1) := dl_o44 kcX5_interpolate (by decide +kernel)
theorem dX5_interpolate_63 : decode cX5_interpolate 63 = .ok (.iload 5, 2) := dl_o21 kcX5_interpolate (by decide +kernel)
theorem dX5_interpolate_65 : decode cX5_interpolate 65 = .ok (.aload_n 1, 1) := dl_o43 kcX5_interpolate (by decide +kernel)
theorem dX5_interpolate_66 : decode cX5_interpolate 66 = .ok (.iload 4, 2) := dl_o21 kcX5_interpolate (by decide +kernel)
theorem dX5_interpolate_68 : decode cX5_interpolate 68 = .ok (.invokevirtual 471, 3) := dl_o182 kcX5_interpolate (by decide +kernel)
theorem dX5_interpolate_71 : decode cX5_interpolate 71 = .ok (.lstore 6, 2) := dl_o55 kcX5_interpolate (by decide +kernel)
theorem dX5_interpolate_73 : decode cX5_interpolate 73 = .ok (.aload_n 0, 1) := dl_o42 kcX5_interpolate (by decide +kernel)
theorem dX5_interpolate_74 : decode cX5_interpolate 74 = .ok (.aload_n 2, 1) := dl_o44 kcX5_interpolate (by decide +kernel)
theorem dX5_interpolate_75 : decode cX5_interpolate 75 = .ok (.iload 5, 2) := dl_o21 kcX5_interpolate (by decide +kernel)
theorem dX5_interpolate_77 : decode cX5_interpolate 77 = .ok (.aload_n 1, 1) := dl_o43 kcX5_interpolate (by decide +kernel)
theorem dX5_interpolate_78 : decode cX5_interpolate 78 = .ok (.iload 4, 2) := dl_o21 kcX5_interpolate (by decide +kernel)
theorem dX5_interpolate_80 : decode cX5_interpolate 80 = .ok (.invokevirtual 455, 3) := dl_o182 kcX5_interpolate (by decide +kernel)
theorem dX5_interpolate_83 : decode cX5_interpolate 83 = .ok (.lstore 8, 2) := dl_o55 kcX5_interpolate (by decide +kernel)
theorem dX5_interpolate_85 : decode cX5_interpolate 85 = .ok (.iconst 0, 1) := dl_o3 kcX5_interpolate (by decide +kernel)
theorem dX5_interpolate_86 : decode cX5_interpolate 86 = .ok (.istore 10, 2) := dl_o54 kcX5_interpolate (by decide +kernel)
theorem dX5_interpolate_88 : decode cX5_interpolate 88 = .ok (.iload 10, 2) := dl_o21 kcX5_interpolate (by decide +kernel)
theorem dX5_interpolate_90 : decode cX5_interpolate 90 = .ok (.aload_n 0, 1) := dl_o42 kcX5_interpolate (by decide +kernel)
theorem dX5_interpolate_91 : decode cX5_interpolate 91 = .ok (.getfield 12, 3) := dl_o180 kcX5_interpolate (by decide +kernel)
theorem dX5_interpolate_94 : decode cX5_interpolate 94 = .ok (.getfield 163, 3) := dl_o180 kcX5_interpolate (by decide +kernel)
theorem dX5_interpolate_97 : decode cX5_interpolate 97 = .ok (.if_icmp .ge 82, 3) := dl_o162 kcX5_interpolate 82 (by decide +kernel) (by decide +kernel)
theorem dX5_interpolate_100 : decode cX5_interpolate 100 = .ok (.aload_n 0, 1) := dl_o42 kcX5_interpolate (by decide +kernel)
theorem dX5_interpolate_101 : decode cX5_interpolate 101 = .ok (.invokevirtual 242, 3) := dl_o182 kcX5_interpolate (by decide +kernel)
theorem dX5_interpolate_104 : decode cX5_interpolate 104 = .ok (.istore 11, 2) := dl_o54 kcX5_interpolate (by decide +kernel)
theorem dX5_interpolate_106 : decode cX5_interpolate 106 = .ok (.aload_n 0, 1) := dl_o42 kcX5_interpolate (by decide +kernel)
theorem dX5_interpolate_107 : decode cX5_interpolate 107 = .ok (.aload_n 3, 1) := dl_o45 kcX5_interpolate (by decide +kernel)
theorem dX5_interpolate_108 : decode cX5_interpolate 108 = .ok (.iload 11, 2) := dl_o21 kcX5_interpolate (by decide +kernel)
theorem dX5_interpolate_110 : decode cX5_interpolate 110 = .ok (.invokevirtual 259, 3) := dl_o182 kcX5_interpolate (by decide +kernel)
theorem dX5_interpolate_113 : decode cX5_interpolate 113 = .ok (.ifCond .ne 4, 3) := dl_o154 kcX5_interpolate 4 (by decide +kernel) (by decide +kernel)
theorem dX5_interpolate_116 : decode cX5_interpolate 116 = .ok (.return_, 1) := dl_o177 kcX5_interpolate (by decide +kernel)
theorem dX5_interpolate_117 : decode cX5_interpolate 117 = .ok (.aload_n 0, 1) := dl_o42 kcX5_interpolate (by decide +kernel)
theorem dX5_interpolate_118 : decode cX5_interpolate 118 = .ok (.aload_n 3, 1) := dl_o45 kcX5_interpolate (by decide +kernel)
theorem dX5_interpolate_119 : decode cX5_interpolate 119 = .ok (.iload 11, 2) := dl_o21 kcX5_interpolate (by decide +kernel)
theorem dX5_interpolate_121 : decode cX5_interpolate 121 = .ok (.aload_n 1, 1) := dl_o43 kcX5_interpolate (by decide +kernel)
theorem dX5_interpolate_122 : decode cX5_interpolate 122 = .ok (.iload 4, 2) := dl_o21 kcX5_interpolate (by decide +kernel)
theorem dX5_interpolate_124 : decode cX5_interpolate 124 = .ok (.invokevirtual 471, 3) := dl_o182 kcX5_interpolate (by decide +kernel)
theorem dX5_interpolate_127 : decode cX5_interpolate 127 = .ok (.lstore 12, 2) := dl_o55 kcX5_interpolate (by decide +kernel)
theorem dX5_interpolate_129 : decode cX5_interpolate 129 = .ok (.lload 6, 2) := dl_o22 kcX5_interpolate (by decide +kernel)
theorem dX5_interpolate_131 : decode cX5_interpolate 131 = .ok (.lconst 0, 1) := dl_o9 kcX5_interpolate (by decide +kernel)
theorem dX5_interpolate_132 : decode cX5_interpolate 132 = .ok (.lcmp, 1) := dl_o148 kcX5_interpolate (by decide +kernel)
theorem dX5_interpolate_133 : decode cX5_interpolate 133 = .ok (.ifCond .ne 8, 3) := dl_o154 kcX5_interpolate 8 (by decide +kernel) (by decide +kernel)
theorem dX5_interpolate_136 : decode cX5_interpolate 136 = .ok (.lload 12, 2) := dl_o22 kcX5_interpolate (by decide +kernel)
theorem dX5_interpolate_138 : decode cX5_interpolate 138 = .ok (.goto 13, 3) := dl_o167 kcX5_interpolate 13 (by decide +kernel) (by decide +kernel)
theorem dX5_interpolate_141 : decode cX5_interpolate 141 = .ok (.lload 12, 2) := dl_o22 kcX5_interpolate (by decide +kernel)
theorem dX5_interpolate_143 : decode cX5_interpolate 143 = .ok (.lload 8, 2) := dl_o22 kcX5_interpolate (by decide +kernel)
theorem dX5_interpolate_145 : decode cX5_interpolate 145 = .ok (.lmul, 1) := dl_o105 kcX5_interpolate (by decide +kernel)
theorem dX5_interpolate_146 : decode cX5_interpolate 146 = .ok (.lload 6, 2) := dl_o22 kcX5_interpolate (by decide +kernel)
theorem dX5_interpolate_148 : decode cX5_interpolate 148 = .ok (.invokestatic 75, 3) := dl_o184 kcX5_interpolate (by decide +kernel)
theorem dX5_interpolate_151 : decode cX5_interpolate 151 = .ok (.lstore 14, 2) := dl_o55 kcX5_interpolate (by decide +kernel)
theorem dX5_interpolate_153 : decode cX5_interpolate 153 = .ok (.aload_n 0, 1) := dl_o42 kcX5_interpolate (by decide +kernel)
theorem dX5_interpolate_154 : decode cX5_interpolate 154 = .ok (.aload_n 3, 1) := dl_o45 kcX5_interpolate (by decide +kernel)
theorem dX5_interpolate_155 : decode cX5_interpolate 155 = .ok (.iload 11, 2) := dl_o21 kcX5_interpolate (by decide +kernel)
theorem dX5_interpolate_157 : decode cX5_interpolate 157 = .ok (.lload 14, 2) := dl_o22 kcX5_interpolate (by decide +kernel)
theorem dX5_interpolate_159 : decode cX5_interpolate 159 = .ok (.aload_n 0, 1) := dl_o42 kcX5_interpolate (by decide +kernel)
theorem dX5_interpolate_160 : decode cX5_interpolate 160 = .ok (.aload_n 3, 1) := dl_o45 kcX5_interpolate (by decide +kernel)
theorem dX5_interpolate_161 : decode cX5_interpolate 161 = .ok (.iload 11, 2) := dl_o21 kcX5_interpolate (by decide +kernel)
theorem dX5_interpolate_163 : decode cX5_interpolate 163 = .ok (.aload_n 1, 1) := dl_o43 kcX5_interpolate (by decide +kernel)
theorem dX5_interpolate_164 : decode cX5_interpolate 164 = .ok (.iload 4, 2) := dl_o21 kcX5_interpolate (by decide +kernel)
theorem dX5_interpolate_166 : decode cX5_interpolate 166 = .ok (.invokevirtual 455, 3) := dl_o182 kcX5_interpolate (by decide +kernel)
theorem dX5_interpolate_169 : decode cX5_interpolate 169 = .ok (.lsub, 1) := dl_o101 kcX5_interpolate (by decide +kernel)
theorem dX5_interpolate_170 : decode cX5_interpolate 170 = .ok (.invokevirtual 461, 3) := dl_o182 kcX5_interpolate (by decide +kernel)
theorem dX5_interpolate_173 : decode cX5_interpolate 173 = .ok (.iinc 10 1, 3) := by decide +kernel
theorem dX5_interpolate_176 : decode cX5_interpolate 176 = .ok (.goto (-88), 3) := dl_o167 kcX5_interpolate 65448 (by decide +kernel) (by decide +kernel)
theorem dX5_interpolate_179 : decode cX5_interpolate 179 = .ok (.aload_n 0, 1) := dl_o42 kcX5_interpolate (by decide +kernel)
theorem dX5_interpolate_180 : decode cX5_interpolate 180 = .ok (.getfield 12, 3) := dl_o180 kcX5_interpolate (by decide +kernel)
theorem dX5_interpolate_183 : decode cX5_interpolate 183 = .ok (.iconst 1, 1) := dl_o4 kcX5_interpolate (by decide +kernel)
theorem dX5_interpolate_184 : decode cX5_interpolate 184 = .ok (.putfield 163, 3) := dl_o181 kcX5_interpolate (by decide +kernel)
theorem dX5_interpolate_187 : decode cX5_interpolate 187 = .ok (.return_, 1) := dl_o177 kcX5_interpolate (by decide +kernel)
def B_X5_interpolate_151 (N : Nat) (k88 : Nat → Nat → Int32 → Int64 → Int64 → Int32 → sv_V → Option sv_V) (l1 : Nat) (l3 : Nat) (l4 : Int32) (l6 : Int64) (l8 : Int64) (l10 : Int32) (l11 : Int32) (s0 : Int64) (V : sv_V) : Option sv_V := (F_X5_longBetween l3 l11 l1 l4 V).bind (fun (x3, V1) => (F_X5_move l3 l11 (s0 - x3) V1).bind (fun V4 => sx_let (l10 + 1) (fun x6 => k88 l1 l3 l4 l6 l8 x6 V4)))
set_option maxRecDepth 20000 in
theorem tB_X5_interpolate_151 {g : sx_G} (hG : sx_Go g) {P : Option Value → sv_V → Prop} {Vr : sv_V} (hP : P none Vr) {N : Nat} {k88 : Nat → Nat → Int32 → Int64 → Int64 → Int32 → sv_V → Option sv_V} (hk88 : ∀ (l1 : Nat) (l3 : Nat) (l4 : Int32) (l6 : Int64) (l8 : Int64) (l10 : Int32) (V : sv_V), k88 l1 l3 l4 l6 l8 l10 V = some Vr → sv_N g qX5_interpolate 2 88 [(0, .ref 69), (1, .ref l1), (3, .ref l3), (4, .int l4), (6, .long l6), (8, .long l8), (10, .int l10)] [] V P) {l1 : Nat} {l3 : Nat} {l4 : Int32} {l6 : Int64} {l8 : Int64} {l10 : Int32} {l11 : Int32} {s0 : Int64} {V : sv_V} (h : B_X5_interpolate_151 N k88 l1 l3 l4 l6 l8 l10 l11 s0 V = some Vr) : sv_N g qX5_interpolate 2 151 [(0, .ref 69), (1, .ref l1), (3, .ref l3), (4, .int l4), (6, .long l6), (8, .long l8), (10, .int l10), (11, .int l11)] [.long s0] V P := by
  unfold B_X5_interpolate_151 at h
  refine sx_lstore (pc := 151) (lo' := [(14, .long s0), (0, .ref 69), (1, .ref l1), (3, .ref l3), (4, .int l4), (6, .long l6), (8, .long l8), (10, .int l10), (11, .int l11)]) dX5_interpolate_151 (by decide) rfl ?_
  refine sx_aload_n (pc := 153) dX5_interpolate_153 sx_m1 ?_
  refine sx_aload_n (pc := 154) dX5_interpolate_154 sx_m3 ?_
  refine sx_iload (pc := 155) dX5_interpolate_155 sx_m8 ?_
  refine sx_lload (pc := 157) dX5_interpolate_157 sx_m0 ?_
  refine sx_aload_n (pc := 159) dX5_interpolate_159 sx_m1 ?_
  refine sx_aload_n (pc := 160) dX5_interpolate_160 sx_m3 ?_
  refine sx_iload (pc := 161) dX5_interpolate_161 sx_m8 ?_
  refine sx_aload_n (pc := 163) dX5_interpolate_163 sx_m2 ?_
  refine sx_iload (pc := 164) dX5_interpolate_164 sx_m4 ?_
  obtain ⟨⟨x3, V1⟩, g2, h⟩ := sx_bnd h
  refine sv_cV (pc := 166) (y := qX5_longBetween) (o := (some (.long x3))) (as := [.ref l3, .int l11, .ref l1, .int l4]) (V1 := V1) hG dX5_interpolate_166 l_X5_455 y0X5_longBetween yvX5_longBetween rfl (Nat.le_of_ble_eq_true rfl) lay_69 kr_5 (by decide) (Nat.le_of_ble_eq_true rfl) rfl rfl rfl (t_X5_longBetween hG ⟨rfl, rfl⟩ g2) ?_
  refine sx_lsub (pc := 169) dX5_interpolate_169 ?_
  obtain ⟨V4, g5, h⟩ := sx_bnd h
  refine sv_cV (pc := 170) (y := qX5_move) (o := none) (as := [.ref l3, .int l11, .long (s0 - x3)]) (V1 := V4) hG dX5_interpolate_170 l_X5_461 y0X5_move yvX5_move rfl (Nat.le_of_ble_eq_true rfl) lay_69 kr_5 (by decide) (Nat.le_of_ble_eq_true rfl) rfl rfl rfl (t_X5_move hG ⟨rfl, rfl⟩ g5) ?_
  obtain ⟨x6, hx6⟩ : ∃ z : Int32, z = l10 + 1 := ⟨_, rfl⟩
  have h := sx_letE hx6 h
  refine sx_iinc (pc := 173) (v := x6) (lo' := [(10, .int x6), (14, .long s0), (0, .ref 69), (1, .ref l1), (3, .ref l3), (4, .int l4), (6, .long l6), (8, .long l8), (11, .int l11)]) dX5_interpolate_173 sx_m7 (by rw [hx6]; rfl) (by decide) rfl ?_
  refine sx_goto (pc := 176) (tgt := 88) dX5_interpolate_176 (by decide) ?_
  refine sx_wk (sx_s1 sx_m2 (sx_s1 sx_m3 (sx_s1 sx_m4 (sx_s1 sx_m5 (sx_s1 sx_m6 (sx_s1 sx_m7 (sx_s1 sx_m0 sx_s0))))))) ?_
  exact hk88 _ _ _ _ _ _ _ h
def B_X5_interpolate_88 (N : Nat) (k88 : Nat → Nat → Int32 → Int64 → Int64 → Int32 → sv_V → Option sv_V) (l1 : Nat) (l3 : Nat) (l4 : Int32) (l6 : Int64) (l8 : Int64) (l10 : Int32) (V : sv_V) : Option sv_V := if (V.1 70 8) ≤ l10 then (sx_let (sv_I V 70 8 (1 : Int32)) (fun V8 => some V8)) else ((F_X5_pop  V).bind (fun (x11, V9) => (F_X5_isThere l3 x11 V9).bind (fun (x14, V12) => if x14 = 0 then (some V12) else ((F_X5_originalBetween l3 x11 l1 l4 V12).bind (fun (x18, V16) => if (lg_cmp l6 (0 : Int64)) = 0 then (B_X5_interpolate_151 N k88 l1 l3 l4 l6 l8 l10 x11 x18 V16) else ((F_X11_nearest (x18 * l8) l6 V16).bind (fun (x22, V20) => B_X5_interpolate_151 N k88 l1 l3 l4 l6 l8 l10 x11 x22 V20)))))))
set_option maxRecDepth 20000 in
theorem tB_X5_interpolate_88 {g : sx_G} (hG : sx_Go g) {P : Option Value → sv_V → Prop} {Vr : sv_V} (hP : P none Vr) {N : Nat} {k88 : Nat → Nat → Int32 → Int64 → Int64 → Int32 → sv_V → Option sv_V} (hk88 : ∀ (l1 : Nat) (l3 : Nat) (l4 : Int32) (l6 : Int64) (l8 : Int64) (l10 : Int32) (V : sv_V), k88 l1 l3 l4 l6 l8 l10 V = some Vr → sv_N g qX5_interpolate 2 88 [(0, .ref 69), (1, .ref l1), (3, .ref l3), (4, .int l4), (6, .long l6), (8, .long l8), (10, .int l10)] [] V P) {l1 : Nat} {l3 : Nat} {l4 : Int32} {l6 : Int64} {l8 : Int64} {l10 : Int32} {V : sv_V} (h : B_X5_interpolate_88 N k88 l1 l3 l4 l6 l8 l10 V = some Vr) : sv_N g qX5_interpolate 2 88 [(0, .ref 69), (1, .ref l1), (3, .ref l3), (4, .int l4), (6, .long l6), (8, .long l8), (10, .int l10)] [] V P := by
  unfold B_X5_interpolate_88 at h
  refine sx_iload (pc := 88) dX5_interpolate_88 sx_m6 ?_
  refine sx_aload_n (pc := 90) dX5_interpolate_90 sx_m0 ?_
  refine sv_getO (pc := 91) hG dX5_interpolate_91 f_5_12 lay_69 rfl cr_69_1 ?_
  refine sv_getI (pc := 94) hG dX5_interpolate_94 f_5_163 lay_70 rfl ?_
  refine sx_icmp_ge (pc := 97) (tgt := 179) dX5_interpolate_97 (by decide) (fun c7 => ?_) (fun c7 => ?_)
  · have h := sx_pos c7 h
    refine sx_aload_n (pc := 179) dX5_interpolate_179 sx_m0 ?_
    refine sv_getO (pc := 180) hG dX5_interpolate_180 f_5_12 lay_69 rfl cr_69_1 ?_
    refine sx_iconst (pc := 183) (v := 1) dX5_interpolate_183 (by decide) ?_
    obtain ⟨V8, hV8⟩ : ∃ z : sv_V, z = sv_I V 70 8 (1 : Int32) := ⟨_, rfl⟩
    have h := sx_letE hV8 h
    refine sv_putI (pc := 184) hG dX5_interpolate_184 f_5_163 lay_70 rfl hV8 ?_
    exact sv_vret (pc := 187) dX5_interpolate_187 rfl h hP
  · have h := sx_neg c7 h
    refine sx_aload_n (pc := 100) dX5_interpolate_100 sx_m0 ?_
    obtain ⟨⟨x11, V9⟩, g10, h⟩ := sx_bnd h
    refine sv_cV (pc := 101) (y := qX5_pop) (o := (some (.int x11))) (as := []) (V1 := V9) hG dX5_interpolate_101 l_X5_242 y0X5_pop yvX5_pop rfl (Nat.le_of_ble_eq_true rfl) lay_69 kr_5 (by decide) (Nat.le_of_ble_eq_true rfl) rfl rfl rfl (t_X5_pop hG ⟨rfl, rfl⟩ g10) ?_
    refine sx_istore (pc := 104) (lo' := [(11, .int x11), (0, .ref 69), (1, .ref l1), (3, .ref l3), (4, .int l4), (6, .long l6), (8, .long l8), (10, .int l10)]) dX5_interpolate_104 (by decide) rfl ?_
    refine sx_aload_n (pc := 106) dX5_interpolate_106 sx_m1 ?_
    refine sx_aload_n (pc := 107) dX5_interpolate_107 sx_m3 ?_
    refine sx_iload (pc := 108) dX5_interpolate_108 sx_m0 ?_
    obtain ⟨⟨x14, V12⟩, g13, h⟩ := sx_bnd h
    refine sv_cV (pc := 110) (y := qX5_isThere) (o := (some (.int x14))) (as := [.ref l3, .int x11]) (V1 := V12) hG dX5_interpolate_110 l_X5_259 y0X5_isThere yvX5_isThere rfl (Nat.le_of_ble_eq_true rfl) lay_69 kr_5 (by decide) (Nat.le_of_ble_eq_true rfl) rfl rfl rfl (t_X5_isThere hG ⟨rfl, rfl⟩ g13) ?_
    refine sx_if_ne (pc := 113) (tgt := 117) dX5_interpolate_113 (by decide) (fun c15 => ?_) (fun c15 => ?_)
    · have h := sx_neg c15 h
      refine sx_aload_n (pc := 117) dX5_interpolate_117 sx_m1 ?_
      refine sx_aload_n (pc := 118) dX5_interpolate_118 sx_m3 ?_
      refine sx_iload (pc := 119) dX5_interpolate_119 sx_m0 ?_
      refine sx_aload_n (pc := 121) dX5_interpolate_121 sx_m2 ?_
      refine sx_iload (pc := 122) dX5_interpolate_122 sx_m4 ?_
      obtain ⟨⟨x18, V16⟩, g17, h⟩ := sx_bnd h
      refine sv_cV (pc := 124) (y := qX5_originalBetween) (o := (some (.long x18))) (as := [.ref l3, .int x11, .ref l1, .int l4]) (V1 := V16) hG dX5_interpolate_124 l_X5_471 y0X5_originalBetween yvX5_originalBetween rfl (Nat.le_of_ble_eq_true rfl) lay_69 kr_5 (by decide) (Nat.le_of_ble_eq_true rfl) rfl rfl rfl (t_X5_originalBetween hG ⟨rfl, rfl⟩ g17) ?_
      refine sx_lstore (pc := 127) (lo' := [(12, .long x18), (11, .int x11), (0, .ref 69), (1, .ref l1), (3, .ref l3), (4, .int l4), (6, .long l6), (8, .long l8), (10, .int l10)]) dX5_interpolate_127 (by decide) rfl ?_
      refine sx_lload (pc := 129) dX5_interpolate_129 sx_m6 ?_
      refine sx_lconst (pc := 131) (v := 0) dX5_interpolate_131 rfl ?_
      refine sx_lcmp (pc := 132) dX5_interpolate_132 ?_
      refine sx_if_ne (pc := 133) (tgt := 141) dX5_interpolate_133 (by decide) (fun c19 => ?_) (fun c19 => ?_)
      · have h := sx_neg c19 h
        refine sx_lload (pc := 141) dX5_interpolate_141 sx_m0 ?_
        refine sx_lload (pc := 143) dX5_interpolate_143 sx_m7 ?_
        refine sx_lmul (pc := 145) dX5_interpolate_145 ?_
        refine sx_lload (pc := 146) dX5_interpolate_146 sx_m6 ?_
        obtain ⟨⟨x22, V20⟩, g21, h⟩ := sx_bnd h
        refine sv_cN (pc := 148) (y := qX11_nearest) (o := (some (.long x22))) (as := [.long (x18 * l8), .long l6]) (V1 := V20) dX5_interpolate_148 n_X5_75 y0X11_nearest ysX11_nearest rfl (Nat.le_of_ble_eq_true rfl) (by decide) (Nat.le_of_ble_eq_true rfl) rfl rfl rfl (t_X11_nearest hG ⟨rfl, rfl⟩ g21) ?_
        refine sx_wk (sx_s1 sx_m2 (sx_s1 sx_m3 (sx_s1 sx_m4 (sx_s1 sx_m5 (sx_s1 sx_m6 (sx_s1 sx_m7 (sx_s1 sx_m8 (sx_s1 sx_m1 sx_s0)))))))) ?_
        exact tB_X5_interpolate_151 hG hP hk88 h
      · have h := sx_pos c19 h
        refine sx_lload (pc := 136) dX5_interpolate_136 sx_m0 ?_
        refine sx_goto (pc := 138) (tgt := 151) dX5_interpolate_138 (by decide) ?_
        refine sx_wk (sx_s1 sx_m2 (sx_s1 sx_m3 (sx_s1 sx_m4 (sx_s1 sx_m5 (sx_s1 sx_m6 (sx_s1 sx_m7 (sx_s1 sx_m8 (sx_s1 sx_m1 sx_s0)))))))) ?_
        exact tB_X5_interpolate_151 hG hP hk88 h
    · have h := sx_pos c15 h
      exact sv_vret (pc := 116) dX5_interpolate_116 rfl h hP
theorem tL_X5_interpolate_88 {g : sx_G} (hG : sx_Go g) {P : Option Value → sv_V → Prop} {Vr : sv_V} (hP : P none Vr) {N : Nat}   : ∀ (n : Nat) (l1 : Nat) (l3 : Nat) (l4 : Int32) (l6 : Int64) (l8 : Int64) (l10 : Int32) (V : sv_V), sx_lp7 (B_X5_interpolate_88 N ) n l1 l3 l4 l6 l8 l10 V = some Vr → sv_N g qX5_interpolate 2 88 [(0, .ref 69), (1, .ref l1), (3, .ref l3), (4, .int l4), (6, .long l6), (8, .long l8), (10, .int l10)] [] V P :=
  sx_lp7_ind (fun k0 ih _ _ _ _ _ _ V h => tB_X5_interpolate_88 hG hP ih h)
def F_X5_interpolate (N : Nat)  (V : sv_V) : Option sv_V := (F_X5_zone (0 : Int32) V).bind (fun (x25, V23) => (F_X5_zone (1 : Int32) V23).bind (fun (x28, V26) => (F_X5_zone (2 : Int32) V26).bind (fun (x31, V29) => sx_let (V29.1 71 (1 : Int32).toNatClampNeg) (fun x32 => sx_let (V29.1 71 (2 : Int32).toNatClampNeg) (fun x33 => (F_X5_isThere x25 x32 V29).bind (fun (x36, V34) => if x36 = 0 then (some V34) else ((F_X5_isThere x28 x33 V34).bind (fun (x40, V38) => if x40 = 0 then (some V38) else ((F_X5_originalBetween x28 x33 x25 x32 V38).bind (fun (x44, V42) => (F_X5_longBetween x28 x33 x25 x32 V42).bind (fun (x47, V45) => sx_lp7 (B_X5_interpolate_88 N ) N x25 x31 x32 x44 x47 (0 : Int32) V45)))))))))))
set_option maxRecDepth 20000 in
theorem t_X5_interpolate {g : sx_G} (hG : sx_Go g) {P : Option Value → sv_V → Prop} {Vr : sv_V} (hP : P none Vr) {N : Nat}  {V : sv_V} (h : F_X5_interpolate N  V = some Vr) : sv_N g qX5_interpolate 2 0 [(0, .ref 69)] [] V P := by
  unfold F_X5_interpolate at h
  refine sx_aload_n (pc := 0) dX5_interpolate_0 sx_m0 ?_
  refine sx_iconst (pc := 1) (v := 0) dX5_interpolate_1 (by decide) ?_
  obtain ⟨⟨x25, V23⟩, g24, h⟩ := sx_bnd h
  refine sv_cV (pc := 2) (y := qX5_zone) (o := (some (.ref x25))) (as := [.int (0 : Int32)]) (V1 := V23) hG dX5_interpolate_2 l_X5_255 y0X5_zone yvX5_zone rfl (Nat.le_of_ble_eq_true rfl) lay_69 kr_5 (by decide) (Nat.le_of_ble_eq_true rfl) rfl rfl rfl (t_X5_zone hG ⟨rfl, rfl⟩ g24) ?_
  refine sx_astore_n (pc := 5) (lo' := [(1, .ref x25), (0, .ref 69)]) dX5_interpolate_5 (by decide) rfl ?_
  refine sx_aload_n (pc := 6) dX5_interpolate_6 sx_m1 ?_
  refine sx_iconst (pc := 7) (v := 1) dX5_interpolate_7 (by decide) ?_
  obtain ⟨⟨x28, V26⟩, g27, h⟩ := sx_bnd h
  refine sv_cV (pc := 8) (y := qX5_zone) (o := (some (.ref x28))) (as := [.int (1 : Int32)]) (V1 := V26) hG dX5_interpolate_8 l_X5_255 y0X5_zone yvX5_zone rfl (Nat.le_of_ble_eq_true rfl) lay_69 kr_5 (by decide) (Nat.le_of_ble_eq_true rfl) rfl rfl rfl (t_X5_zone hG ⟨rfl, rfl⟩ g27) ?_
  refine sx_astore_n (pc := 11) (lo' := [(2, .ref x28), (1, .ref x25), (0, .ref 69)]) dX5_interpolate_11 (by decide) rfl ?_
  refine sx_aload_n (pc := 12) dX5_interpolate_12 sx_m2 ?_
  refine sx_iconst (pc := 13) (v := 2) dX5_interpolate_13 (by decide) ?_
  obtain ⟨⟨x31, V29⟩, g30, h⟩ := sx_bnd h
  refine sv_cV (pc := 14) (y := qX5_zone) (o := (some (.ref x31))) (as := [.int (2 : Int32)]) (V1 := V29) hG dX5_interpolate_14 l_X5_255 y0X5_zone yvX5_zone rfl (Nat.le_of_ble_eq_true rfl) lay_69 kr_5 (by decide) (Nat.le_of_ble_eq_true rfl) rfl rfl rfl (t_X5_zone hG ⟨rfl, rfl⟩ g30) ?_
  refine sx_astore_n (pc := 17) (lo' := [(3, .ref x31), (2, .ref x28), (1, .ref x25), (0, .ref 69)]) dX5_interpolate_17 (by decide) rfl ?_
  refine sx_aload_n (pc := 18) dX5_interpolate_18 sx_m3 ?_
  refine sv_getO (pc := 19) hG dX5_interpolate_19 f_5_12 lay_69 rfl cr_69_1 ?_
  refine sv_getA (pc := 22) hG dX5_interpolate_22 f_5_275 lay_70 rfl cr_70_6 ?_
  refine sx_iconst (pc := 25) (v := 1) dX5_interpolate_25 (by decide) ?_
  refine sv_iald (pc := 26) hG dX5_interpolate_26 lay_71 (by decide) ?_
  refine sv_tI (fun x32 hx32 => ?_)
  have h := sx_letE hx32 h
  refine sx_istore (pc := 27) (lo' := [(4, .int x32), (3, .ref x31), (2, .ref x28), (1, .ref x25), (0, .ref 69)]) dX5_interpolate_27 (by decide) rfl ?_
  refine sx_aload_n (pc := 29) dX5_interpolate_29 sx_m4 ?_
  refine sv_getO (pc := 30) hG dX5_interpolate_30 f_5_12 lay_69 rfl cr_69_1 ?_
  refine sv_getA (pc := 33) hG dX5_interpolate_33 f_5_275 lay_70 rfl cr_70_6 ?_
  refine sx_iconst (pc := 36) (v := 2) dX5_interpolate_36 (by decide) ?_
  refine sv_iald (pc := 37) hG dX5_interpolate_37 lay_71 (by decide) ?_
  refine sv_tI (fun x33 hx33 => ?_)
  have h := sx_letE hx33 h
  refine sx_istore (pc := 38) (lo' := [(5, .int x33), (4, .int x32), (3, .ref x31), (2, .ref x28), (1, .ref x25), (0, .ref 69)]) dX5_interpolate_38 (by decide) rfl ?_
  refine sx_aload_n (pc := 40) dX5_interpolate_40 sx_m5 ?_
  refine sx_aload_n (pc := 41) dX5_interpolate_41 sx_m4 ?_
  refine sx_iload (pc := 42) dX5_interpolate_42 sx_m1 ?_
  obtain ⟨⟨x36, V34⟩, g35, h⟩ := sx_bnd h
  refine sv_cV (pc := 44) (y := qX5_isThere) (o := (some (.int x36))) (as := [.ref x25, .int x32]) (V1 := V34) hG dX5_interpolate_44 l_X5_259 y0X5_isThere yvX5_isThere rfl (Nat.le_of_ble_eq_true rfl) lay_69 kr_5 (by decide) (Nat.le_of_ble_eq_true rfl) rfl rfl rfl (t_X5_isThere hG ⟨rfl, rfl⟩ g35) ?_
  refine sx_if_eq (pc := 47) (tgt := 60) dX5_interpolate_47 (by decide) (fun c37 => ?_) (fun c37 => ?_)
  · have h := sx_pos c37 h
    exact sv_vret (pc := 60) dX5_interpolate_60 rfl h hP
  · have h := sx_neg c37 h
    refine sx_aload_n (pc := 50) dX5_interpolate_50 sx_m5 ?_
    refine sx_aload_n (pc := 51) dX5_interpolate_51 sx_m3 ?_
    refine sx_iload (pc := 52) dX5_interpolate_52 sx_m0 ?_
    obtain ⟨⟨x40, V38⟩, g39, h⟩ := sx_bnd h
    refine sv_cV (pc := 54) (y := qX5_isThere) (o := (some (.int x40))) (as := [.ref x28, .int x33]) (V1 := V38) hG dX5_interpolate_54 l_X5_259 y0X5_isThere yvX5_isThere rfl (Nat.le_of_ble_eq_true rfl) lay_69 kr_5 (by decide) (Nat.le_of_ble_eq_true rfl) rfl rfl rfl (t_X5_isThere hG ⟨rfl, rfl⟩ g39) ?_
    refine sx_if_ne (pc := 57) (tgt := 61) dX5_interpolate_57 (by decide) (fun c41 => ?_) (fun c41 => ?_)
    · have h := sx_neg c41 h
      refine sx_aload_n (pc := 61) dX5_interpolate_61 sx_m5 ?_
      refine sx_aload_n (pc := 62) dX5_interpolate_62 sx_m3 ?_
      refine sx_iload (pc := 63) dX5_interpolate_63 sx_m0 ?_
      refine sx_aload_n (pc := 65) dX5_interpolate_65 sx_m4 ?_
      refine sx_iload (pc := 66) dX5_interpolate_66 sx_m1 ?_
      obtain ⟨⟨x44, V42⟩, g43, h⟩ := sx_bnd h
      refine sv_cV (pc := 68) (y := qX5_originalBetween) (o := (some (.long x44))) (as := [.ref x28, .int x33, .ref x25, .int x32]) (V1 := V42) hG dX5_interpolate_68 l_X5_471 y0X5_originalBetween yvX5_originalBetween rfl (Nat.le_of_ble_eq_true rfl) lay_69 kr_5 (by decide) (Nat.le_of_ble_eq_true rfl) rfl rfl rfl (t_X5_originalBetween hG ⟨rfl, rfl⟩ g43) ?_
      refine sx_lstore (pc := 71) (lo' := [(6, .long x44), (5, .int x33), (4, .int x32), (3, .ref x31), (2, .ref x28), (1, .ref x25), (0, .ref 69)]) dX5_interpolate_71 (by decide) rfl ?_
      refine sx_aload_n (pc := 73) dX5_interpolate_73 sx_m6 ?_
      refine sx_aload_n (pc := 74) dX5_interpolate_74 sx_m4 ?_
      refine sx_iload (pc := 75) dX5_interpolate_75 sx_m1 ?_
      refine sx_aload_n (pc := 77) dX5_interpolate_77 sx_m5 ?_
      refine sx_iload (pc := 78) dX5_interpolate_78 sx_m2 ?_
      obtain ⟨⟨x47, V45⟩, g46, h⟩ := sx_bnd h
      refine sv_cV (pc := 80) (y := qX5_longBetween) (o := (some (.long x47))) (as := [.ref x28, .int x33, .ref x25, .int x32]) (V1 := V45) hG dX5_interpolate_80 l_X5_455 y0X5_longBetween yvX5_longBetween rfl (Nat.le_of_ble_eq_true rfl) lay_69 kr_5 (by decide) (Nat.le_of_ble_eq_true rfl) rfl rfl rfl (t_X5_longBetween hG ⟨rfl, rfl⟩ g46) ?_
      refine sx_lstore (pc := 83) (lo' := [(8, .long x47), (6, .long x44), (5, .int x33), (4, .int x32), (3, .ref x31), (2, .ref x28), (1, .ref x25), (0, .ref 69)]) dX5_interpolate_83 (by decide) rfl ?_
      refine sx_iconst (pc := 85) (v := 0) dX5_interpolate_85 (by decide) ?_
      refine sx_istore (pc := 86) (lo' := [(10, .int (0 : Int32)), (8, .long x47), (6, .long x44), (5, .int x33), (4, .int x32), (3, .ref x31), (2, .ref x28), (1, .ref x25), (0, .ref 69)]) dX5_interpolate_86 (by decide) rfl ?_
      refine sx_wk (sx_s1 sx_m8 (sx_s1 sx_m7 (sx_s1 sx_m5 (sx_s1 sx_m4 (sx_s1 sx_m2 (sx_s1 sx_m1 (sx_s1 sx_m0 sx_s0))))))) ?_
      exact tL_X5_interpolate_88 hG hP  N _ _ _ _ _ _ _ h
    · have h := sx_pos c41 h
      exact sv_vret (pc := 60) dX5_interpolate_60 rfl h hP
def ncX5_alignToReference : Nat := 1077282173699296085395257600350753820267333464434829767775909544980669336856434911080437857207329286132735553508278901544763084019476156456737896966722097286216649033141177609195391443675019482016182814221320214478408198722598339626
theorem kcX5_alignToReference : CK cX5_alignToReference ncX5_alignToReference 96 := ⟨by decide +kernel, by decide +kernel⟩
theorem dX5_alignToReference_0 : decode cX5_alignToReference 0 = .ok (.aload_n 0, 1) := dl_o42 kcX5_alignToReference (by decide +kernel)
theorem dX5_alignToReference_1 : decode cX5_alignToReference 1 = .ok (.iconst 1, 1) := dl_o4 kcX5_alignToReference (by decide +kernel)
theorem dX5_alignToReference_2 : decode cX5_alignToReference 2 = .ok (.invokevirtual 255, 3) := dl_o182 kcX5_alignToReference (by decide +kernel)
theorem dX5_alignToReference_5 : decode cX5_alignToReference 5 = .ok (.astore_n 1, 1) := dl_o76 kcX5_alignToReference (by decide +kernel)
theorem dX5_alignToReference_6 : decode cX5_alignToReference 6 = .ok (.aload_n 0, 1) := dl_o42 kcX5_alignToReference (by decide +kernel)
theorem dX5_alignToReference_7 : decode cX5_alignToReference 7 = .ok (.iconst 0, 1) := dl_o3 kcX5_alignToReference (by decide +kernel)
theorem dX5_alignToReference_8 : decode cX5_alignToReference 8 = .ok (.invokevirtual 255, 3) := dl_o182 kcX5_alignToReference (by decide +kernel)
theorem dX5_alignToReference_11 : decode cX5_alignToReference 11 = .ok (.astore_n 2, 1) := dl_o77 kcX5_alignToReference (by decide +kernel)
theorem dX5_alignToReference_12 : decode cX5_alignToReference 12 = .ok (.aload_n 0, 1) := dl_o42 kcX5_alignToReference (by decide +kernel)
theorem dX5_alignToReference_13 : decode cX5_alignToReference 13 = .ok (.getfield 12, 3) := dl_o180 kcX5_alignToReference (by decide +kernel)
theorem dX5_alignToReference_16 : decode cX5_alignToReference 16 = .ok (.getfield 275, 3) := dl_o180 kcX5_alignToReference (by decide +kernel)
theorem dX5_alignToReference_19 : decode cX5_alignToReference 19 = .ok (.iconst 0, 1) := dl_o3 kcX5_alignToReference (by decide +kernel)
theorem dX5_alignToReference_20 : decode cX5_alignToReference 20 = .ok (.iaload, 1) := dl_o46 kcX5_alignToReference (by decide +kernel)
theorem dX5_alignToReference_21 : decode cX5_alignToReference 21 = .ok (.istore_n 3, 1) := dl_o62 kcX5_alignToReference (by decide +kernel)
theorem dX5_alignToReference_22 : decode cX5_alignToReference 22 = .ok (.aload_n 0, 1) := dl_o42 kcX5_alignToReference (by decide +kernel)
theorem dX5_alignToReference_23 : decode cX5_alignToReference 23 = .ok (.aload_n 2, 1) := dl_o44 kcX5_alignToReference (by decide +kernel)
theorem dX5_alignToReference_24 : decode cX5_alignToReference 24 = .ok (.iload_n 3, 1) := dl_o29 kcX5_alignToReference (by decide +kernel)
theorem dX5_alignToReference_25 : decode cX5_alignToReference 25 = .ok (.invokevirtual 259, 3) := dl_o182 kcX5_alignToReference (by decide +kernel)
theorem dX5_alignToReference_28 : decode cX5_alignToReference 28 = .ok (.ifCond .ne 4, 3) := dl_o154 kcX5_alignToReference 4 (by decide +kernel) (by decide +kernel)
theorem dX5_alignToReference_31 : decode cX5_alignToReference 31 = .ok (.return_, 1) := dl_o177 kcX5_alignToReference (by decide +kernel)
theorem dX5_alignToReference_32 : decode cX5_alignToReference 32 = .ok (.iconst 0, 1) := dl_o3 kcX5_alignToReference (by decide +kernel)
theorem dX5_alignToReference_33 : decode cX5_alignToReference 33 = .ok (.istore 4, 2) := dl_o54 kcX5_alignToReference (by decide +kernel)
theorem dX5_alignToReference_35 : decode cX5_alignToReference 35 = .ok (.iload 4, 2) := dl_o21 kcX5_alignToReference (by decide +kernel)
theorem dX5_alignToReference_37 : decode cX5_alignToReference 37 = .ok (.aload_n 0, 1) := dl_o42 kcX5_alignToReference (by decide +kernel)
theorem dX5_alignToReference_38 : decode cX5_alignToReference 38 = .ok (.getfield 12, 3) := dl_o180 kcX5_alignToReference (by decide +kernel)
theorem dX5_alignToReference_41 : decode cX5_alignToReference 41 = .ok (.getfield 163, 3) := dl_o180 kcX5_alignToReference (by decide +kernel)
theorem dX5_alignToReference_44 : decode cX5_alignToReference 44 = .ok (.if_icmp .ge 43, 3) := dl_o162 kcX5_alignToReference 43 (by decide +kernel) (by decide +kernel)
theorem dX5_alignToReference_47 : decode cX5_alignToReference 47 = .ok (.aload_n 0, 1) := dl_o42 kcX5_alignToReference (by decide +kernel)
theorem dX5_alignToReference_48 : decode cX5_alignToReference 48 = .ok (.invokevirtual 242, 3) := dl_o182 kcX5_alignToReference (by decide +kernel)
theorem dX5_alignToReference_51 : decode cX5_alignToReference 51 = .ok (.istore 5, 2) := dl_o54 kcX5_alignToReference (by decide +kernel)
theorem dX5_alignToReference_53 : decode cX5_alignToReference 53 = .ok (.aload_n 0, 1) := dl_o42 kcX5_alignToReference (by decide +kernel)
theorem dX5_alignToReference_54 : decode cX5_alignToReference 54 = .ok (.aload_n 1, 1) := dl_o43 kcX5_alignToReference (by decide +kernel)
theorem dX5_alignToReference_55 : decode cX5_alignToReference 55 = .ok (.iload 5, 2) := dl_o21 kcX5_alignToReference (by decide +kernel)
theorem dX5_alignToReference_57 : decode cX5_alignToReference 57 = .ok (.invokevirtual 259, 3) := dl_o182 kcX5_alignToReference (by decide +kernel)
theorem dX5_alignToReference_60 : decode cX5_alignToReference 60 = .ok (.ifCond .ne 4, 3) := dl_o154 kcX5_alignToReference 4 (by decide +kernel) (by decide +kernel)
theorem dX5_alignToReference_63 : decode cX5_alignToReference 63 = .ok (.return_, 1) := dl_o177 kcX5_alignToReference (by decide +kernel)
theorem dX5_alignToReference_64 : decode cX5_alignToReference 64 = .ok (.aload_n 0, 1) := dl_o42 kcX5_alignToReference (by decide +kernel)
theorem dX5_alignToReference_65 : decode cX5_alignToReference 65 = .ok (.aload_n 1, 1) := dl_o43 kcX5_alignToReference (by decide +kernel)
theorem dX5_alignToReference_66 : decode cX5_alignToReference 66 = .ok (.iload 5, 2) := dl_o21 kcX5_alignToReference (by decide +kernel)
theorem dX5_alignToReference_68 : decode cX5_alignToReference 68 = .ok (.aload_n 0, 1) := dl_o42 kcX5_alignToReference (by decide +kernel)
theorem dX5_alignToReference_69 : decode cX5_alignToReference 69 = .ok (.aload_n 1, 1) := dl_o43 kcX5_alignToReference (by decide +kernel)
theorem dX5_alignToReference_70 : decode cX5_alignToReference 70 = .ok (.iload 5, 2) := dl_o21 kcX5_alignToReference (by decide +kernel)
theorem dX5_alignToReference_72 : decode cX5_alignToReference 72 = .ok (.aload_n 2, 1) := dl_o44 kcX5_alignToReference (by decide +kernel)
theorem dX5_alignToReference_73 : decode cX5_alignToReference 73 = .ok (.iload_n 3, 1) := dl_o29 kcX5_alignToReference (by decide +kernel)
theorem dX5_alignToReference_74 : decode cX5_alignToReference 74 = .ok (.invokevirtual 455, 3) := dl_o182 kcX5_alignToReference (by decide +kernel)
theorem dX5_alignToReference_77 : decode cX5_alignToReference 77 = .ok (.lneg, 1) := dl_o117 kcX5_alignToReference (by decide +kernel)
theorem dX5_alignToReference_78 : decode cX5_alignToReference 78 = .ok (.invokevirtual 461, 3) := dl_o182 kcX5_alignToReference (by decide +kernel)
theorem dX5_alignToReference_81 : decode cX5_alignToReference 81 = .ok (.iinc 4 1, 3) := by decide +kernel
theorem dX5_alignToReference_84 : decode cX5_alignToReference 84 = .ok (.goto (-49), 3) := dl_o167 kcX5_alignToReference 65487 (by decide +kernel) (by decide +kernel)
theorem dX5_alignToReference_87 : decode cX5_alignToReference 87 = .ok (.aload_n 0, 1) := dl_o42 kcX5_alignToReference (by decide +kernel)
theorem dX5_alignToReference_88 : decode cX5_alignToReference 88 = .ok (.getfield 12, 3) := dl_o180 kcX5_alignToReference (by decide +kernel)
theorem dX5_alignToReference_91 : decode cX5_alignToReference 91 = .ok (.iconst 1, 1) := dl_o4 kcX5_alignToReference (by decide +kernel)
theorem dX5_alignToReference_92 : decode cX5_alignToReference 92 = .ok (.putfield 163, 3) := dl_o181 kcX5_alignToReference (by decide +kernel)
theorem dX5_alignToReference_95 : decode cX5_alignToReference 95 = .ok (.return_, 1) := dl_o177 kcX5_alignToReference (by decide +kernel)
def B_X5_alignToReference_35 (N : Nat) (k35 : Nat → Nat → Int32 → Int32 → sv_V → Option sv_V) (l1 : Nat) (l2 : Nat) (l3 : Int32) (l4 : Int32) (V : sv_V) : Option sv_V := if (V.1 70 8) ≤ l4 then (sx_let (sv_I V 70 8 (1 : Int32)) (fun V2 => some V2)) else ((F_X5_pop  V).bind (fun (x5, V3) => (F_X5_isThere l1 x5 V3).bind (fun (x8, V6) => if x8 = 0 then (some V6) else ((F_X5_longBetween l1 x5 l2 l3 V6).bind (fun (x12, V10) => (F_X5_move l1 x5 (-x12) V10).bind (fun V13 => sx_let (l4 + 1) (fun x15 => k35 l1 l2 l3 x15 V13)))))))
set_option maxRecDepth 20000 in
theorem tB_X5_alignToReference_35 {g : sx_G} (hG : sx_Go g) {P : Option Value → sv_V → Prop} {Vr : sv_V} (hP : P none Vr) {N : Nat} {k35 : Nat → Nat → Int32 → Int32 → sv_V → Option sv_V} (hk35 : ∀ (l1 : Nat) (l2 : Nat) (l3 : Int32) (l4 : Int32) (V : sv_V), k35 l1 l2 l3 l4 V = some Vr → sv_N g qX5_alignToReference 2 35 [(0, .ref 69), (1, .ref l1), (2, .ref l2), (3, .int l3), (4, .int l4)] [] V P) {l1 : Nat} {l2 : Nat} {l3 : Int32} {l4 : Int32} {V : sv_V} (h : B_X5_alignToReference_35 N k35 l1 l2 l3 l4 V = some Vr) : sv_N g qX5_alignToReference 2 35 [(0, .ref 69), (1, .ref l1), (2, .ref l2), (3, .int l3), (4, .int l4)] [] V P := by
  unfold B_X5_alignToReference_35 at h
  refine sx_iload (pc := 35) dX5_alignToReference_35 sx_m4 ?_
  refine sx_aload_n (pc := 37) dX5_alignToReference_37 sx_m0 ?_
  refine sv_getO (pc := 38) hG dX5_alignToReference_38 f_5_12 lay_69 rfl cr_69_1 ?_
  refine sv_getI (pc := 41) hG dX5_alignToReference_41 f_5_163 lay_70 rfl ?_
  refine sx_icmp_ge (pc := 44) (tgt := 87) dX5_alignToReference_44 (by decide) (fun c1 => ?_) (fun c1 => ?_)
  · have h := sx_pos c1 h
    refine sx_aload_n (pc := 87) dX5_alignToReference_87 sx_m0 ?_
    refine sv_getO (pc := 88) hG dX5_alignToReference_88 f_5_12 lay_69 rfl cr_69_1 ?_
    refine sx_iconst (pc := 91) (v := 1) dX5_alignToReference_91 (by decide) ?_
    obtain ⟨V2, hV2⟩ : ∃ z : sv_V, z = sv_I V 70 8 (1 : Int32) := ⟨_, rfl⟩
    have h := sx_letE hV2 h
    refine sv_putI (pc := 92) hG dX5_alignToReference_92 f_5_163 lay_70 rfl hV2 ?_
    exact sv_vret (pc := 95) dX5_alignToReference_95 rfl h hP
  · have h := sx_neg c1 h
    refine sx_aload_n (pc := 47) dX5_alignToReference_47 sx_m0 ?_
    obtain ⟨⟨x5, V3⟩, g4, h⟩ := sx_bnd h
    refine sv_cV (pc := 48) (y := qX5_pop) (o := (some (.int x5))) (as := []) (V1 := V3) hG dX5_alignToReference_48 l_X5_242 y0X5_pop yvX5_pop rfl (Nat.le_of_ble_eq_true rfl) lay_69 kr_5 (by decide) (Nat.le_of_ble_eq_true rfl) rfl rfl rfl (t_X5_pop hG ⟨rfl, rfl⟩ g4) ?_
    refine sx_istore (pc := 51) (lo' := [(5, .int x5), (0, .ref 69), (1, .ref l1), (2, .ref l2), (3, .int l3), (4, .int l4)]) dX5_alignToReference_51 (by decide) rfl ?_
    refine sx_aload_n (pc := 53) dX5_alignToReference_53 sx_m1 ?_
    refine sx_aload_n (pc := 54) dX5_alignToReference_54 sx_m2 ?_
    refine sx_iload (pc := 55) dX5_alignToReference_55 sx_m0 ?_
    obtain ⟨⟨x8, V6⟩, g7, h⟩ := sx_bnd h
    refine sv_cV (pc := 57) (y := qX5_isThere) (o := (some (.int x8))) (as := [.ref l1, .int x5]) (V1 := V6) hG dX5_alignToReference_57 l_X5_259 y0X5_isThere yvX5_isThere rfl (Nat.le_of_ble_eq_true rfl) lay_69 kr_5 (by decide) (Nat.le_of_ble_eq_true rfl) rfl rfl rfl (t_X5_isThere hG ⟨rfl, rfl⟩ g7) ?_
    refine sx_if_ne (pc := 60) (tgt := 64) dX5_alignToReference_60 (by decide) (fun c9 => ?_) (fun c9 => ?_)
    · have h := sx_neg c9 h
      refine sx_aload_n (pc := 64) dX5_alignToReference_64 sx_m1 ?_
      refine sx_aload_n (pc := 65) dX5_alignToReference_65 sx_m2 ?_
      refine sx_iload (pc := 66) dX5_alignToReference_66 sx_m0 ?_
      refine sx_aload_n (pc := 68) dX5_alignToReference_68 sx_m1 ?_
      refine sx_aload_n (pc := 69) dX5_alignToReference_69 sx_m2 ?_
      refine sx_iload (pc := 70) dX5_alignToReference_70 sx_m0 ?_
      refine sx_aload_n (pc := 72) dX5_alignToReference_72 sx_m3 ?_
      refine sx_iload_n (pc := 73) dX5_alignToReference_73 sx_m4 ?_
      obtain ⟨⟨x12, V10⟩, g11, h⟩ := sx_bnd h
      refine sv_cV (pc := 74) (y := qX5_longBetween) (o := (some (.long x12))) (as := [.ref l1, .int x5, .ref l2, .int l3]) (V1 := V10) hG dX5_alignToReference_74 l_X5_455 y0X5_longBetween yvX5_longBetween rfl (Nat.le_of_ble_eq_true rfl) lay_69 kr_5 (by decide) (Nat.le_of_ble_eq_true rfl) rfl rfl rfl (t_X5_longBetween hG ⟨rfl, rfl⟩ g11) ?_
      refine sx_lneg (pc := 77) dX5_alignToReference_77 ?_
      obtain ⟨V13, g14, h⟩ := sx_bnd h
      refine sv_cV (pc := 78) (y := qX5_move) (o := none) (as := [.ref l1, .int x5, .long (-x12)]) (V1 := V13) hG dX5_alignToReference_78 l_X5_461 y0X5_move yvX5_move rfl (Nat.le_of_ble_eq_true rfl) lay_69 kr_5 (by decide) (Nat.le_of_ble_eq_true rfl) rfl rfl rfl (t_X5_move hG ⟨rfl, rfl⟩ g14) ?_
      obtain ⟨x15, hx15⟩ : ∃ z : Int32, z = l4 + 1 := ⟨_, rfl⟩
      have h := sx_letE hx15 h
      refine sx_iinc (pc := 81) (v := x15) (lo' := [(4, .int x15), (5, .int x5), (0, .ref 69), (1, .ref l1), (2, .ref l2), (3, .int l3)]) dX5_alignToReference_81 sx_m5 (by rw [hx15]; rfl) (by decide) rfl ?_
      refine sx_goto (pc := 84) (tgt := 35) dX5_alignToReference_84 (by decide) ?_
      refine sx_wk (sx_s1 sx_m2 (sx_s1 sx_m3 (sx_s1 sx_m4 (sx_s1 sx_m5 (sx_s1 sx_m0 sx_s0))))) ?_
      exact hk35 _ _ _ _ _ h
    · have h := sx_pos c9 h
      exact sv_vret (pc := 63) dX5_alignToReference_63 rfl h hP
theorem tL_X5_alignToReference_35 {g : sx_G} (hG : sx_Go g) {P : Option Value → sv_V → Prop} {Vr : sv_V} (hP : P none Vr) {N : Nat}   : ∀ (n : Nat) (l1 : Nat) (l2 : Nat) (l3 : Int32) (l4 : Int32) (V : sv_V), sx_lp5 (B_X5_alignToReference_35 N ) n l1 l2 l3 l4 V = some Vr → sv_N g qX5_alignToReference 2 35 [(0, .ref 69), (1, .ref l1), (2, .ref l2), (3, .int l3), (4, .int l4)] [] V P :=
  sx_lp5_ind (fun k0 ih _ _ _ _ V h => tB_X5_alignToReference_35 hG hP ih h)
def F_X5_alignToReference (N : Nat)  (V : sv_V) : Option sv_V := (F_X5_zone (1 : Int32) V).bind (fun (x18, V16) => (F_X5_zone (0 : Int32) V16).bind (fun (x21, V19) => sx_let (V19.1 71 (0 : Int32).toNatClampNeg) (fun x22 => (F_X5_isThere x21 x22 V19).bind (fun (x25, V23) => if x25 = 0 then (some V23) else (sx_lp5 (B_X5_alignToReference_35 N ) N x18 x21 x22 (0 : Int32) V23)))))
set_option maxRecDepth 20000 in
theorem t_X5_alignToReference {g : sx_G} (hG : sx_Go g) {P : Option Value → sv_V → Prop} {Vr : sv_V} (hP : P none Vr) {N : Nat}  {V : sv_V} (h : F_X5_alignToReference N  V = some Vr) : sv_N g qX5_alignToReference 2 0 [(0, .ref 69)] [] V P := by
  unfold F_X5_alignToReference at h
  refine sx_aload_n (pc := 0) dX5_alignToReference_0 sx_m0 ?_
  refine sx_iconst (pc := 1) (v := 1) dX5_alignToReference_1 (by decide) ?_
  obtain ⟨⟨x18, V16⟩, g17, h⟩ := sx_bnd h
  refine sv_cV (pc := 2) (y := qX5_zone) (o := (some (.ref x18))) (as := [.int (1 : Int32)]) (V1 := V16) hG dX5_alignToReference_2 l_X5_255 y0X5_zone yvX5_zone rfl (Nat.le_of_ble_eq_true rfl) lay_69 kr_5 (by decide) (Nat.le_of_ble_eq_true rfl) rfl rfl rfl (t_X5_zone hG ⟨rfl, rfl⟩ g17) ?_
  refine sx_astore_n (pc := 5) (lo' := [(1, .ref x18), (0, .ref 69)]) dX5_alignToReference_5 (by decide) rfl ?_
  refine sx_aload_n (pc := 6) dX5_alignToReference_6 sx_m1 ?_
  refine sx_iconst (pc := 7) (v := 0) dX5_alignToReference_7 (by decide) ?_
  obtain ⟨⟨x21, V19⟩, g20, h⟩ := sx_bnd h
  refine sv_cV (pc := 8) (y := qX5_zone) (o := (some (.ref x21))) (as := [.int (0 : Int32)]) (V1 := V19) hG dX5_alignToReference_8 l_X5_255 y0X5_zone yvX5_zone rfl (Nat.le_of_ble_eq_true rfl) lay_69 kr_5 (by decide) (Nat.le_of_ble_eq_true rfl) rfl rfl rfl (t_X5_zone hG ⟨rfl, rfl⟩ g20) ?_
  refine sx_astore_n (pc := 11) (lo' := [(2, .ref x21), (1, .ref x18), (0, .ref 69)]) dX5_alignToReference_11 (by decide) rfl ?_
  refine sx_aload_n (pc := 12) dX5_alignToReference_12 sx_m2 ?_
  refine sv_getO (pc := 13) hG dX5_alignToReference_13 f_5_12 lay_69 rfl cr_69_1 ?_
  refine sv_getA (pc := 16) hG dX5_alignToReference_16 f_5_275 lay_70 rfl cr_70_6 ?_
  refine sx_iconst (pc := 19) (v := 0) dX5_alignToReference_19 (by decide) ?_
  refine sv_iald (pc := 20) hG dX5_alignToReference_20 lay_71 (by decide) ?_
  refine sv_tI (fun x22 hx22 => ?_)
  have h := sx_letE hx22 h
  refine sx_istore_n (pc := 21) (lo' := [(3, .int x22), (2, .ref x21), (1, .ref x18), (0, .ref 69)]) dX5_alignToReference_21 (by decide) rfl ?_
  refine sx_aload_n (pc := 22) dX5_alignToReference_22 sx_m3 ?_
  refine sx_aload_n (pc := 23) dX5_alignToReference_23 sx_m1 ?_
  refine sx_iload_n (pc := 24) dX5_alignToReference_24 sx_m0 ?_
  obtain ⟨⟨x25, V23⟩, g24, h⟩ := sx_bnd h
  refine sv_cV (pc := 25) (y := qX5_isThere) (o := (some (.int x25))) (as := [.ref x21, .int x22]) (V1 := V23) hG dX5_alignToReference_25 l_X5_259 y0X5_isThere yvX5_isThere rfl (Nat.le_of_ble_eq_true rfl) lay_69 kr_5 (by decide) (Nat.le_of_ble_eq_true rfl) rfl rfl rfl (t_X5_isThere hG ⟨rfl, rfl⟩ g24) ?_
  refine sx_if_ne (pc := 28) (tgt := 32) dX5_alignToReference_28 (by decide) (fun c26 => ?_) (fun c26 => ?_)
  · have h := sx_neg c26 h
    refine sx_iconst (pc := 32) (v := 0) dX5_alignToReference_32 (by decide) ?_
    refine sx_istore (pc := 33) (lo' := [(4, .int (0 : Int32)), (3, .int x22), (2, .ref x21), (1, .ref x18), (0, .ref 69)]) dX5_alignToReference_33 (by decide) rfl ?_
    refine sx_wk (sx_s1 sx_m4 (sx_s1 sx_m3 (sx_s1 sx_m2 (sx_s1 sx_m1 (sx_s1 sx_m0 sx_s0))))) ?_
    exact tL_X5_alignToReference_35 hG hP  N _ _ _ _ _ h
  · have h := sx_pos c26 h
    exact sv_vret (pc := 31) dX5_alignToReference_31 rfl h hP
def ncX5_plant : Nat := 48217960608567891327028920592127535534054492455973712829115242142468322737836519397485721579683915446929930553318003800631593528654039422723356176971616331918991376423385193052531385742379
theorem kcX5_plant : CK cX5_plant ncX5_plant 78 := ⟨by decide +kernel, by decide +kernel⟩
theorem dX5_plant_0 : decode cX5_plant 0 = .ok (.aload_n 1, 1) := dl_o43 kcX5_plant (by decide +kernel)
theorem dX5_plant_1 : decode cX5_plant 1 = .ok (.getfield 204, 3) := dl_o180 kcX5_plant (by decide +kernel)
theorem dX5_plant_4 : decode cX5_plant 4 = .ok (.iload_n 2, 1) := dl_o28 kcX5_plant (by decide +kernel)
theorem dX5_plant_5 : decode cX5_plant 5 = .ok (.iload_n 3, 1) := dl_o29 kcX5_plant (by decide +kernel)
theorem dX5_plant_6 : decode cX5_plant 6 = .ok (.lload 5, 2) := dl_o22 kcX5_plant (by decide +kernel)
theorem dX5_plant_8 : decode cX5_plant 8 = .ok (.aload_n 0, 1) := dl_o42 kcX5_plant (by decide +kernel)
theorem dX5_plant_9 : decode cX5_plant 9 = .ok (.getfield 12, 3) := dl_o180 kcX5_plant (by decide +kernel)
theorem dX5_plant_12 : decode cX5_plant 12 = .ok (.getfield 210, 3) := dl_o180 kcX5_plant (by decide +kernel)
theorem dX5_plant_15 : decode cX5_plant 15 = .ok (.i2l, 1) := dl_o133 kcX5_plant (by decide +kernel)
theorem dX5_plant_16 : decode cX5_plant 16 = .ok (.lmul, 1) := dl_o105 kcX5_plant (by decide +kernel)
theorem dX5_plant_17 : decode cX5_plant 17 = .ok (.ldc2_w 190, 3) := dl_o20 kcX5_plant (by decide +kernel)
theorem dX5_plant_20 : decode cX5_plant 20 = .ok (.invokestatic 75, 3) := dl_o184 kcX5_plant (by decide +kernel)
theorem dX5_plant_23 : decode cX5_plant 23 = .ok (.l2i, 1) := dl_o136 kcX5_plant (by decide +kernel)
theorem dX5_plant_24 : decode cX5_plant 24 = .ok (.iadd, 1) := dl_o96 kcX5_plant (by decide +kernel)
theorem dX5_plant_25 : decode cX5_plant 25 = .ok (.iastore, 1) := dl_o79 kcX5_plant (by decide +kernel)
theorem dX5_plant_26 : decode cX5_plant 26 = .ok (.aload_n 1, 1) := dl_o43 kcX5_plant (by decide +kernel)
theorem dX5_plant_27 : decode cX5_plant 27 = .ok (.getfield 207, 3) := dl_o180 kcX5_plant (by decide +kernel)
theorem dX5_plant_30 : decode cX5_plant 30 = .ok (.iload_n 2, 1) := dl_o28 kcX5_plant (by decide +kernel)
theorem dX5_plant_31 : decode cX5_plant 31 = .ok (.iload 4, 2) := dl_o21 kcX5_plant (by decide +kernel)
theorem dX5_plant_33 : decode cX5_plant 33 = .ok (.lload 5, 2) := dl_o22 kcX5_plant (by decide +kernel)
theorem dX5_plant_35 : decode cX5_plant 35 = .ok (.aload_n 0, 1) := dl_o42 kcX5_plant (by decide +kernel)
theorem dX5_plant_36 : decode cX5_plant 36 = .ok (.getfield 12, 3) := dl_o180 kcX5_plant (by decide +kernel)
theorem dX5_plant_39 : decode cX5_plant 39 = .ok (.getfield 213, 3) := dl_o180 kcX5_plant (by decide +kernel)
theorem dX5_plant_42 : decode cX5_plant 42 = .ok (.i2l, 1) := dl_o133 kcX5_plant (by decide +kernel)
theorem dX5_plant_43 : decode cX5_plant 43 = .ok (.lmul, 1) := dl_o105 kcX5_plant (by decide +kernel)
theorem dX5_plant_44 : decode cX5_plant 44 = .ok (.ldc2_w 190, 3) := dl_o20 kcX5_plant (by decide +kernel)
theorem dX5_plant_47 : decode cX5_plant 47 = .ok (.invokestatic 75, 3) := dl_o184 kcX5_plant (by decide +kernel)
theorem dX5_plant_50 : decode cX5_plant 50 = .ok (.l2i, 1) := dl_o136 kcX5_plant (by decide +kernel)
theorem dX5_plant_51 : decode cX5_plant 51 = .ok (.iadd, 1) := dl_o96 kcX5_plant (by decide +kernel)
theorem dX5_plant_52 : decode cX5_plant 52 = .ok (.iastore, 1) := dl_o79 kcX5_plant (by decide +kernel)
theorem dX5_plant_53 : decode cX5_plant 53 = .ok (.aload_n 1, 1) := dl_o43 kcX5_plant (by decide +kernel)
theorem dX5_plant_54 : decode cX5_plant 54 = .ok (.getfield 198, 3) := dl_o180 kcX5_plant (by decide +kernel)
theorem dX5_plant_57 : decode cX5_plant 57 = .ok (.iload_n 2, 1) := dl_o28 kcX5_plant (by decide +kernel)
theorem dX5_plant_58 : decode cX5_plant 58 = .ok (.aload_n 1, 1) := dl_o43 kcX5_plant (by decide +kernel)
theorem dX5_plant_59 : decode cX5_plant 59 = .ok (.getfield 204, 3) := dl_o180 kcX5_plant (by decide +kernel)
theorem dX5_plant_62 : decode cX5_plant 62 = .ok (.iload_n 2, 1) := dl_o28 kcX5_plant (by decide +kernel)
theorem dX5_plant_63 : decode cX5_plant 63 = .ok (.iaload, 1) := dl_o46 kcX5_plant (by decide +kernel)
theorem dX5_plant_64 : decode cX5_plant 64 = .ok (.iastore, 1) := dl_o79 kcX5_plant (by decide +kernel)
theorem dX5_plant_65 : decode cX5_plant 65 = .ok (.aload_n 1, 1) := dl_o43 kcX5_plant (by decide +kernel)
theorem dX5_plant_66 : decode cX5_plant 66 = .ok (.getfield 201, 3) := dl_o180 kcX5_plant (by decide +kernel)
theorem dX5_plant_69 : decode cX5_plant 69 = .ok (.iload_n 2, 1) := dl_o28 kcX5_plant (by decide +kernel)
theorem dX5_plant_70 : decode cX5_plant 70 = .ok (.aload_n 1, 1) := dl_o43 kcX5_plant (by decide +kernel)
theorem dX5_plant_71 : decode cX5_plant 71 = .ok (.getfield 207, 3) := dl_o180 kcX5_plant (by decide +kernel)
theorem dX5_plant_74 : decode cX5_plant 74 = .ok (.iload_n 2, 1) := dl_o28 kcX5_plant (by decide +kernel)
theorem dX5_plant_75 : decode cX5_plant 75 = .ok (.iaload, 1) := dl_o46 kcX5_plant (by decide +kernel)
theorem dX5_plant_76 : decode cX5_plant 76 = .ok (.iastore, 1) := dl_o79 kcX5_plant (by decide +kernel)
theorem dX5_plant_77 : decode cX5_plant 77 = .ok (.return_, 1) := dl_o177 kcX5_plant (by decide +kernel)
def F_X5_plant (l1 : Nat) (l2 : Int32) (l3 : Int32) (l4 : Int32) (l5 : Int64) (V : sv_V) : Option sv_V := if lay l1 = .inl 8 then (cr l1 2).bind (fun b2 => (F_X11_nearest (l5 * ((V.1 70 0).toInt64)) (16384 : Int64) V).bind (fun (x6, V4) => (sv_len 0 b2).bind (fun n7 => if sx_in l2 n7 = true then sx_let (sv_I V4 b2 l2.toNatClampNeg (l3 + x6.toInt32)) (fun V10 => (cr l1 3).bind (fun b11 => (F_X11_nearest (l5 * ((V10.1 70 1).toInt64)) (16384 : Int64) V10).bind (fun (x15, V13) => (sv_len 0 b11).bind (fun n16 => if sx_in l2 n16 = true then sx_let (sv_I V13 b11 l2.toNatClampNeg (l4 + x15.toInt32)) (fun V19 => (cr l1 0).bind (fun b20 => if sx_in l2 n7 = true then (sv_len 0 b20).bind (fun n23 => if sx_in l2 n23 = true then sx_let (sv_I V19 b20 l2.toNatClampNeg (V19.1 b2 l2.toNatClampNeg)) (fun V26 => (cr l1 1).bind (fun b27 => if sx_in l2 n16 = true then (sv_len 0 b27).bind (fun n30 => if sx_in l2 n30 = true then sx_let (sv_I V26 b27 l2.toNatClampNeg (V26.1 b11 l2.toNatClampNeg)) (fun V33 => some V33) else none) else none)) else none) else none)) else none)))) else none))) else none
set_option maxRecDepth 20000 in
theorem t_X5_plant {g : sx_G} (hG : sx_Go g) {P : Option Value → sv_V → Prop} {Vr : sv_V} (hP : P none Vr) {l1 : Nat} {l2 : Int32} {l3 : Int32} {l4 : Int32} {l5 : Int64} {V : sv_V} (h : F_X5_plant l1 l2 l3 l4 l5 V = some Vr) : sv_N g qX5_plant 1 0 [(0, .ref 69), (1, .ref l1), (2, .int l2), (3, .int l3), (4, .int l4), (5, .long l5)] [] V P := by
  unfold F_X5_plant at h
  refine sx_aload_n (pc := 0) dX5_plant_0 sx_m1 ?_
  obtain ⟨g1, h⟩ := sx_grd h
  obtain ⟨b2, g3, h⟩ := sx_bnd h
  refine sv_getA (pc := 1) hG dX5_plant_1 f_5_204 g1 rfl g3 ?_
  refine sx_iload_n (pc := 4) dX5_plant_4 sx_m2 ?_
  refine sx_iload_n (pc := 5) dX5_plant_5 sx_m3 ?_
  refine sx_lload (pc := 6) dX5_plant_6 sx_m5 ?_
  refine sx_aload_n (pc := 8) dX5_plant_8 sx_m0 ?_
  refine sv_getO (pc := 9) hG dX5_plant_9 f_5_12 lay_69 rfl cr_69_1 ?_
  refine sv_getI (pc := 12) hG dX5_plant_12 f_5_210 lay_70 rfl ?_
  refine sx_i2l (pc := 15) dX5_plant_15 ?_
  refine sx_lmul (pc := 16) dX5_plant_16 ?_
  refine sx_ldc2 (pc := 17) dX5_plant_17 k_X5_190 ?_
  obtain ⟨⟨x6, V4⟩, g5, h⟩ := sx_bnd h
  refine sv_cN (pc := 20) (y := qX11_nearest) (o := (some (.long x6))) (as := [.long (l5 * ((V.1 70 0).toInt64)), .long (16384 : Int64)]) (V1 := V4) dX5_plant_20 n_X5_75 y0X11_nearest ysX11_nearest rfl (Nat.le_of_ble_eq_true rfl) (by decide) (Nat.le_of_ble_eq_true rfl) rfl rfl rfl (t_X11_nearest hG ⟨rfl, rfl⟩ g5) ?_
  refine sx_l2i (pc := 23) dX5_plant_23 ?_
  refine sx_iadd (pc := 24) dX5_plant_24 ?_
  obtain ⟨n7, g8, h⟩ := sx_bnd h
  obtain ⟨g9, h⟩ := sx_grd h
  obtain ⟨V10, hV10⟩ : ∃ z : sv_V, z = sv_I V4 b2 l2.toNatClampNeg (l3 + x6.toInt32) := ⟨_, rfl⟩
  have h := sx_letE hV10 h
  refine sv_iast (pc := 25) hG dX5_plant_25 (sv_len_e g8) g9 hV10 ?_
  refine sx_aload_n (pc := 26) dX5_plant_26 sx_m1 ?_
  obtain ⟨b11, g12, h⟩ := sx_bnd h
  refine sv_getA (pc := 27) hG dX5_plant_27 f_5_207 g1 rfl g12 ?_
  refine sx_iload_n (pc := 30) dX5_plant_30 sx_m2 ?_
  refine sx_iload (pc := 31) dX5_plant_31 sx_m4 ?_
  refine sx_lload (pc := 33) dX5_plant_33 sx_m5 ?_
  refine sx_aload_n (pc := 35) dX5_plant_35 sx_m0 ?_
  refine sv_getO (pc := 36) hG dX5_plant_36 f_5_12 lay_69 rfl cr_69_1 ?_
  refine sv_getI (pc := 39) hG dX5_plant_39 f_5_213 lay_70 rfl ?_
  refine sx_i2l (pc := 42) dX5_plant_42 ?_
  refine sx_lmul (pc := 43) dX5_plant_43 ?_
  refine sx_ldc2 (pc := 44) dX5_plant_44 k_X5_190 ?_
  obtain ⟨⟨x15, V13⟩, g14, h⟩ := sx_bnd h
  refine sv_cN (pc := 47) (y := qX11_nearest) (o := (some (.long x15))) (as := [.long (l5 * ((V10.1 70 1).toInt64)), .long (16384 : Int64)]) (V1 := V13) dX5_plant_47 n_X5_75 y0X11_nearest ysX11_nearest rfl (Nat.le_of_ble_eq_true rfl) (by decide) (Nat.le_of_ble_eq_true rfl) rfl rfl rfl (t_X11_nearest hG ⟨rfl, rfl⟩ g14) ?_
  refine sx_l2i (pc := 50) dX5_plant_50 ?_
  refine sx_iadd (pc := 51) dX5_plant_51 ?_
  obtain ⟨n16, g17, h⟩ := sx_bnd h
  obtain ⟨g18, h⟩ := sx_grd h
  obtain ⟨V19, hV19⟩ : ∃ z : sv_V, z = sv_I V13 b11 l2.toNatClampNeg (l4 + x15.toInt32) := ⟨_, rfl⟩
  have h := sx_letE hV19 h
  refine sv_iast (pc := 52) hG dX5_plant_52 (sv_len_e g17) g18 hV19 ?_
  refine sx_aload_n (pc := 53) dX5_plant_53 sx_m1 ?_
  obtain ⟨b20, g21, h⟩ := sx_bnd h
  refine sv_getA (pc := 54) hG dX5_plant_54 f_5_198 g1 rfl g21 ?_
  refine sx_iload_n (pc := 57) dX5_plant_57 sx_m2 ?_
  refine sx_aload_n (pc := 58) dX5_plant_58 sx_m1 ?_
  refine sv_getA (pc := 59) hG dX5_plant_59 f_5_204 g1 rfl g3 ?_
  refine sx_iload_n (pc := 62) dX5_plant_62 sx_m2 ?_
  obtain ⟨g22, h⟩ := sx_grd h
  refine sv_iald (pc := 63) hG dX5_plant_63 (sv_len_e g8) g22 ?_
  obtain ⟨n23, g24, h⟩ := sx_bnd h
  obtain ⟨g25, h⟩ := sx_grd h
  obtain ⟨V26, hV26⟩ : ∃ z : sv_V, z = sv_I V19 b20 l2.toNatClampNeg (V19.1 b2 l2.toNatClampNeg) := ⟨_, rfl⟩
  have h := sx_letE hV26 h
  refine sv_iast (pc := 64) hG dX5_plant_64 (sv_len_e g24) g25 hV26 ?_
  refine sx_aload_n (pc := 65) dX5_plant_65 sx_m1 ?_
  obtain ⟨b27, g28, h⟩ := sx_bnd h
  refine sv_getA (pc := 66) hG dX5_plant_66 f_5_201 g1 rfl g28 ?_
  refine sx_iload_n (pc := 69) dX5_plant_69 sx_m2 ?_
  refine sx_aload_n (pc := 70) dX5_plant_70 sx_m1 ?_
  refine sv_getA (pc := 71) hG dX5_plant_71 f_5_207 g1 rfl g12 ?_
  refine sx_iload_n (pc := 74) dX5_plant_74 sx_m2 ?_
  obtain ⟨g29, h⟩ := sx_grd h
  refine sv_iald (pc := 75) hG dX5_plant_75 (sv_len_e g17) g29 ?_
  obtain ⟨n30, g31, h⟩ := sx_bnd h
  obtain ⟨g32, h⟩ := sx_grd h
  obtain ⟨V33, hV33⟩ : ∃ z : sv_V, z = sv_I V26 b27 l2.toNatClampNeg (V26.1 b11 l2.toNatClampNeg) := ⟨_, rfl⟩
  have h := sx_letE hV33 h
  refine sv_iast (pc := 76) hG dX5_plant_76 (sv_len_e g31) g32 hV33 ?_
  exact sv_vret (pc := 77) dX5_plant_77 rfl h hP
def ncX5_moveFromReference : Nat := 534096377367900166266107966242026496924028853253177381809235741163015377319466097708666768153988514749189974554995970739382089701673842890496692533827959180046223331771638958546228294955506844401485889262544363552392317676734692420937984106423718472340133129535544859596402611643006493023246299098656893621349782697514
theorem kcX5_moveFromReference : CK cX5_moveFromReference ncX5_moveFromReference 132 := ⟨by decide +kernel, by decide +kernel⟩
theorem dX5_moveFromReference_0 : decode cX5_moveFromReference 0 = .ok (.aload_n 0, 1) := dl_o42 kcX5_moveFromReference (by decide +kernel)
theorem dX5_moveFromReference_1 : decode cX5_moveFromReference 1 = .ok (.invokevirtual 242, 3) := dl_o182 kcX5_moveFromReference (by decide +kernel)
theorem dX5_moveFromReference_4 : decode cX5_moveFromReference 4 = .ok (.istore_n 2, 1) := dl_o61 kcX5_moveFromReference (by decide +kernel)
theorem dX5_moveFromReference_5 : decode cX5_moveFromReference 5 = .ok (.aload_n 0, 1) := dl_o42 kcX5_moveFromReference (by decide +kernel)
theorem dX5_moveFromReference_6 : decode cX5_moveFromReference 6 = .ok (.invokevirtual 242, 3) := dl_o182 kcX5_moveFromReference (by decide +kernel)
theorem dX5_moveFromReference_9 : decode cX5_moveFromReference 9 = .ok (.istore_n 3, 1) := dl_o62 kcX5_moveFromReference (by decide +kernel)
theorem dX5_moveFromReference_10 : decode cX5_moveFromReference 10 = .ok (.aload_n 0, 1) := dl_o42 kcX5_moveFromReference (by decide +kernel)
theorem dX5_moveFromReference_11 : decode cX5_moveFromReference 11 = .ok (.iconst 1, 1) := dl_o4 kcX5_moveFromReference (by decide +kernel)
theorem dX5_moveFromReference_12 : decode cX5_moveFromReference 12 = .ok (.invokevirtual 255, 3) := dl_o182 kcX5_moveFromReference (by decide +kernel)
theorem dX5_moveFromReference_15 : decode cX5_moveFromReference 15 = .ok (.astore 4, 2) := dl_o58 kcX5_moveFromReference (by decide +kernel)
theorem dX5_moveFromReference_17 : decode cX5_moveFromReference 17 = .ok (.aload_n 0, 1) := dl_o42 kcX5_moveFromReference (by decide +kernel)
theorem dX5_moveFromReference_18 : decode cX5_moveFromReference 18 = .ok (.iconst 0, 1) := dl_o3 kcX5_moveFromReference (by decide +kernel)
theorem dX5_moveFromReference_19 : decode cX5_moveFromReference 19 = .ok (.invokevirtual 255, 3) := dl_o182 kcX5_moveFromReference (by decide +kernel)
theorem dX5_moveFromReference_22 : decode cX5_moveFromReference 22 = .ok (.astore 5, 2) := dl_o58 kcX5_moveFromReference (by decide +kernel)
theorem dX5_moveFromReference_24 : decode cX5_moveFromReference 24 = .ok (.aload_n 0, 1) := dl_o42 kcX5_moveFromReference (by decide +kernel)
theorem dX5_moveFromReference_25 : decode cX5_moveFromReference 25 = .ok (.getfield 12, 3) := dl_o180 kcX5_moveFromReference (by decide +kernel)
theorem dX5_moveFromReference_28 : decode cX5_moveFromReference 28 = .ok (.getfield 275, 3) := dl_o180 kcX5_moveFromReference (by decide +kernel)
theorem dX5_moveFromReference_31 : decode cX5_moveFromReference 31 = .ok (.iconst 0, 1) := dl_o3 kcX5_moveFromReference (by decide +kernel)
theorem dX5_moveFromReference_32 : decode cX5_moveFromReference 32 = .ok (.iaload, 1) := dl_o46 kcX5_moveFromReference (by decide +kernel)
theorem dX5_moveFromReference_33 : decode cX5_moveFromReference 33 = .ok (.istore 6, 2) := dl_o54 kcX5_moveFromReference (by decide +kernel)
theorem dX5_moveFromReference_35 : decode cX5_moveFromReference 35 = .ok (.aload_n 0, 1) := dl_o42 kcX5_moveFromReference (by decide +kernel)
theorem dX5_moveFromReference_36 : decode cX5_moveFromReference 36 = .ok (.aload 4, 2) := dl_o25 kcX5_moveFromReference (by decide +kernel)
theorem dX5_moveFromReference_38 : decode cX5_moveFromReference 38 = .ok (.iload_n 3, 1) := dl_o29 kcX5_moveFromReference (by decide +kernel)
theorem dX5_moveFromReference_39 : decode cX5_moveFromReference 39 = .ok (.invokevirtual 259, 3) := dl_o182 kcX5_moveFromReference (by decide +kernel)
theorem dX5_moveFromReference_42 : decode cX5_moveFromReference 42 = .ok (.ifCond .eq 14, 3) := dl_o153 kcX5_moveFromReference 14 (by decide +kernel) (by decide +kernel)
theorem dX5_moveFromReference_45 : decode cX5_moveFromReference 45 = .ok (.aload_n 0, 1) := dl_o42 kcX5_moveFromReference (by decide +kernel)
theorem dX5_moveFromReference_46 : decode cX5_moveFromReference 46 = .ok (.aload 5, 2) := dl_o25 kcX5_moveFromReference (by decide +kernel)
theorem dX5_moveFromReference_48 : decode cX5_moveFromReference 48 = .ok (.iload 6, 2) := dl_o21 kcX5_moveFromReference (by decide +kernel)
theorem dX5_moveFromReference_50 : decode cX5_moveFromReference 50 = .ok (.invokevirtual 259, 3) := dl_o182 kcX5_moveFromReference (by decide +kernel)
theorem dX5_moveFromReference_53 : decode cX5_moveFromReference 53 = .ok (.ifCond .ne 4, 3) := dl_o154 kcX5_moveFromReference 4 (by decide +kernel) (by decide +kernel)
theorem dX5_moveFromReference_56 : decode cX5_moveFromReference 56 = .ok (.return_, 1) := dl_o177 kcX5_moveFromReference (by decide +kernel)
theorem dX5_moveFromReference_57 : decode cX5_moveFromReference 57 = .ok (.aload_n 0, 1) := dl_o42 kcX5_moveFromReference (by decide +kernel)
theorem dX5_moveFromReference_58 : decode cX5_moveFromReference 58 = .ok (.getfield 12, 3) := dl_o180 kcX5_moveFromReference (by decide +kernel)
theorem dX5_moveFromReference_61 : decode cX5_moveFromReference 61 = .ok (.getfield 172, 3) := dl_o180 kcX5_moveFromReference (by decide +kernel)
theorem dX5_moveFromReference_64 : decode cX5_moveFromReference 64 = .ok (.iconst 1, 1) := dl_o4 kcX5_moveFromReference (by decide +kernel)
theorem dX5_moveFromReference_65 : decode cX5_moveFromReference 65 = .ok (.iaload, 1) := dl_o46 kcX5_moveFromReference (by decide +kernel)
theorem dX5_moveFromReference_66 : decode cX5_moveFromReference 66 = .ok (.ifCond .ne 28, 3) := dl_o154 kcX5_moveFromReference 28 (by decide +kernel) (by decide +kernel)
theorem dX5_moveFromReference_69 : decode cX5_moveFromReference 69 = .ok (.aload_n 0, 1) := dl_o42 kcX5_moveFromReference (by decide +kernel)
theorem dX5_moveFromReference_70 : decode cX5_moveFromReference 70 = .ok (.aload 4, 2) := dl_o25 kcX5_moveFromReference (by decide +kernel)
theorem dX5_moveFromReference_72 : decode cX5_moveFromReference 72 = .ok (.iload_n 3, 1) := dl_o29 kcX5_moveFromReference (by decide +kernel)
theorem dX5_moveFromReference_73 : decode cX5_moveFromReference 73 = .ok (.aload 5, 2) := dl_o25 kcX5_moveFromReference (by decide +kernel)
theorem dX5_moveFromReference_75 : decode cX5_moveFromReference 75 = .ok (.getfield 204, 3) := dl_o180 kcX5_moveFromReference (by decide +kernel)
theorem dX5_moveFromReference_78 : decode cX5_moveFromReference 78 = .ok (.iload 6, 2) := dl_o21 kcX5_moveFromReference (by decide +kernel)
theorem dX5_moveFromReference_80 : decode cX5_moveFromReference 80 = .ok (.iaload, 1) := dl_o46 kcX5_moveFromReference (by decide +kernel)
theorem dX5_moveFromReference_81 : decode cX5_moveFromReference 81 = .ok (.aload 5, 2) := dl_o25 kcX5_moveFromReference (by decide +kernel)
theorem dX5_moveFromReference_83 : decode cX5_moveFromReference 83 = .ok (.getfield 207, 3) := dl_o180 kcX5_moveFromReference (by decide +kernel)
theorem dX5_moveFromReference_86 : decode cX5_moveFromReference 86 = .ok (.iload 6, 2) := dl_o21 kcX5_moveFromReference (by decide +kernel)
theorem dX5_moveFromReference_88 : decode cX5_moveFromReference 88 = .ok (.iaload, 1) := dl_o46 kcX5_moveFromReference (by decide +kernel)
theorem dX5_moveFromReference_89 : decode cX5_moveFromReference 89 = .ok (.iload_n 2, 1) := dl_o28 kcX5_moveFromReference (by decide +kernel)
theorem dX5_moveFromReference_90 : decode cX5_moveFromReference 90 = .ok (.i2l, 1) := dl_o133 kcX5_moveFromReference (by decide +kernel)
theorem dX5_moveFromReference_91 : decode cX5_moveFromReference 91 = .ok (.invokevirtual 530, 3) := dl_o182 kcX5_moveFromReference (by decide +kernel)
theorem dX5_moveFromReference_94 : decode cX5_moveFromReference 94 = .ok (.aload_n 0, 1) := dl_o42 kcX5_moveFromReference (by decide +kernel)
theorem dX5_moveFromReference_95 : decode cX5_moveFromReference 95 = .ok (.aload 4, 2) := dl_o25 kcX5_moveFromReference (by decide +kernel)
theorem dX5_moveFromReference_97 : decode cX5_moveFromReference 97 = .ok (.iload_n 3, 1) := dl_o29 kcX5_moveFromReference (by decide +kernel)
theorem dX5_moveFromReference_98 : decode cX5_moveFromReference 98 = .ok (.iload_n 2, 1) := dl_o28 kcX5_moveFromReference (by decide +kernel)
theorem dX5_moveFromReference_99 : decode cX5_moveFromReference 99 = .ok (.i2l, 1) := dl_o133 kcX5_moveFromReference (by decide +kernel)
theorem dX5_moveFromReference_100 : decode cX5_moveFromReference 100 = .ok (.aload_n 0, 1) := dl_o42 kcX5_moveFromReference (by decide +kernel)
theorem dX5_moveFromReference_101 : decode cX5_moveFromReference 101 = .ok (.aload 4, 2) := dl_o25 kcX5_moveFromReference (by decide +kernel)
theorem dX5_moveFromReference_103 : decode cX5_moveFromReference 103 = .ok (.iload_n 3, 1) := dl_o29 kcX5_moveFromReference (by decide +kernel)
theorem dX5_moveFromReference_104 : decode cX5_moveFromReference 104 = .ok (.aload 5, 2) := dl_o25 kcX5_moveFromReference (by decide +kernel)
theorem dX5_moveFromReference_106 : decode cX5_moveFromReference 106 = .ok (.iload 6, 2) := dl_o21 kcX5_moveFromReference (by decide +kernel)
theorem dX5_moveFromReference_108 : decode cX5_moveFromReference 108 = .ok (.invokevirtual 455, 3) := dl_o182 kcX5_moveFromReference (by decide +kernel)
theorem dX5_moveFromReference_111 : decode cX5_moveFromReference 111 = .ok (.lsub, 1) := dl_o101 kcX5_moveFromReference (by decide +kernel)
theorem dX5_moveFromReference_112 : decode cX5_moveFromReference 112 = .ok (.invokevirtual 461, 3) := dl_o182 kcX5_moveFromReference (by decide +kernel)
theorem dX5_moveFromReference_115 : decode cX5_moveFromReference 115 = .ok (.aload_n 0, 1) := dl_o42 kcX5_moveFromReference (by decide +kernel)
theorem dX5_moveFromReference_116 : decode cX5_moveFromReference 116 = .ok (.iload_n 3, 1) := dl_o29 kcX5_moveFromReference (by decide +kernel)
theorem dX5_moveFromReference_117 : decode cX5_moveFromReference 117 = .ok (.iload_n 1, 1) := dl_o27 kcX5_moveFromReference (by decide +kernel)
theorem dX5_moveFromReference_118 : decode cX5_moveFromReference 118 = .ok (.bipush 59, 2) := dl_o16 kcX5_moveFromReference 59 (by decide +kernel) (by decide +kernel)
theorem dX5_moveFromReference_120 : decode cX5_moveFromReference 120 = .ok (.if_icmp .ne 7, 3) := dl_o160 kcX5_moveFromReference 7 (by decide +kernel) (by decide +kernel)
theorem dX5_moveFromReference_123 : decode cX5_moveFromReference 123 = .ok (.iconst 1, 1) := dl_o4 kcX5_moveFromReference (by decide +kernel)
theorem dX5_moveFromReference_124 : decode cX5_moveFromReference 124 = .ok (.goto 4, 3) := dl_o167 kcX5_moveFromReference 4 (by decide +kernel) (by decide +kernel)
theorem dX5_moveFromReference_127 : decode cX5_moveFromReference 127 = .ok (.iconst 0, 1) := dl_o3 kcX5_moveFromReference (by decide +kernel)
theorem dX5_moveFromReference_128 : decode cX5_moveFromReference 128 = .ok (.invokevirtual 534, 3) := dl_o182 kcX5_moveFromReference (by decide +kernel)
theorem dX5_moveFromReference_131 : decode cX5_moveFromReference 131 = .ok (.return_, 1) := dl_o177 kcX5_moveFromReference (by decide +kernel)
def B_X5_moveFromReference_128  (s1 : Int32) (s2 : Int32) (V : sv_V) : Option sv_V := (F_X5_noteReferences s1 s2 V).bind (fun V1 => some V1)
set_option maxRecDepth 20000 in
theorem tB_X5_moveFromReference_128 {g : sx_G} (hG : sx_Go g) {P : Option Value → sv_V → Prop} {Vr : sv_V} (hP : P none Vr)   {s1 : Int32} {s2 : Int32} {V : sv_V} (h : B_X5_moveFromReference_128  s1 s2 V = some Vr) : sv_N g qX5_moveFromReference 2 128 [] [.int s2, .int s1, .ref 69] V P := by
  unfold B_X5_moveFromReference_128 at h
  obtain ⟨V1, g2, h⟩ := sx_bnd h
  refine sv_cV (pc := 128) (y := qX5_noteReferences) (o := none) (as := [.int s1, .int s2]) (V1 := V1) hG dX5_moveFromReference_128 l_X5_534 y0X5_noteReferences yvX5_noteReferences rfl (Nat.le_of_ble_eq_true rfl) lay_69 kr_5 (by decide) (Nat.le_of_ble_eq_true rfl) rfl rfl rfl (t_X5_noteReferences hG ⟨rfl, rfl⟩ g2) ?_
  exact sv_vret (pc := 131) dX5_moveFromReference_131 rfl h hP
def B_X5_moveFromReference_94  (l1 : Int32) (l2 : Int32) (l3 : Int32) (l4 : Nat) (l5 : Nat) (l6 : Int32) (V : sv_V) : Option sv_V := (F_X5_longBetween l4 l3 l5 l6 V).bind (fun (x5, V3) => (F_X5_move l4 l3 (l2.toInt64 - x5) V3).bind (fun V6 => if l1 = (59 : Int32) then (B_X5_moveFromReference_128  l3 (1 : Int32) V6) else (B_X5_moveFromReference_128  l3 (0 : Int32) V6)))
set_option maxRecDepth 20000 in
theorem tB_X5_moveFromReference_94 {g : sx_G} (hG : sx_Go g) {P : Option Value → sv_V → Prop} {Vr : sv_V} (hP : P none Vr)   {l1 : Int32} {l2 : Int32} {l3 : Int32} {l4 : Nat} {l5 : Nat} {l6 : Int32} {V : sv_V} (h : B_X5_moveFromReference_94  l1 l2 l3 l4 l5 l6 V = some Vr) : sv_N g qX5_moveFromReference 2 94 [(0, .ref 69), (1, .int l1), (2, .int l2), (3, .int l3), (4, .ref l4), (5, .ref l5), (6, .int l6)] [] V P := by
  unfold B_X5_moveFromReference_94 at h
  refine sx_aload_n (pc := 94) dX5_moveFromReference_94 sx_m0 ?_
  refine sx_aload (pc := 95) dX5_moveFromReference_95 sx_m4 ?_
  refine sx_iload_n (pc := 97) dX5_moveFromReference_97 sx_m3 ?_
  refine sx_iload_n (pc := 98) dX5_moveFromReference_98 sx_m2 ?_
  refine sx_i2l (pc := 99) dX5_moveFromReference_99 ?_
  refine sx_aload_n (pc := 100) dX5_moveFromReference_100 sx_m0 ?_
  refine sx_aload (pc := 101) dX5_moveFromReference_101 sx_m4 ?_
  refine sx_iload_n (pc := 103) dX5_moveFromReference_103 sx_m3 ?_
  refine sx_aload (pc := 104) dX5_moveFromReference_104 sx_m5 ?_
  refine sx_iload (pc := 106) dX5_moveFromReference_106 sx_m6 ?_
  obtain ⟨⟨x5, V3⟩, g4, h⟩ := sx_bnd h
  refine sv_cV (pc := 108) (y := qX5_longBetween) (o := (some (.long x5))) (as := [.ref l4, .int l3, .ref l5, .int l6]) (V1 := V3) hG dX5_moveFromReference_108 l_X5_455 y0X5_longBetween yvX5_longBetween rfl (Nat.le_of_ble_eq_true rfl) lay_69 kr_5 (by decide) (Nat.le_of_ble_eq_true rfl) rfl rfl rfl (t_X5_longBetween hG ⟨rfl, rfl⟩ g4) ?_
  refine sx_lsub (pc := 111) dX5_moveFromReference_111 ?_
  obtain ⟨V6, g7, h⟩ := sx_bnd h
  refine sv_cV (pc := 112) (y := qX5_move) (o := none) (as := [.ref l4, .int l3, .long (l2.toInt64 - x5)]) (V1 := V6) hG dX5_moveFromReference_112 l_X5_461 y0X5_move yvX5_move rfl (Nat.le_of_ble_eq_true rfl) lay_69 kr_5 (by decide) (Nat.le_of_ble_eq_true rfl) rfl rfl rfl (t_X5_move hG ⟨rfl, rfl⟩ g7) ?_
  refine sx_aload_n (pc := 115) dX5_moveFromReference_115 sx_m0 ?_
  refine sx_iload_n (pc := 116) dX5_moveFromReference_116 sx_m3 ?_
  refine sx_iload_n (pc := 117) dX5_moveFromReference_117 sx_m1 ?_
  refine sx_bipush (pc := 118) (v := 59) dX5_moveFromReference_118 (by decide) ?_
  refine sx_icmp_ne (pc := 120) (tgt := 127) dX5_moveFromReference_120 (by decide) (fun c8 => ?_) (fun c8 => ?_)
  · have h := sx_neg c8 h
    refine sx_iconst (pc := 127) (v := 0) dX5_moveFromReference_127 (by decide) ?_
    refine sx_wk sx_s0 ?_
    exact tB_X5_moveFromReference_128 hG hP  h
  · have h := sx_pos c8 h
    refine sx_iconst (pc := 123) (v := 1) dX5_moveFromReference_123 (by decide) ?_
    refine sx_goto (pc := 124) (tgt := 128) dX5_moveFromReference_124 (by decide) ?_
    refine sx_wk sx_s0 ?_
    exact tB_X5_moveFromReference_128 hG hP  h
def F_X5_moveFromReference (l1 : Int32) (V : sv_V) : Option sv_V := (F_X5_pop  V).bind (fun (x11, V9) => (F_X5_pop  V9).bind (fun (x14, V12) => (F_X5_zone (1 : Int32) V12).bind (fun (x17, V15) => (F_X5_zone (0 : Int32) V15).bind (fun (x20, V18) => sx_let (V18.1 71 (0 : Int32).toNatClampNeg) (fun x21 => (F_X5_isThere x17 x14 V18).bind (fun (x24, V22) => if x24 = 0 then (some V22) else ((F_X5_isThere x20 x21 V22).bind (fun (x28, V26) => if x28 = 0 then (some V26) else (if (V26.1 72 (1 : Int32).toNatClampNeg) = 0 then (if lay x20 = .inl 8 then (cr x20 2).bind (fun b32 => (sv_len 0 b32).bind (fun n34 => if sx_in x21 n34 = true then (cr x20 3).bind (fun b37 => (sv_len 0 b37).bind (fun n39 => if sx_in x21 n39 = true then (F_X5_plant x17 x14 (V26.1 b32 x21.toNatClampNeg) (V26.1 b37 x21.toNatClampNeg) x11.toInt64 V26).bind (fun V42 => B_X5_moveFromReference_94  l1 x11 x14 x17 x20 x21 V42) else none)) else none)) else none) else (B_X5_moveFromReference_94  l1 x11 x14 x17 x20 x21 V26))))))))))
set_option maxRecDepth 20000 in
theorem t_X5_moveFromReference {g : sx_G} (hG : sx_Go g) {P : Option Value → sv_V → Prop} {Vr : sv_V} (hP : P none Vr) {l1 : Int32} {V : sv_V} (h : F_X5_moveFromReference l1 V = some Vr) : sv_N g qX5_moveFromReference 2 0 [(0, .ref 69), (1, .int l1)] [] V P := by
  unfold F_X5_moveFromReference at h
  refine sx_aload_n (pc := 0) dX5_moveFromReference_0 sx_m0 ?_
  obtain ⟨⟨x11, V9⟩, g10, h⟩ := sx_bnd h
  refine sv_cV (pc := 1) (y := qX5_pop) (o := (some (.int x11))) (as := []) (V1 := V9) hG dX5_moveFromReference_1 l_X5_242 y0X5_pop yvX5_pop rfl (Nat.le_of_ble_eq_true rfl) lay_69 kr_5 (by decide) (Nat.le_of_ble_eq_true rfl) rfl rfl rfl (t_X5_pop hG ⟨rfl, rfl⟩ g10) ?_
  refine sx_istore_n (pc := 4) (lo' := [(2, .int x11), (0, .ref 69), (1, .int l1)]) dX5_moveFromReference_4 (by decide) rfl ?_
  refine sx_aload_n (pc := 5) dX5_moveFromReference_5 sx_m1 ?_
  obtain ⟨⟨x14, V12⟩, g13, h⟩ := sx_bnd h
  refine sv_cV (pc := 6) (y := qX5_pop) (o := (some (.int x14))) (as := []) (V1 := V12) hG dX5_moveFromReference_6 l_X5_242 y0X5_pop yvX5_pop rfl (Nat.le_of_ble_eq_true rfl) lay_69 kr_5 (by decide) (Nat.le_of_ble_eq_true rfl) rfl rfl rfl (t_X5_pop hG ⟨rfl, rfl⟩ g13) ?_
  refine sx_istore_n (pc := 9) (lo' := [(3, .int x14), (2, .int x11), (0, .ref 69), (1, .int l1)]) dX5_moveFromReference_9 (by decide) rfl ?_
  refine sx_aload_n (pc := 10) dX5_moveFromReference_10 sx_m2 ?_
  refine sx_iconst (pc := 11) (v := 1) dX5_moveFromReference_11 (by decide) ?_
  obtain ⟨⟨x17, V15⟩, g16, h⟩ := sx_bnd h
  refine sv_cV (pc := 12) (y := qX5_zone) (o := (some (.ref x17))) (as := [.int (1 : Int32)]) (V1 := V15) hG dX5_moveFromReference_12 l_X5_255 y0X5_zone yvX5_zone rfl (Nat.le_of_ble_eq_true rfl) lay_69 kr_5 (by decide) (Nat.le_of_ble_eq_true rfl) rfl rfl rfl (t_X5_zone hG ⟨rfl, rfl⟩ g16) ?_
  refine sx_astore (pc := 15) (lo' := [(4, .ref x17), (3, .int x14), (2, .int x11), (0, .ref 69), (1, .int l1)]) dX5_moveFromReference_15 (by decide) rfl ?_
  refine sx_aload_n (pc := 17) dX5_moveFromReference_17 sx_m3 ?_
  refine sx_iconst (pc := 18) (v := 0) dX5_moveFromReference_18 (by decide) ?_
  obtain ⟨⟨x20, V18⟩, g19, h⟩ := sx_bnd h
  refine sv_cV (pc := 19) (y := qX5_zone) (o := (some (.ref x20))) (as := [.int (0 : Int32)]) (V1 := V18) hG dX5_moveFromReference_19 l_X5_255 y0X5_zone yvX5_zone rfl (Nat.le_of_ble_eq_true rfl) lay_69 kr_5 (by decide) (Nat.le_of_ble_eq_true rfl) rfl rfl rfl (t_X5_zone hG ⟨rfl, rfl⟩ g19) ?_
  refine sx_astore (pc := 22) (lo' := [(5, .ref x20), (4, .ref x17), (3, .int x14), (2, .int x11), (0, .ref 69), (1, .int l1)]) dX5_moveFromReference_22 (by decide) rfl ?_
  refine sx_aload_n (pc := 24) dX5_moveFromReference_24 sx_m4 ?_
  refine sv_getO (pc := 25) hG dX5_moveFromReference_25 f_5_12 lay_69 rfl cr_69_1 ?_
  refine sv_getA (pc := 28) hG dX5_moveFromReference_28 f_5_275 lay_70 rfl cr_70_6 ?_
  refine sx_iconst (pc := 31) (v := 0) dX5_moveFromReference_31 (by decide) ?_
  refine sv_iald (pc := 32) hG dX5_moveFromReference_32 lay_71 (by decide) ?_
  refine sv_tI (fun x21 hx21 => ?_)
  have h := sx_letE hx21 h
  refine sx_istore (pc := 33) (lo' := [(6, .int x21), (5, .ref x20), (4, .ref x17), (3, .int x14), (2, .int x11), (0, .ref 69), (1, .int l1)]) dX5_moveFromReference_33 (by decide) rfl ?_
  refine sx_aload_n (pc := 35) dX5_moveFromReference_35 sx_m5 ?_
  refine sx_aload (pc := 36) dX5_moveFromReference_36 sx_m2 ?_
  refine sx_iload_n (pc := 38) dX5_moveFromReference_38 sx_m3 ?_
  obtain ⟨⟨x24, V22⟩, g23, h⟩ := sx_bnd h
  refine sv_cV (pc := 39) (y := qX5_isThere) (o := (some (.int x24))) (as := [.ref x17, .int x14]) (V1 := V22) hG dX5_moveFromReference_39 l_X5_259 y0X5_isThere yvX5_isThere rfl (Nat.le_of_ble_eq_true rfl) lay_69 kr_5 (by decide) (Nat.le_of_ble_eq_true rfl) rfl rfl rfl (t_X5_isThere hG ⟨rfl, rfl⟩ g23) ?_
  refine sx_if_eq (pc := 42) (tgt := 56) dX5_moveFromReference_42 (by decide) (fun c25 => ?_) (fun c25 => ?_)
  · have h := sx_pos c25 h
    exact sv_vret (pc := 56) dX5_moveFromReference_56 rfl h hP
  · have h := sx_neg c25 h
    refine sx_aload_n (pc := 45) dX5_moveFromReference_45 sx_m5 ?_
    refine sx_aload (pc := 46) dX5_moveFromReference_46 sx_m1 ?_
    refine sx_iload (pc := 48) dX5_moveFromReference_48 sx_m0 ?_
    obtain ⟨⟨x28, V26⟩, g27, h⟩ := sx_bnd h
    refine sv_cV (pc := 50) (y := qX5_isThere) (o := (some (.int x28))) (as := [.ref x20, .int x21]) (V1 := V26) hG dX5_moveFromReference_50 l_X5_259 y0X5_isThere yvX5_isThere rfl (Nat.le_of_ble_eq_true rfl) lay_69 kr_5 (by decide) (Nat.le_of_ble_eq_true rfl) rfl rfl rfl (t_X5_isThere hG ⟨rfl, rfl⟩ g27) ?_
    refine sx_if_ne (pc := 53) (tgt := 57) dX5_moveFromReference_53 (by decide) (fun c29 => ?_) (fun c29 => ?_)
    · have h := sx_neg c29 h
      refine sx_aload_n (pc := 57) dX5_moveFromReference_57 sx_m5 ?_
      refine sv_getO (pc := 58) hG dX5_moveFromReference_58 f_5_12 lay_69 rfl cr_69_1 ?_
      refine sv_getA (pc := 61) hG dX5_moveFromReference_61 f_5_172 lay_70 rfl cr_70_7 ?_
      refine sx_iconst (pc := 64) (v := 1) dX5_moveFromReference_64 (by decide) ?_
      refine sv_iald (pc := 65) hG dX5_moveFromReference_65 lay_72 (by decide) ?_
      refine sx_if_ne (pc := 66) (tgt := 94) dX5_moveFromReference_66 (by decide) (fun c30 => ?_) (fun c30 => ?_)
      · have h := sx_neg c30 h
        refine sx_wk (sx_s1 sx_m5 (sx_s1 sx_m6 (sx_s1 sx_m4 (sx_s1 sx_m3 (sx_s1 sx_m2 (sx_s1 sx_m1 (sx_s1 sx_m0 sx_s0))))))) ?_
        exact tB_X5_moveFromReference_94 hG hP  h
      · have h := sx_pos c30 h
        refine sx_aload_n (pc := 69) dX5_moveFromReference_69 sx_m5 ?_
        refine sx_aload (pc := 70) dX5_moveFromReference_70 sx_m2 ?_
        refine sx_iload_n (pc := 72) dX5_moveFromReference_72 sx_m3 ?_
        refine sx_aload (pc := 73) dX5_moveFromReference_73 sx_m1 ?_
        obtain ⟨g31, h⟩ := sx_grd h
        obtain ⟨b32, g33, h⟩ := sx_bnd h
        refine sv_getA (pc := 75) hG dX5_moveFromReference_75 f_5_204 g31 rfl g33 ?_
        refine sx_iload (pc := 78) dX5_moveFromReference_78 sx_m0 ?_
        obtain ⟨n34, g35, h⟩ := sx_bnd h
        obtain ⟨g36, h⟩ := sx_grd h
        refine sv_iald (pc := 80) hG dX5_moveFromReference_80 (sv_len_e g35) g36 ?_
        refine sx_aload (pc := 81) dX5_moveFromReference_81 sx_m1 ?_
        obtain ⟨b37, g38, h⟩ := sx_bnd h
        refine sv_getA (pc := 83) hG dX5_moveFromReference_83 f_5_207 g31 rfl g38 ?_
        refine sx_iload (pc := 86) dX5_moveFromReference_86 sx_m0 ?_
        obtain ⟨n39, g40, h⟩ := sx_bnd h
        obtain ⟨g41, h⟩ := sx_grd h
        refine sv_iald (pc := 88) hG dX5_moveFromReference_88 (sv_len_e g40) g41 ?_
        refine sx_iload_n (pc := 89) dX5_moveFromReference_89 sx_m4 ?_
        refine sx_i2l (pc := 90) dX5_moveFromReference_90 ?_
        obtain ⟨V42, g43, h⟩ := sx_bnd h
        refine sv_cV (pc := 91) (y := qX5_plant) (o := none) (as := [.ref x17, .int x14, .int (V26.1 b32 x21.toNatClampNeg), .int (V26.1 b37 x21.toNatClampNeg), .long x11.toInt64]) (V1 := V42) hG dX5_moveFromReference_91 l_X5_530 y0X5_plant yvX5_plant rfl (Nat.le_of_ble_eq_true rfl) lay_69 kr_5 (by decide) (Nat.le_of_ble_eq_true rfl) rfl rfl rfl (t_X5_plant hG ⟨rfl, rfl⟩ g43) ?_
        refine sx_wk (sx_s1 sx_m5 (sx_s1 sx_m6 (sx_s1 sx_m4 (sx_s1 sx_m3 (sx_s1 sx_m2 (sx_s1 sx_m1 (sx_s1 sx_m0 sx_s0))))))) ?_
        exact tB_X5_moveFromReference_94 hG hP  h
    · have h := sx_pos c29 h
      exact sv_vret (pc := 56) dX5_moveFromReference_56 rfl h hP
def ncX5_orSingle : Nat := 114444478683866381812644893885222258624193786311203466366574017195594177637959532108350957413203634946015059294916567824905258
theorem kcX5_orSingle : CK cX5_orSingle ncX5_orSingle 52 := ⟨by decide +kernel, by decide +kernel⟩
theorem dX5_orSingle_0 : decode cX5_orSingle 0 = .ok (.aload_n 0, 1) := dl_o42 kcX5_orSingle (by decide +kernel)
theorem dX5_orSingle_1 : decode cX5_orSingle 1 = .ok (.getfield 49, 3) := dl_o180 kcX5_orSingle (by decide +kernel)
theorem dX5_orSingle_4 : decode cX5_orSingle 4 = .ok (.getfield 272, 3) := dl_o180 kcX5_orSingle (by decide +kernel)
theorem dX5_orSingle_7 : decode cX5_orSingle 7 = .ok (.iconst 1, 1) := dl_o4 kcX5_orSingle (by decide +kernel)
theorem dX5_orSingle_8 : decode cX5_orSingle 8 = .ok (.iaload, 1) := dl_o46 kcX5_orSingle (by decide +kernel)
theorem dX5_orSingle_9 : decode cX5_orSingle 9 = .ok (.i2l, 1) := dl_o133 kcX5_orSingle (by decide +kernel)
theorem dX5_orSingle_10 : decode cX5_orSingle 10 = .ok (.invokestatic 538, 3) := dl_o184 kcX5_orSingle (by decide +kernel)
theorem dX5_orSingle_13 : decode cX5_orSingle 13 = .ok (.lstore_n 3, 1) := dl_o66 kcX5_orSingle (by decide +kernel)
theorem dX5_orSingle_14 : decode cX5_orSingle 14 = .ok (.lload_n 1, 1) := dl_o31 kcX5_orSingle (by decide +kernel)
theorem dX5_orSingle_15 : decode cX5_orSingle 15 = .ok (.invokestatic 538, 3) := dl_o184 kcX5_orSingle (by decide +kernel)
theorem dX5_orSingle_18 : decode cX5_orSingle 18 = .ok (.lload_n 3, 1) := dl_o33 kcX5_orSingle (by decide +kernel)
theorem dX5_orSingle_19 : decode cX5_orSingle 19 = .ok (.lsub, 1) := dl_o101 kcX5_orSingle (by decide +kernel)
theorem dX5_orSingle_20 : decode cX5_orSingle 20 = .ok (.invokestatic 538, 3) := dl_o184 kcX5_orSingle (by decide +kernel)
theorem dX5_orSingle_23 : decode cX5_orSingle 23 = .ok (.aload_n 0, 1) := dl_o42 kcX5_orSingle (by decide +kernel)
theorem dX5_orSingle_24 : decode cX5_orSingle 24 = .ok (.getfield 49, 3) := dl_o180 kcX5_orSingle (by decide +kernel)
theorem dX5_orSingle_27 : decode cX5_orSingle 27 = .ok (.getfield 272, 3) := dl_o180 kcX5_orSingle (by decide +kernel)
theorem dX5_orSingle_30 : decode cX5_orSingle 30 = .ok (.iconst 2, 1) := dl_o5 kcX5_orSingle (by decide +kernel)
theorem dX5_orSingle_31 : decode cX5_orSingle 31 = .ok (.iaload, 1) := dl_o46 kcX5_orSingle (by decide +kernel)
theorem dX5_orSingle_32 : decode cX5_orSingle 32 = .ok (.i2l, 1) := dl_o133 kcX5_orSingle (by decide +kernel)
theorem dX5_orSingle_33 : decode cX5_orSingle 33 = .ok (.lcmp, 1) := dl_o148 kcX5_orSingle (by decide +kernel)
theorem dX5_orSingle_34 : decode cX5_orSingle 34 = .ok (.ifCond .ge 16, 3) := dl_o156 kcX5_orSingle 16 (by decide +kernel) (by decide +kernel)
theorem dX5_orSingle_37 : decode cX5_orSingle 37 = .ok (.lload_n 1, 1) := dl_o31 kcX5_orSingle (by decide +kernel)
theorem dX5_orSingle_38 : decode cX5_orSingle 38 = .ok (.lconst 0, 1) := dl_o9 kcX5_orSingle (by decide +kernel)
theorem dX5_orSingle_39 : decode cX5_orSingle 39 = .ok (.lcmp, 1) := dl_o148 kcX5_orSingle (by decide +kernel)
theorem dX5_orSingle_40 : decode cX5_orSingle 40 = .ok (.ifCond .ge 8, 3) := dl_o156 kcX5_orSingle 8 (by decide +kernel) (by decide +kernel)
theorem dX5_orSingle_43 : decode cX5_orSingle 43 = .ok (.lload_n 3, 1) := dl_o33 kcX5_orSingle (by decide +kernel)
theorem dX5_orSingle_44 : decode cX5_orSingle 44 = .ok (.lneg, 1) := dl_o117 kcX5_orSingle (by decide +kernel)
theorem dX5_orSingle_45 : decode cX5_orSingle 45 = .ok (.goto 4, 3) := dl_o167 kcX5_orSingle 4 (by decide +kernel) (by decide +kernel)
theorem dX5_orSingle_48 : decode cX5_orSingle 48 = .ok (.lload_n 3, 1) := dl_o33 kcX5_orSingle (by decide +kernel)
theorem dX5_orSingle_49 : decode cX5_orSingle 49 = .ok (.lreturn, 1) := dl_o173 kcX5_orSingle (by decide +kernel)
theorem dX5_orSingle_50 : decode cX5_orSingle 50 = .ok (.lload_n 1, 1) := dl_o31 kcX5_orSingle (by decide +kernel)
theorem dX5_orSingle_51 : decode cX5_orSingle 51 = .ok (.lreturn, 1) := dl_o173 kcX5_orSingle (by decide +kernel)
def F_X5_orSingle (l1 : Int64) (V : sv_V) : Option (Int64 × sv_V) := (V.2.2 69 6).bind (fun b1 => if lay b1 = .inl 7 then (cr b1 5).bind (fun b4 => (sv_len 0 b4).bind (fun n6 => if sx_in (1 : Int32) n6 = true then (F_J9_abs_067f4 ((V.1 b4 (1 : Int32).toNatClampNeg).toInt64) V).bind (fun (x11, V9) => (F_J9_abs_067f4 l1 V9).bind (fun (x14, V12) => (F_J9_abs_067f4 (x14 - x11) V12).bind (fun (x17, V15) => (V15.2.2 69 6).bind (fun b18 => if lay b18 = .inl 7 then (cr b18 5).bind (fun b21 => (sv_len 0 b21).bind (fun n23 => if sx_in (2 : Int32) n23 = true then if 0 ≤ (lg_cmp x17 ((V15.1 b21 (2 : Int32).toNatClampNeg).toInt64)) then (some (l1, V15)) else (if 0 ≤ (lg_cmp l1 (0 : Int64)) then (some (x11, V15)) else (some (-x11, V15))) else none)) else none)))) else none)) else none)
set_option maxRecDepth 20000 in
theorem t_X5_orSingle {g : sx_G} (hG : sx_Go g) {P : Option Value → sv_V → Prop} {r : Int64} {Vr : sv_V} (hP : P (some (.long r)) Vr) {l1 : Int64} {V : sv_V} (h : F_X5_orSingle l1 V = some (r, Vr)) : sv_N g qX5_orSingle 1 0 [(0, .ref 69), (1, .long l1)] [] V P := by
  unfold F_X5_orSingle at h
  refine sx_aload_n (pc := 0) dX5_orSingle_0 sx_m0 ?_
  obtain ⟨b1, g2, h⟩ := sx_bnd h
  refine sv_getV (pc := 1) hG dX5_orSingle_1 f_5_49 lay_69 rfl rfl g2 ?_
  obtain ⟨g3, h⟩ := sx_grd h
  obtain ⟨b4, g5, h⟩ := sx_bnd h
  refine sv_getA (pc := 4) hG dX5_orSingle_4 f_5_272 g3 rfl g5 ?_
  refine sx_iconst (pc := 7) (v := 1) dX5_orSingle_7 (by decide) ?_
  obtain ⟨n6, g7, h⟩ := sx_bnd h
  obtain ⟨g8, h⟩ := sx_grd h
  refine sv_iald (pc := 8) hG dX5_orSingle_8 (sv_len_e g7) g8 ?_
  refine sx_i2l (pc := 9) dX5_orSingle_9 ?_
  obtain ⟨⟨x11, V9⟩, g10, h⟩ := sx_bnd h
  refine sv_cS (pc := 10) (y := qJ9_abs_067f4) (o := (some (.long x11))) (as := [.long ((V.1 b4 (1 : Int32).toNatClampNeg).toInt64)]) (V1 := V9) dX5_orSingle_10 l_X5_538 y0J9_abs_067f4 ysJ9_abs_067f4 rfl (Nat.le_of_ble_eq_true rfl) (by decide) (Nat.le_of_ble_eq_true rfl) rfl rfl rfl (t_J9_abs_067f4 hG ⟨rfl, rfl⟩ g10) ?_
  refine sx_lstore_n (pc := 13) (lo' := [(3, .long x11), (0, .ref 69), (1, .long l1)]) dX5_orSingle_13 (by decide) rfl ?_
  refine sx_lload_n (pc := 14) dX5_orSingle_14 sx_m2 ?_
  obtain ⟨⟨x14, V12⟩, g13, h⟩ := sx_bnd h
  refine sv_cS (pc := 15) (y := qJ9_abs_067f4) (o := (some (.long x14))) (as := [.long l1]) (V1 := V12) dX5_orSingle_15 l_X5_538 y0J9_abs_067f4 ysJ9_abs_067f4 rfl (Nat.le_of_ble_eq_true rfl) (by decide) (Nat.le_of_ble_eq_true rfl) rfl rfl rfl (t_J9_abs_067f4 hG ⟨rfl, rfl⟩ g13) ?_
  refine sx_lload_n (pc := 18) dX5_orSingle_18 sx_m0 ?_
  refine sx_lsub (pc := 19) dX5_orSingle_19 ?_
  obtain ⟨⟨x17, V15⟩, g16, h⟩ := sx_bnd h
  refine sv_cS (pc := 20) (y := qJ9_abs_067f4) (o := (some (.long x17))) (as := [.long (x14 - x11)]) (V1 := V15) dX5_orSingle_20 l_X5_538 y0J9_abs_067f4 ysJ9_abs_067f4 rfl (Nat.le_of_ble_eq_true rfl) (by decide) (Nat.le_of_ble_eq_true rfl) rfl rfl rfl (t_J9_abs_067f4 hG ⟨rfl, rfl⟩ g16) ?_
  refine sx_aload_n (pc := 23) dX5_orSingle_23 sx_m1 ?_
  obtain ⟨b18, g19, h⟩ := sx_bnd h
  refine sv_getV (pc := 24) hG dX5_orSingle_24 f_5_49 lay_69 rfl rfl g19 ?_
  obtain ⟨g20, h⟩ := sx_grd h
  obtain ⟨b21, g22, h⟩ := sx_bnd h
  refine sv_getA (pc := 27) hG dX5_orSingle_27 f_5_272 g20 rfl g22 ?_
  refine sx_iconst (pc := 30) (v := 2) dX5_orSingle_30 (by decide) ?_
  obtain ⟨n23, g24, h⟩ := sx_bnd h
  obtain ⟨g25, h⟩ := sx_grd h
  refine sv_iald (pc := 31) hG dX5_orSingle_31 (sv_len_e g24) g25 ?_
  refine sx_i2l (pc := 32) dX5_orSingle_32 ?_
  refine sx_lcmp (pc := 33) dX5_orSingle_33 ?_
  refine sx_if_ge (pc := 34) (tgt := 50) dX5_orSingle_34 (by decide) (fun c26 => ?_) (fun c26 => ?_)
  · have h := sx_pos c26 h
    refine sx_lload_n (pc := 50) dX5_orSingle_50 sx_m2 ?_
    exact sv_lret (pc := 51) dX5_orSingle_51 rfl h hP
  · have h := sx_neg c26 h
    refine sx_lload_n (pc := 37) dX5_orSingle_37 sx_m2 ?_
    refine sx_lconst (pc := 38) (v := 0) dX5_orSingle_38 rfl ?_
    refine sx_lcmp (pc := 39) dX5_orSingle_39 ?_
    refine sx_if_ge (pc := 40) (tgt := 48) dX5_orSingle_40 (by decide) (fun c27 => ?_) (fun c27 => ?_)
    · have h := sx_pos c27 h
      refine sx_lload_n (pc := 48) dX5_orSingle_48 sx_m0 ?_
      exact sv_lret (pc := 49) dX5_orSingle_49 rfl h hP
    · have h := sx_neg c27 h
      refine sx_lload_n (pc := 43) dX5_orSingle_43 sx_m0 ?_
      refine sx_lneg (pc := 44) dX5_orSingle_44 ?_
      refine sx_goto (pc := 45) (tgt := 49) dX5_orSingle_45 (by decide) ?_
      exact sv_lret (pc := 49) dX5_orSingle_49 rfl h hP
def ncX5_atLeast : Nat := 1317888326047280815813793196631288662848800530437642979043088343984691775240195322922
theorem kcX5_atLeast : CK cX5_atLeast ncX5_atLeast 35 := ⟨by decide +kernel, by decide +kernel⟩
theorem dX5_atLeast_0 : decode cX5_atLeast 0 = .ok (.aload_n 0, 1) := dl_o42 kcX5_atLeast (by decide +kernel)
theorem dX5_atLeast_1 : decode cX5_atLeast 1 = .ok (.getfield 49, 3) := dl_o180 kcX5_atLeast (by decide +kernel)
theorem dX5_atLeast_4 : decode cX5_atLeast 4 = .ok (.getfield 272, 3) := dl_o180 kcX5_atLeast (by decide +kernel)
theorem dX5_atLeast_7 : decode cX5_atLeast 7 = .ok (.iconst 3, 1) := dl_o6 kcX5_atLeast (by decide +kernel)
theorem dX5_atLeast_8 : decode cX5_atLeast 8 = .ok (.iaload, 1) := dl_o46 kcX5_atLeast (by decide +kernel)
theorem dX5_atLeast_9 : decode cX5_atLeast 9 = .ok (.i2l, 1) := dl_o133 kcX5_atLeast (by decide +kernel)
theorem dX5_atLeast_10 : decode cX5_atLeast 10 = .ok (.lstore 5, 2) := dl_o55 kcX5_atLeast (by decide +kernel)
theorem dX5_atLeast_12 : decode cX5_atLeast 12 = .ok (.lload_n 3, 1) := dl_o33 kcX5_atLeast (by decide +kernel)
theorem dX5_atLeast_13 : decode cX5_atLeast 13 = .ok (.lconst 0, 1) := dl_o9 kcX5_atLeast (by decide +kernel)
theorem dX5_atLeast_14 : decode cX5_atLeast 14 = .ok (.lcmp, 1) := dl_o148 kcX5_atLeast (by decide +kernel)
theorem dX5_atLeast_15 : decode cX5_atLeast 15 = .ok (.ifCond .lt 12, 3) := dl_o155 kcX5_atLeast 12 (by decide +kernel) (by decide +kernel)
theorem dX5_atLeast_18 : decode cX5_atLeast 18 = .ok (.lload_n 1, 1) := dl_o31 kcX5_atLeast (by decide +kernel)
theorem dX5_atLeast_19 : decode cX5_atLeast 19 = .ok (.lload 5, 2) := dl_o22 kcX5_atLeast (by decide +kernel)
theorem dX5_atLeast_21 : decode cX5_atLeast 21 = .ok (.invokestatic 424, 3) := dl_o184 kcX5_atLeast (by decide +kernel)
theorem dX5_atLeast_24 : decode cX5_atLeast 24 = .ok (.goto 10, 3) := dl_o167 kcX5_atLeast 10 (by decide +kernel) (by decide +kernel)
theorem dX5_atLeast_27 : decode cX5_atLeast 27 = .ok (.lload_n 1, 1) := dl_o31 kcX5_atLeast (by decide +kernel)
theorem dX5_atLeast_28 : decode cX5_atLeast 28 = .ok (.lload 5, 2) := dl_o22 kcX5_atLeast (by decide +kernel)
theorem dX5_atLeast_30 : decode cX5_atLeast 30 = .ok (.lneg, 1) := dl_o117 kcX5_atLeast (by decide +kernel)
theorem dX5_atLeast_31 : decode cX5_atLeast 31 = .ok (.invokestatic 427, 3) := dl_o184 kcX5_atLeast (by decide +kernel)
theorem dX5_atLeast_34 : decode cX5_atLeast 34 = .ok (.lreturn, 1) := dl_o173 kcX5_atLeast (by decide +kernel)
def F_X5_atLeast (l1 : Int64) (l3 : Int64) (V : sv_V) : Option (Int64 × sv_V) := (V.2.2 69 6).bind (fun b1 => if lay b1 = .inl 7 then (cr b1 5).bind (fun b4 => (sv_len 0 b4).bind (fun n6 => if sx_in (3 : Int32) n6 = true then sx_let ((V.1 b4 (3 : Int32).toNatClampNeg).toInt64) (fun x9 => if (lg_cmp l3 (0 : Int64)) < 0 then ((F_J9_min_f86c9 l1 (-x9) V).bind (fun (x13, V11) => some (x13, V11))) else ((F_J9_max_f86c9 l1 x9 V).bind (fun (x16, V14) => some (x16, V14)))) else none)) else none)
set_option maxRecDepth 20000 in
theorem t_X5_atLeast {g : sx_G} (hG : sx_Go g) {P : Option Value → sv_V → Prop} {r : Int64} {Vr : sv_V} (hP : P (some (.long r)) Vr) {l1 : Int64} {l3 : Int64} {V : sv_V} (h : F_X5_atLeast l1 l3 V = some (r, Vr)) : sv_N g qX5_atLeast 1 0 [(0, .ref 69), (1, .long l1), (3, .long l3)] [] V P := by
  unfold F_X5_atLeast at h
  refine sx_aload_n (pc := 0) dX5_atLeast_0 sx_m0 ?_
  obtain ⟨b1, g2, h⟩ := sx_bnd h
  refine sv_getV (pc := 1) hG dX5_atLeast_1 f_5_49 lay_69 rfl rfl g2 ?_
  obtain ⟨g3, h⟩ := sx_grd h
  obtain ⟨b4, g5, h⟩ := sx_bnd h
  refine sv_getA (pc := 4) hG dX5_atLeast_4 f_5_272 g3 rfl g5 ?_
  refine sx_iconst (pc := 7) (v := 3) dX5_atLeast_7 (by decide) ?_
  obtain ⟨n6, g7, h⟩ := sx_bnd h
  obtain ⟨g8, h⟩ := sx_grd h
  refine sv_iald (pc := 8) hG dX5_atLeast_8 (sv_len_e g7) g8 ?_
  refine sx_i2l (pc := 9) dX5_atLeast_9 ?_
  refine sv_tJ (fun x9 hx9 => ?_)
  have h := sx_letE hx9 h
  refine sx_lstore (pc := 10) (lo' := [(5, .long x9), (0, .ref 69), (1, .long l1), (3, .long l3)]) dX5_atLeast_10 (by decide) rfl ?_
  refine sx_lload_n (pc := 12) dX5_atLeast_12 sx_m3 ?_
  refine sx_lconst (pc := 13) (v := 0) dX5_atLeast_13 rfl ?_
  refine sx_lcmp (pc := 14) dX5_atLeast_14 ?_
  refine sx_if_lt (pc := 15) (tgt := 27) dX5_atLeast_15 (by decide) (fun c10 => ?_) (fun c10 => ?_)
  · have h := sx_pos c10 h
    refine sx_lload_n (pc := 27) dX5_atLeast_27 sx_m2 ?_
    refine sx_lload (pc := 28) dX5_atLeast_28 sx_m0 ?_
    refine sx_lneg (pc := 30) dX5_atLeast_30 ?_
    obtain ⟨⟨x13, V11⟩, g12, h⟩ := sx_bnd h
    refine sv_cS (pc := 31) (y := qJ9_min_f86c9) (o := (some (.long x13))) (as := [.long l1, .long (-x9)]) (V1 := V11) dX5_atLeast_31 l_X5_427 y0J9_min_f86c9 ysJ9_min_f86c9 rfl (Nat.le_of_ble_eq_true rfl) (by decide) (Nat.le_of_ble_eq_true rfl) rfl rfl rfl (t_J9_min_f86c9 hG ⟨rfl, rfl⟩ g12) ?_
    exact sv_lret (pc := 34) dX5_atLeast_34 rfl h hP
  · have h := sx_neg c10 h
    refine sx_lload_n (pc := 18) dX5_atLeast_18 sx_m2 ?_
    refine sx_lload (pc := 19) dX5_atLeast_19 sx_m0 ?_
    obtain ⟨⟨x16, V14⟩, g15, h⟩ := sx_bnd h
    refine sv_cS (pc := 21) (y := qJ9_max_f86c9) (o := (some (.long x16))) (as := [.long l1, .long x9]) (V1 := V14) dX5_atLeast_21 l_X5_424 y0J9_max_f86c9 ysJ9_max_f86c9 rfl (Nat.le_of_ble_eq_true rfl) (by decide) (Nat.le_of_ble_eq_true rfl) rfl rfl rfl (t_J9_max_f86c9 hG ⟨rfl, rfl⟩ g15) ?_
    refine sx_goto (pc := 24) (tgt := 34) dX5_atLeast_24 (by decide) ?_
    exact sv_lret (pc := 34) dX5_atLeast_34 rfl h hP
def ncX5_applyDelta : Nat := 608285467200712463379369757953137326960804306552353058120223331959398973148234037099216811242992375215017160110322141660299797824708726799557710056418162284827
theorem kcX5_applyDelta : CK cX5_applyDelta ncX5_applyDelta 66 := ⟨by decide +kernel, by decide +kernel⟩
theorem dX5_applyDelta_0 : decode cX5_applyDelta 0 = .ok (.iload_n 1, 1) := dl_o27 kcX5_applyDelta (by decide +kernel)
theorem dX5_applyDelta_1 : decode cX5_applyDelta 1 = .ok (.ifCond .eq 31, 3) := dl_o153 kcX5_applyDelta 31 (by decide +kernel) (by decide +kernel)
theorem dX5_applyDelta_4 : decode cX5_applyDelta 4 = .ok (.aload_n 0, 1) := dl_o42 kcX5_applyDelta (by decide +kernel)
theorem dX5_applyDelta_5 : decode cX5_applyDelta 5 = .ok (.aload_n 0, 1) := dl_o42 kcX5_applyDelta (by decide +kernel)
theorem dX5_applyDelta_6 : decode cX5_applyDelta 6 = .ok (.iconst 0, 1) := dl_o3 kcX5_applyDelta (by decide +kernel)
theorem dX5_applyDelta_7 : decode cX5_applyDelta 7 = .ok (.invokevirtual 255, 3) := dl_o182 kcX5_applyDelta (by decide +kernel)
theorem dX5_applyDelta_10 : decode cX5_applyDelta 10 = .ok (.iload_n 2, 1) := dl_o28 kcX5_applyDelta (by decide +kernel)
theorem dX5_applyDelta_11 : decode cX5_applyDelta 11 = .ok (.invokevirtual 259, 3) := dl_o182 kcX5_applyDelta (by decide +kernel)
theorem dX5_applyDelta_14 : decode cX5_applyDelta 14 = .ok (.ifCond .eq 51, 3) := dl_o153 kcX5_applyDelta 51 (by decide +kernel) (by decide +kernel)
theorem dX5_applyDelta_17 : decode cX5_applyDelta 17 = .ok (.aload_n 0, 1) := dl_o42 kcX5_applyDelta (by decide +kernel)
theorem dX5_applyDelta_18 : decode cX5_applyDelta 18 = .ok (.aload_n 0, 1) := dl_o42 kcX5_applyDelta (by decide +kernel)
theorem dX5_applyDelta_19 : decode cX5_applyDelta 19 = .ok (.iconst 0, 1) := dl_o3 kcX5_applyDelta (by decide +kernel)
theorem dX5_applyDelta_20 : decode cX5_applyDelta 20 = .ok (.invokevirtual 255, 3) := dl_o182 kcX5_applyDelta (by decide +kernel)
theorem dX5_applyDelta_23 : decode cX5_applyDelta 23 = .ok (.iload_n 2, 1) := dl_o28 kcX5_applyDelta (by decide +kernel)
theorem dX5_applyDelta_24 : decode cX5_applyDelta 24 = .ok (.iload_n 3, 1) := dl_o29 kcX5_applyDelta (by decide +kernel)
theorem dX5_applyDelta_25 : decode cX5_applyDelta 25 = .ok (.i2l, 1) := dl_o133 kcX5_applyDelta (by decide +kernel)
theorem dX5_applyDelta_26 : decode cX5_applyDelta 26 = .ok (.invokevirtual 461, 3) := dl_o182 kcX5_applyDelta (by decide +kernel)
theorem dX5_applyDelta_29 : decode cX5_applyDelta 29 = .ok (.goto 36, 3) := dl_o167 kcX5_applyDelta 36 (by decide +kernel) (by decide +kernel)
theorem dX5_applyDelta_32 : decode cX5_applyDelta 32 = .ok (.aload_n 0, 1) := dl_o42 kcX5_applyDelta (by decide +kernel)
theorem dX5_applyDelta_33 : decode cX5_applyDelta 33 = .ok (.getfield 49, 3) := dl_o180 kcX5_applyDelta (by decide +kernel)
theorem dX5_applyDelta_36 : decode cX5_applyDelta 36 = .ok (.iload_n 2, 1) := dl_o28 kcX5_applyDelta (by decide +kernel)
theorem dX5_applyDelta_37 : decode cX5_applyDelta 37 = .ok (.invokevirtual 405, 3) := dl_o182 kcX5_applyDelta (by decide +kernel)
theorem dX5_applyDelta_40 : decode cX5_applyDelta 40 = .ok (.ifCond .eq 19, 3) := dl_o153 kcX5_applyDelta 19 (by decide +kernel) (by decide +kernel)
theorem dX5_applyDelta_43 : decode cX5_applyDelta 43 = .ok (.aload_n 0, 1) := dl_o42 kcX5_applyDelta (by decide +kernel)
theorem dX5_applyDelta_44 : decode cX5_applyDelta 44 = .ok (.getfield 49, 3) := dl_o180 kcX5_applyDelta (by decide +kernel)
theorem dX5_applyDelta_47 : decode cX5_applyDelta 47 = .ok (.getfield 411, 3) := dl_o180 kcX5_applyDelta (by decide +kernel)
theorem dX5_applyDelta_50 : decode cX5_applyDelta 50 = .ok (.iload_n 2, 1) := dl_o28 kcX5_applyDelta (by decide +kernel)
theorem dX5_applyDelta_51 : decode cX5_applyDelta 51 = .ok (.dup2, 1) := dl_o92 kcX5_applyDelta (by decide +kernel)
theorem dX5_applyDelta_52 : decode cX5_applyDelta 52 = .ok (.iaload, 1) := dl_o46 kcX5_applyDelta (by decide +kernel)
theorem dX5_applyDelta_53 : decode cX5_applyDelta 53 = .ok (.iload_n 3, 1) := dl_o29 kcX5_applyDelta (by decide +kernel)
theorem dX5_applyDelta_54 : decode cX5_applyDelta 54 = .ok (.iadd, 1) := dl_o96 kcX5_applyDelta (by decide +kernel)
theorem dX5_applyDelta_55 : decode cX5_applyDelta 55 = .ok (.iastore, 1) := dl_o79 kcX5_applyDelta (by decide +kernel)
theorem dX5_applyDelta_56 : decode cX5_applyDelta 56 = .ok (.goto 9, 3) := dl_o167 kcX5_applyDelta 9 (by decide +kernel) (by decide +kernel)
theorem dX5_applyDelta_59 : decode cX5_applyDelta 59 = .ok (.aload_n 0, 1) := dl_o42 kcX5_applyDelta (by decide +kernel)
theorem dX5_applyDelta_60 : decode cX5_applyDelta 60 = .ok (.bipush 6, 2) := dl_o16 kcX5_applyDelta 6 (by decide +kernel) (by decide +kernel)
theorem dX5_applyDelta_62 : decode cX5_applyDelta 62 = .ok (.putfield 56, 3) := dl_o181 kcX5_applyDelta (by decide +kernel)
theorem dX5_applyDelta_65 : decode cX5_applyDelta 65 = .ok (.return_, 1) := dl_o177 kcX5_applyDelta (by decide +kernel)
def F_X5_applyDelta (l1 : Int32) (l2 : Int32) (l3 : Int32) (V : sv_V) : Option sv_V := if l1 = 0 then ((V.2.2 69 6).bind (fun b2 => (F_X7_hasCvt b2 l2 V).bind (fun (x6, V4) => if lay b2 = .inl 7 then if x6 = 0 then (sx_let (sv_I V4 69 14 (6 : Int32)) (fun V9 => some V9)) else ((V4.2.2 69 6).bind (fun b10 => if lay b10 = .inl 7 then (cr b10 0).bind (fun b13 => (sv_len 0 b13).bind (fun n15 => if sx_in l2 n15 = true then if sx_in l2 n15 = true then sx_let (sv_I V4 b13 l2.toNatClampNeg ((V4.1 b13 l2.toNatClampNeg) + l3)) (fun V19 => some V19) else none else none)) else none)) else none))) else ((F_X5_zone (0 : Int32) V).bind (fun (x22, V20) => (F_X5_isThere x22 l2 V20).bind (fun (x25, V23) => if x25 = 0 then (some V23) else ((F_X5_zone (0 : Int32) V23).bind (fun (x29, V27) => (F_X5_move x29 l2 l3.toInt64 V27).bind (fun V30 => some V30))))))
set_option maxRecDepth 20000 in
theorem t_X5_applyDelta {g : sx_G} (hG : sx_Go g) {P : Option Value → sv_V → Prop} {Vr : sv_V} (hP : P none Vr) {l1 : Int32} {l2 : Int32} {l3 : Int32} {V : sv_V} (h : F_X5_applyDelta l1 l2 l3 V = some Vr) : sv_N g qX5_applyDelta 2 0 [(0, .ref 69), (1, .int l1), (2, .int l2), (3, .int l3)] [] V P := by
  unfold F_X5_applyDelta at h
  refine sx_iload_n (pc := 0) dX5_applyDelta_0 sx_m1 ?_
  refine sx_if_eq (pc := 1) (tgt := 32) dX5_applyDelta_1 (by decide) (fun c1 => ?_) (fun c1 => ?_)
  · have h := sx_pos c1 h
    refine sx_aload_n (pc := 32) dX5_applyDelta_32 sx_m0 ?_
    obtain ⟨b2, g3, h⟩ := sx_bnd h
    refine sv_getV (pc := 33) hG dX5_applyDelta_33 f_5_49 lay_69 rfl rfl g3 ?_
    refine sx_iload_n (pc := 36) dX5_applyDelta_36 sx_m2 ?_
    obtain ⟨⟨x6, V4⟩, g5, h⟩ := sx_bnd h
    obtain ⟨g7, h⟩ := sx_grd h
    refine sv_cV (pc := 37) (y := qX7_hasCvt) (o := (some (.int x6))) (as := [.int l2]) (V1 := V4) hG dX5_applyDelta_37 l_X5_405 y0X7_hasCvt yvX7_hasCvt rfl (Nat.le_of_ble_eq_true rfl) g7 kr_7 (by decide) (Nat.le_of_ble_eq_true rfl) rfl rfl rfl (t_X7_hasCvt hG ⟨rfl, rfl⟩ g5) ?_
    refine sx_if_eq (pc := 40) (tgt := 59) dX5_applyDelta_40 (by decide) (fun c8 => ?_) (fun c8 => ?_)
    · have h := sx_pos c8 h
      refine sx_aload_n (pc := 59) dX5_applyDelta_59 sx_m0 ?_
      refine sx_bipush (pc := 60) (v := 6) dX5_applyDelta_60 (by decide) ?_
      obtain ⟨V9, hV9⟩ : ∃ z : sv_V, z = sv_I V4 69 14 (6 : Int32) := ⟨_, rfl⟩
      have h := sx_letE hV9 h
      refine sv_putI (pc := 62) hG dX5_applyDelta_62 f_5_56 lay_69 rfl hV9 ?_
      exact sv_vret (pc := 65) dX5_applyDelta_65 rfl h hP
    · have h := sx_neg c8 h
      refine sx_aload_n (pc := 43) dX5_applyDelta_43 sx_m0 ?_
      obtain ⟨b10, g11, h⟩ := sx_bnd h
      refine sv_getV (pc := 44) hG dX5_applyDelta_44 f_5_49 lay_69 rfl rfl g11 ?_
      obtain ⟨g12, h⟩ := sx_grd h
      obtain ⟨b13, g14, h⟩ := sx_bnd h
      refine sv_getA (pc := 47) hG dX5_applyDelta_47 f_5_411 g12 rfl g14 ?_
      refine sx_iload_n (pc := 50) dX5_applyDelta_50 sx_m2 ?_
      refine sx_dup2 (pc := 51) dX5_applyDelta_51 rfl rfl ?_
      obtain ⟨n15, g16, h⟩ := sx_bnd h
      obtain ⟨g17, h⟩ := sx_grd h
      refine sv_iald (pc := 52) hG dX5_applyDelta_52 (sv_len_e g16) g17 ?_
      refine sx_iload_n (pc := 53) dX5_applyDelta_53 sx_m3 ?_
      refine sx_iadd (pc := 54) dX5_applyDelta_54 ?_
      obtain ⟨g18, h⟩ := sx_grd h
      obtain ⟨V19, hV19⟩ : ∃ z : sv_V, z = sv_I V4 b13 l2.toNatClampNeg ((V4.1 b13 l2.toNatClampNeg) + l3) := ⟨_, rfl⟩
      have h := sx_letE hV19 h
      refine sv_iast (pc := 55) hG dX5_applyDelta_55 (sv_len_e g16) g18 hV19 ?_
      refine sx_goto (pc := 56) (tgt := 65) dX5_applyDelta_56 (by decide) ?_
      exact sv_vret (pc := 65) dX5_applyDelta_65 rfl h hP
  · have h := sx_neg c1 h
    refine sx_aload_n (pc := 4) dX5_applyDelta_4 sx_m0 ?_
    refine sx_aload_n (pc := 5) dX5_applyDelta_5 sx_m0 ?_
    refine sx_iconst (pc := 6) (v := 0) dX5_applyDelta_6 (by decide) ?_
    obtain ⟨⟨x22, V20⟩, g21, h⟩ := sx_bnd h
    refine sv_cV (pc := 7) (y := qX5_zone) (o := (some (.ref x22))) (as := [.int (0 : Int32)]) (V1 := V20) hG dX5_applyDelta_7 l_X5_255 y0X5_zone yvX5_zone rfl (Nat.le_of_ble_eq_true rfl) lay_69 kr_5 (by decide) (Nat.le_of_ble_eq_true rfl) rfl rfl rfl (t_X5_zone hG ⟨rfl, rfl⟩ g21) ?_
    refine sx_iload_n (pc := 10) dX5_applyDelta_10 sx_m2 ?_
    obtain ⟨⟨x25, V23⟩, g24, h⟩ := sx_bnd h
    refine sv_cV (pc := 11) (y := qX5_isThere) (o := (some (.int x25))) (as := [.ref x22, .int l2]) (V1 := V23) hG dX5_applyDelta_11 l_X5_259 y0X5_isThere yvX5_isThere rfl (Nat.le_of_ble_eq_true rfl) lay_69 kr_5 (by decide) (Nat.le_of_ble_eq_true rfl) rfl rfl rfl (t_X5_isThere hG ⟨rfl, rfl⟩ g24) ?_
    refine sx_if_eq (pc := 14) (tgt := 65) dX5_applyDelta_14 (by decide) (fun c26 => ?_) (fun c26 => ?_)
    · have h := sx_pos c26 h
      exact sv_vret (pc := 65) dX5_applyDelta_65 rfl h hP
    · have h := sx_neg c26 h
      refine sx_aload_n (pc := 17) dX5_applyDelta_17 sx_m0 ?_
      refine sx_aload_n (pc := 18) dX5_applyDelta_18 sx_m0 ?_
      refine sx_iconst (pc := 19) (v := 0) dX5_applyDelta_19 (by decide) ?_
      obtain ⟨⟨x29, V27⟩, g28, h⟩ := sx_bnd h
      refine sv_cV (pc := 20) (y := qX5_zone) (o := (some (.ref x29))) (as := [.int (0 : Int32)]) (V1 := V27) hG dX5_applyDelta_20 l_X5_255 y0X5_zone yvX5_zone rfl (Nat.le_of_ble_eq_true rfl) lay_69 kr_5 (by decide) (Nat.le_of_ble_eq_true rfl) rfl rfl rfl (t_X5_zone hG ⟨rfl, rfl⟩ g28) ?_
      refine sx_iload_n (pc := 23) dX5_applyDelta_23 sx_m2 ?_
      refine sx_iload_n (pc := 24) dX5_applyDelta_24 sx_m3 ?_
      refine sx_i2l (pc := 25) dX5_applyDelta_25 ?_
      obtain ⟨V30, g31, h⟩ := sx_bnd h
      refine sv_cV (pc := 26) (y := qX5_move) (o := none) (as := [.ref x29, .int l2, .long l3.toInt64]) (V1 := V30) hG dX5_applyDelta_26 l_X5_461 y0X5_move yvX5_move rfl (Nat.le_of_ble_eq_true rfl) lay_69 kr_5 (by decide) (Nat.le_of_ble_eq_true rfl) rfl rfl rfl (t_X5_move hG ⟨rfl, rfl⟩ g31) ?_
      refine sx_goto (pc := 29) (tgt := 65) dX5_applyDelta_29 (by decide) ?_
      exact sv_vret (pc := 65) dX5_applyDelta_65 rfl h hP
end
