/-! methods: X11_feed, X11_wipe, X11_font, X11_table, X11_kern, X11_point, X11_told, X11_held, X11_pixel, X11_type, X11_isBeyond, X11_nearest, X12_in, X12_sizeOf, X12_toPixel, X12_u1, X12_u2, X12_s2, X12_s1, X12_u4, X12_tableOf, X12_beginOf, X12_lengthOf, X12_sumOf, X12_directory, X12_head -/
theorem dX11_feed_0 : decode cX11_feed 0 = .ok (.iload_n 1, 1) := by decide +kernel
theorem dX11_feed_1 : decode cX11_feed 1 = .ok (.iconst 1, 1) := by decide +kernel
theorem dX11_feed_2 : decode cX11_feed 2 = .ok (.if_icmp .lt 9, 3) := by decide +kernel
theorem dX11_feed_5 : decode cX11_feed 5 = .ok (.iload_n 1, 1) := by decide +kernel
theorem dX11_feed_6 : decode cX11_feed 6 = .ok (.bipush 8, 2) := by decide +kernel
theorem dX11_feed_8 : decode cX11_feed 8 = .ok (.if_icmp .le 6, 3) := by decide +kernel
theorem dX11_feed_11 : decode cX11_feed 11 = .ok (.bipush (-2), 2) := by decide +kernel
theorem dX11_feed_13 : decode cX11_feed 13 = .ok (.ireturn, 1) := by decide +kernel
theorem dX11_feed_14 : decode cX11_feed 14 = .ok (.aload_n 0, 1) := by decide +kernel
theorem dX11_feed_15 : decode cX11_feed 15 = .ok (.getfield 52, 3) := by decide +kernel
theorem dX11_feed_18 : decode cX11_feed 18 = .ok (.iload_n 1, 1) := by decide +kernel
theorem dX11_feed_19 : decode cX11_feed 19 = .ok (.iadd, 1) := by decide +kernel
theorem dX11_feed_20 : decode cX11_feed 20 = .ok (.sipush 12000, 3) := by decide +kernel
theorem dX11_feed_23 : decode cX11_feed 23 = .ok (.if_icmp .le 6, 3) := by decide +kernel
theorem dX11_feed_26 : decode cX11_feed 26 = .ok (.bipush (-4), 2) := by decide +kernel
theorem dX11_feed_28 : decode cX11_feed 28 = .ok (.ireturn, 1) := by decide +kernel
theorem dX11_feed_29 : decode cX11_feed 29 = .ok (.iload_n 1, 1) := by decide +kernel
theorem dX11_feed_30 : decode cX11_feed 30 = .ok (.iconst 1, 1) := by decide +kernel
theorem dX11_feed_31 : decode cX11_feed 31 = .ok (.isub, 1) := by decide +kernel
theorem dX11_feed_32 : decode cX11_feed 32 = .ok (.istore 4, 2) := by decide +kernel
theorem dX11_feed_34 : decode cX11_feed 34 = .ok (.iload 4, 2) := by decide +kernel
theorem dX11_feed_36 : decode cX11_feed 36 = .ok (.ifCond .lt 37, 3) := by decide +kernel
theorem dX11_feed_39 : decode cX11_feed 39 = .ok (.aload_n 0, 1) := by decide +kernel
theorem dX11_feed_40 : decode cX11_feed 40 = .ok (.getfield 9, 3) := by decide +kernel
theorem dX11_feed_43 : decode cX11_feed 43 = .ok (.aload_n 0, 1) := by decide +kernel
theorem dX11_feed_44 : decode cX11_feed 44 = .ok (.getfield 52, 3) := by decide +kernel
theorem dX11_feed_47 : decode cX11_feed 47 = .ok (.lload_n 2, 1) := by decide +kernel
theorem dX11_feed_48 : decode cX11_feed 48 = .ok (.bipush 8, 2) := by decide +kernel
theorem dX11_feed_50 : decode cX11_feed 50 = .ok (.iload 4, 2) := by decide +kernel
theorem dX11_feed_52 : decode cX11_feed 52 = .ok (.imul, 1) := by decide +kernel
theorem dX11_feed_53 : decode cX11_feed 53 = .ok (.lshr, 1) := by decide +kernel
theorem dX11_feed_54 : decode cX11_feed 54 = .ok (.l2i, 1) := by decide +kernel
theorem dX11_feed_55 : decode cX11_feed 55 = .ok (.i2b, 1) := by decide +kernel
theorem dX11_feed_56 : decode cX11_feed 56 = .ok (.bastore, 1) := by decide +kernel
theorem dX11_feed_57 : decode cX11_feed 57 = .ok (.aload_n 0, 1) := by decide +kernel
theorem dX11_feed_58 : decode cX11_feed 58 = .ok (.dup, 1) := by decide +kernel
theorem dX11_feed_59 : decode cX11_feed 59 = .ok (.getfield 52, 3) := by decide +kernel
theorem dX11_feed_62 : decode cX11_feed 62 = .ok (.iconst 1, 1) := by decide +kernel
theorem dX11_feed_63 : decode cX11_feed 63 = .ok (.iadd, 1) := by decide +kernel
theorem dX11_feed_64 : decode cX11_feed 64 = .ok (.putfield 52, 3) := by decide +kernel
theorem dX11_feed_67 : decode cX11_feed 67 = .ok (.iinc 4 (-1), 3) := by decide +kernel
theorem dX11_feed_70 : decode cX11_feed 70 = .ok (.goto (-36), 3) := by decide +kernel
theorem dX11_feed_73 : decode cX11_feed 73 = .ok (.aload_n 0, 1) := by decide +kernel
theorem dX11_feed_74 : decode cX11_feed 74 = .ok (.getfield 52, 3) := by decide +kernel
theorem dX11_feed_77 : decode cX11_feed 77 = .ok (.ireturn, 1) := by decide +kernel
def B_X11_feed_34 (N : Nat) (k34 : Int64 → Int32 → sv_V → Option (Int32 × sv_V)) (l2 : Int64) (l4 : Int32) (V : sv_V) : Option (Int32 × sv_V) := if l4 < 0 then (some (V.1 0 1, V)) else (if sx_in (V.1 0 1) 12000 = true then sx_let (sv_I V 1 (V.1 0 1).toNatClampNeg (((l2 >>> (((8 : Int32) * l4).toInt64 &&& 63)).toInt32).toInt8.toInt32).toInt8.toInt32) (fun V3 => sx_let (sv_I V3 0 1 ((V3.1 0 1) + (1 : Int32))) (fun V4 => sx_let (l4 + (-1)) (fun x5 => k34 l2 x5 V4))) else none)
set_option maxRecDepth 20000 in
theorem tB_X11_feed_34 {g : sx_G} (hG : sx_Go g) {P : Option Value → sv_V → Prop} {r : Int32} {Vr : sv_V} (hP : P (some (.int r)) Vr) {N : Nat} {k34 : Int64 → Int32 → sv_V → Option (Int32 × sv_V)} (hk34 : ∀ (l2 : Int64) (l4 : Int32) (V : sv_V), k34 l2 l4 V = some (r, Vr) → sv_N g qX11_feed 0 34 [(0, .ref 0), (2, .long l2), (4, .int l4)] [] V P) {l2 : Int64} {l4 : Int32} {V : sv_V} (h : B_X11_feed_34 N k34 l2 l4 V = some (r, Vr)) : sv_N g qX11_feed 0 34 [(0, .ref 0), (2, .long l2), (4, .int l4)] [] V P := by
  unfold B_X11_feed_34 at h
  refine sx_iload (pc := 34) dX11_feed_34 sx_m2 ?_
  refine sx_if_lt (pc := 36) (tgt := 73) dX11_feed_36 (by decide) (fun c1 => ?_) (fun c1 => ?_)
  · have h := sx_pos c1 h
    refine sx_aload_n (pc := 73) dX11_feed_73 sx_m0 ?_
    refine sv_getI (pc := 74) hG dX11_feed_74 f_11_52 lay_0 rfl ?_
    exact sv_iret (pc := 77) dX11_feed_77 rfl h hP
  · have h := sx_neg c1 h
    refine sx_aload_n (pc := 39) dX11_feed_39 sx_m0 ?_
    refine sv_getA (pc := 40) hG dX11_feed_40 f_11_9 lay_0 rfl cr_0_0 ?_
    refine sx_aload_n (pc := 43) dX11_feed_43 sx_m0 ?_
    refine sv_getI (pc := 44) hG dX11_feed_44 f_11_52 lay_0 rfl ?_
    refine sx_lload_n (pc := 47) dX11_feed_47 sx_m1 ?_
    refine sx_bipush (pc := 48) (v := 8) dX11_feed_48 (by decide) ?_
    refine sx_iload (pc := 50) dX11_feed_50 sx_m2 ?_
    refine sx_imul (pc := 52) dX11_feed_52 ?_
    refine sx_lshr (pc := 53) dX11_feed_53 ?_
    refine sx_l2i (pc := 54) dX11_feed_54 ?_
    refine sx_i2b (pc := 55) dX11_feed_55 ?_
    obtain ⟨g2, h⟩ := sx_grd h
    obtain ⟨V3, hV3⟩ : ∃ z : sv_V, z = sv_I V 1 (V.1 0 1).toNatClampNeg (((l2 >>> (((8 : Int32) * l4).toInt64 &&& 63)).toInt32).toInt8.toInt32).toInt8.toInt32 := ⟨_, rfl⟩
    have h := sx_letE hV3 h
    refine sv_bast (pc := 56) hG dX11_feed_56 lay_1 g2 hV3 ?_
    refine sx_aload_n (pc := 57) dX11_feed_57 sx_m0 ?_
    refine sx_dup (pc := 58) dX11_feed_58 rfl ?_
    refine sv_getI (pc := 59) hG dX11_feed_59 f_11_52 lay_0 rfl ?_
    refine sx_iconst (pc := 62) (v := 1) dX11_feed_62 (by decide) ?_
    refine sx_iadd (pc := 63) dX11_feed_63 ?_
    obtain ⟨V4, hV4⟩ : ∃ z : sv_V, z = sv_I V3 0 1 ((V3.1 0 1) + (1 : Int32)) := ⟨_, rfl⟩
    have h := sx_letE hV4 h
    refine sv_putI (pc := 64) hG dX11_feed_64 f_11_52 lay_0 rfl hV4 ?_
    obtain ⟨x5, hx5⟩ : ∃ z : Int32, z = l4 + (-1) := ⟨_, rfl⟩
    have h := sx_letE hx5 h
    refine sx_iinc (pc := 67) (v := x5) (lo' := [(4, .int x5), (0, .ref 0), (2, .long l2)]) dX11_feed_67 sx_m2 (by rw [hx5]; rfl) (by decide) rfl ?_
    refine sx_goto (pc := 70) (tgt := 34) dX11_feed_70 (by decide) ?_
    refine sx_wk (sx_s1 sx_m1 (sx_s1 sx_m2 (sx_s1 sx_m0 sx_s0))) ?_
    exact hk34 _ _ _ h
theorem tL_X11_feed_34 {g : sx_G} (hG : sx_Go g) {P : Option Value → sv_V → Prop} {r : Int32} {Vr : sv_V} (hP : P (some (.int r)) Vr) {N : Nat}   : ∀ (n : Nat) (l2 : Int64) (l4 : Int32) (V : sv_V), sx_lp3 (B_X11_feed_34 N ) n l2 l4 V = some (r, Vr) → sv_N g qX11_feed 0 34 [(0, .ref 0), (2, .long l2), (4, .int l4)] [] V P :=
  sx_lp3_ind (fun k0 ih _ _ V h => tB_X11_feed_34 hG hP ih h)
def F_X11_feed (N : Nat) (l1 : Int32) (l2 : Int64) (V : sv_V) : Option (Int32 × sv_V) := if l1 < (1 : Int32) then (some ((-2 : Int32), V)) else (if l1 ≤ (8 : Int32) then (if ((V.1 0 1) + l1) ≤ (12000 : Int32) then (sx_let (l1 - (1 : Int32)) (fun x9 => sx_lp3 (B_X11_feed_34 N ) N l2 x9 V)) else (some ((-4 : Int32), V))) else (some ((-2 : Int32), V)))
set_option maxRecDepth 20000 in
theorem t_X11_feed {g : sx_G} (hG : sx_Go g) {P : Option Value → sv_V → Prop} {r : Int32} {Vr : sv_V} (hP : P (some (.int r)) Vr) {N : Nat} {l1 : Int32} {l2 : Int64} {V : sv_V} (h : F_X11_feed N l1 l2 V = some (r, Vr)) : sv_N g qX11_feed 0 0 [(0, .ref 0), (1, .int l1), (2, .long l2)] [] V P := by
  unfold F_X11_feed at h
  refine sx_iload_n (pc := 0) dX11_feed_0 sx_m1 ?_
  refine sx_iconst (pc := 1) (v := 1) dX11_feed_1 (by decide) ?_
  refine sx_icmp_lt (pc := 2) (tgt := 11) dX11_feed_2 (by decide) (fun c6 => ?_) (fun c6 => ?_)
  · have h := sx_pos c6 h
    refine sx_bipush (pc := 11) (v := (-2)) dX11_feed_11 (by decide) ?_
    exact sv_iret (pc := 13) dX11_feed_13 rfl h hP
  · have h := sx_neg c6 h
    refine sx_iload_n (pc := 5) dX11_feed_5 sx_m1 ?_
    refine sx_bipush (pc := 6) (v := 8) dX11_feed_6 (by decide) ?_
    refine sx_icmp_le (pc := 8) (tgt := 14) dX11_feed_8 (by decide) (fun c7 => ?_) (fun c7 => ?_)
    · have h := sx_pos c7 h
      refine sx_aload_n (pc := 14) dX11_feed_14 sx_m0 ?_
      refine sv_getI (pc := 15) hG dX11_feed_15 f_11_52 lay_0 rfl ?_
      refine sx_iload_n (pc := 18) dX11_feed_18 sx_m1 ?_
      refine sx_iadd (pc := 19) dX11_feed_19 ?_
      refine sx_sipush (pc := 20) (v := 12000) dX11_feed_20 (by decide) ?_
      refine sx_icmp_le (pc := 23) (tgt := 29) dX11_feed_23 (by decide) (fun c8 => ?_) (fun c8 => ?_)
      · have h := sx_pos c8 h
        refine sx_iload_n (pc := 29) dX11_feed_29 sx_m1 ?_
        refine sx_iconst (pc := 30) (v := 1) dX11_feed_30 (by decide) ?_
        refine sx_isub (pc := 31) dX11_feed_31 ?_
        refine sv_tI (fun x9 hx9 => ?_)
        have h := sx_letE hx9 h
        refine sx_istore (pc := 32) (lo' := [(4, .int x9), (0, .ref 0), (1, .int l1), (2, .long l2)]) dX11_feed_32 (by decide) rfl ?_
        refine sx_wk (sx_s1 sx_m1 (sx_s1 sx_m3 (sx_s1 sx_m0 sx_s0))) ?_
        exact tL_X11_feed_34 hG hP  N _ _ _ h
      · have h := sx_neg c8 h
        refine sx_bipush (pc := 26) (v := (-4)) dX11_feed_26 (by decide) ?_
        exact sv_iret (pc := 28) dX11_feed_28 rfl h hP
    · have h := sx_neg c7 h
      refine sx_bipush (pc := 11) (v := (-2)) dX11_feed_11 (by decide) ?_
      exact sv_iret (pc := 13) dX11_feed_13 rfl h hP
theorem dX11_wipe_0 : decode cX11_wipe 0 = .ok (.aload_n 0, 1) := by decide +kernel
theorem dX11_wipe_1 : decode cX11_wipe 1 = .ok (.getfield 52, 3) := by decide +kernel
theorem dX11_wipe_4 : decode cX11_wipe 4 = .ok (.istore_n 1, 1) := by decide +kernel
theorem dX11_wipe_5 : decode cX11_wipe 5 = .ok (.aload_n 0, 1) := by decide +kernel
theorem dX11_wipe_6 : decode cX11_wipe 6 = .ok (.iconst 0, 1) := by decide +kernel
theorem dX11_wipe_7 : decode cX11_wipe 7 = .ok (.putfield 52, 3) := by decide +kernel
theorem dX11_wipe_10 : decode cX11_wipe 10 = .ok (.iload_n 1, 1) := by decide +kernel
theorem dX11_wipe_11 : decode cX11_wipe 11 = .ok (.ireturn, 1) := by decide +kernel
def F_X11_wipe  (V : sv_V) : Option (Int32 × sv_V) := sx_let (V.1 0 1) (fun x1 => sx_let (sv_I V 0 1 (0 : Int32)) (fun V2 => some (x1, V2)))
set_option maxRecDepth 20000 in
theorem t_X11_wipe {g : sx_G} (hG : sx_Go g) {P : Option Value → sv_V → Prop} {r : Int32} {Vr : sv_V} (hP : P (some (.int r)) Vr)  {V : sv_V} (h : F_X11_wipe  V = some (r, Vr)) : sv_N g qX11_wipe 0 0 [(0, .ref 0)] [] V P := by
  unfold F_X11_wipe at h
  refine sx_aload_n (pc := 0) dX11_wipe_0 sx_m0 ?_
  refine sv_getI (pc := 1) hG dX11_wipe_1 f_11_52 lay_0 rfl ?_
  refine sv_tI (fun x1 hx1 => ?_)
  have h := sx_letE hx1 h
  refine sx_istore_n (pc := 4) (lo' := [(1, .int x1), (0, .ref 0)]) dX11_wipe_4 (by decide) rfl ?_
  refine sx_aload_n (pc := 5) dX11_wipe_5 sx_m1 ?_
  refine sx_iconst (pc := 6) (v := 0) dX11_wipe_6 (by decide) ?_
  obtain ⟨V2, hV2⟩ : ∃ z : sv_V, z = sv_I V 0 1 (0 : Int32) := ⟨_, rfl⟩
  have h := sx_letE hV2 h
  refine sv_putI (pc := 7) hG dX11_wipe_7 f_11_52 lay_0 rfl hV2 ?_
  refine sx_iload_n (pc := 10) dX11_wipe_10 sx_m0 ?_
  exact sv_iret (pc := 11) dX11_wipe_11 rfl h hP
theorem dX11_font_0 : decode cX11_font 0 = .ok (.aload_n 0, 1) := by decide +kernel
theorem dX11_font_1 : decode cX11_font 1 = .ok (.getfield 16, 3) := by decide +kernel
theorem dX11_font_4 : decode cX11_font 4 = .ok (.getfield 67, 3) := by decide +kernel
theorem dX11_font_7 : decode cX11_font 7 = .ok (.ifCond .ne 6, 3) := by decide +kernel
theorem dX11_font_10 : decode cX11_font 10 = .ok (.bipush (-3), 2) := by decide +kernel
theorem dX11_font_12 : decode cX11_font 12 = .ok (.ireturn, 1) := by decide +kernel
theorem dX11_font_13 : decode cX11_font 13 = .ok (.iload_n 1, 1) := by decide +kernel
theorem dX11_font_14 : decode cX11_font 14 = .ok (.tableswitch 139 0 9 #[54, 62, 70, 78, 86, 94, 102, 110, 123, 131], 54) := by decide +kernel
theorem dX11_font_68 : decode cX11_font 68 = .ok (.aload_n 0, 1) := by decide +kernel
theorem dX11_font_69 : decode cX11_font 69 = .ok (.getfield 16, 3) := by decide +kernel
theorem dX11_font_72 : decode cX11_font 72 = .ok (.getfield 74, 3) := by decide +kernel
theorem dX11_font_75 : decode cX11_font 75 = .ok (.ireturn, 1) := by decide +kernel
theorem dX11_font_76 : decode cX11_font 76 = .ok (.aload_n 0, 1) := by decide +kernel
theorem dX11_font_77 : decode cX11_font 77 = .ok (.getfield 16, 3) := by decide +kernel
theorem dX11_font_80 : decode cX11_font 80 = .ok (.getfield 71, 3) := by decide +kernel
theorem dX11_font_83 : decode cX11_font 83 = .ok (.ireturn, 1) := by decide +kernel
theorem dX11_font_84 : decode cX11_font 84 = .ok (.aload_n 0, 1) := by decide +kernel
theorem dX11_font_85 : decode cX11_font 85 = .ok (.getfield 16, 3) := by decide +kernel
theorem dX11_font_88 : decode cX11_font 88 = .ok (.getfield 77, 3) := by decide +kernel
theorem dX11_font_91 : decode cX11_font 91 = .ok (.ireturn, 1) := by decide +kernel
theorem dX11_font_92 : decode cX11_font 92 = .ok (.aload_n 0, 1) := by decide +kernel
theorem dX11_font_93 : decode cX11_font 93 = .ok (.getfield 16, 3) := by decide +kernel
theorem dX11_font_96 : decode cX11_font 96 = .ok (.getfield 80, 3) := by decide +kernel
theorem dX11_font_99 : decode cX11_font 99 = .ok (.ireturn, 1) := by decide +kernel
theorem dX11_font_100 : decode cX11_font 100 = .ok (.aload_n 0, 1) := by decide +kernel
theorem dX11_font_101 : decode cX11_font 101 = .ok (.getfield 16, 3) := by decide +kernel
theorem dX11_font_104 : decode cX11_font 104 = .ok (.getfield 83, 3) := by decide +kernel
theorem dX11_font_107 : decode cX11_font 107 = .ok (.ireturn, 1) := by decide +kernel
theorem dX11_font_108 : decode cX11_font 108 = .ok (.aload_n 0, 1) := by decide +kernel
theorem dX11_font_109 : decode cX11_font 109 = .ok (.getfield 16, 3) := by decide +kernel
theorem dX11_font_112 : decode cX11_font 112 = .ok (.getfield 86, 3) := by decide +kernel
theorem dX11_font_115 : decode cX11_font 115 = .ok (.ireturn, 1) := by decide +kernel
theorem dX11_font_116 : decode cX11_font 116 = .ok (.aload_n 0, 1) := by decide +kernel
theorem dX11_font_117 : decode cX11_font 117 = .ok (.getfield 16, 3) := by decide +kernel
theorem dX11_font_120 : decode cX11_font 120 = .ok (.getfield 89, 3) := by decide +kernel
theorem dX11_font_123 : decode cX11_font 123 = .ok (.ireturn, 1) := by decide +kernel
theorem dX11_font_124 : decode cX11_font 124 = .ok (.aload_n 0, 1) := by decide +kernel
theorem dX11_font_125 : decode cX11_font 125 = .ok (.getfield 16, 3) := by decide +kernel
theorem dX11_font_128 : decode cX11_font 128 = .ok (.getfield 92, 3) := by decide +kernel
theorem dX11_font_131 : decode cX11_font 131 = .ok (.bipush 8, 2) := by decide +kernel
theorem dX11_font_133 : decode cX11_font 133 = .ok (.iaload, 1) := by decide +kernel
theorem dX11_font_134 : decode cX11_font 134 = .ok (.iconst 2, 1) := by decide +kernel
theorem dX11_font_135 : decode cX11_font 135 = .ok (.idiv, 1) := by decide +kernel
theorem dX11_font_136 : decode cX11_font 136 = .ok (.ireturn, 1) := by decide +kernel
theorem dX11_font_137 : decode cX11_font 137 = .ok (.aload_n 0, 1) := by decide +kernel
theorem dX11_font_138 : decode cX11_font 138 = .ok (.getfield 16, 3) := by decide +kernel
theorem dX11_font_141 : decode cX11_font 141 = .ok (.getfield 95, 3) := by decide +kernel
theorem dX11_font_144 : decode cX11_font 144 = .ok (.ireturn, 1) := by decide +kernel
theorem dX11_font_145 : decode cX11_font 145 = .ok (.aload_n 0, 1) := by decide +kernel
theorem dX11_font_146 : decode cX11_font 146 = .ok (.getfield 16, 3) := by decide +kernel
theorem dX11_font_149 : decode cX11_font 149 = .ok (.getfield 98, 3) := by decide +kernel
theorem dX11_font_152 : decode cX11_font 152 = .ok (.ireturn, 1) := by decide +kernel
theorem dX11_font_153 : decode cX11_font 153 = .ok (.bipush (-2), 2) := by decide +kernel
theorem dX11_font_155 : decode cX11_font 155 = .ok (.ireturn, 1) := by decide +kernel
def F_X11_font (l1 : Int32) (V : sv_V) : Option (Int32 × sv_V) := if (V.1 2 2) = 0 then (some ((-3 : Int32), V)) else (if l1 = 0 then (some (V.1 2 6, V)) else (if l1 = 1 then (some (V.1 2 7, V)) else (if l1 = 2 then (some (V.1 2 8, V)) else (if l1 = 3 then (some (V.1 2 9, V)) else (if l1 = 4 then (some (V.1 2 5, V)) else (if l1 = 5 then (some (V.1 2 11, V)) else (if l1 = 6 then (some (V.1 2 15, V)) else (if l1 = 7 then (some ((V.1 5 (8 : Int32).toNatClampNeg) / (2 : Int32), V)) else (if l1 = 8 then (some (V.1 2 14, V)) else (if l1 = 9 then (some (V.1 2 1, V)) else (some ((-2 : Int32), V))))))))))))
set_option maxRecDepth 20000 in
theorem t_X11_font {g : sx_G} (hG : sx_Go g) {P : Option Value → sv_V → Prop} {r : Int32} {Vr : sv_V} (hP : P (some (.int r)) Vr) {l1 : Int32} {V : sv_V} (h : F_X11_font l1 V = some (r, Vr)) : sv_N g qX11_font 0 0 [(0, .ref 0), (1, .int l1)] [] V P := by
  unfold F_X11_font at h
  refine sx_aload_n (pc := 0) dX11_font_0 sx_m0 ?_
  refine sv_getO (pc := 1) hG dX11_font_1 f_11_16 lay_0 rfl cr_0_2 ?_
  refine sv_getZ (pc := 4) hG dX11_font_4 f_11_67 lay_2 rfl ?_
  refine sx_if_ne (pc := 7) (tgt := 13) dX11_font_7 (by decide) (fun c1 => ?_) (fun c1 => ?_)
  · have h := sx_neg c1 h
    refine sx_iload_n (pc := 13) dX11_font_13 sx_m1 ?_
    by_cases c2 : l1 = 0
    · have h := sx_pos c2 h
      refine sx_tabI (pc := 14) (off := 54) (tgt := 68) dX11_font_14 (by rw [c2]; decide) (by rw [c2]; decide) (by rw [c2]; rfl) (by decide) ?_
      refine sx_aload_n (pc := 68) dX11_font_68 sx_m0 ?_
      refine sv_getO (pc := 69) hG dX11_font_69 f_11_16 lay_0 rfl cr_0_2 ?_
      refine sv_getI (pc := 72) hG dX11_font_72 f_11_74 lay_2 rfl ?_
      exact sv_iret (pc := 75) dX11_font_75 rfl h hP
    have h := sx_neg c2 h
    by_cases c3 : l1 = 1
    · have h := sx_pos c3 h
      refine sx_tabI (pc := 14) (off := 62) (tgt := 76) dX11_font_14 (by rw [c3]; decide) (by rw [c3]; decide) (by rw [c3]; rfl) (by decide) ?_
      refine sx_aload_n (pc := 76) dX11_font_76 sx_m0 ?_
      refine sv_getO (pc := 77) hG dX11_font_77 f_11_16 lay_0 rfl cr_0_2 ?_
      refine sv_getI (pc := 80) hG dX11_font_80 f_11_71 lay_2 rfl ?_
      exact sv_iret (pc := 83) dX11_font_83 rfl h hP
    have h := sx_neg c3 h
    by_cases c4 : l1 = 2
    · have h := sx_pos c4 h
      refine sx_tabI (pc := 14) (off := 70) (tgt := 84) dX11_font_14 (by rw [c4]; decide) (by rw [c4]; decide) (by rw [c4]; rfl) (by decide) ?_
      refine sx_aload_n (pc := 84) dX11_font_84 sx_m0 ?_
      refine sv_getO (pc := 85) hG dX11_font_85 f_11_16 lay_0 rfl cr_0_2 ?_
      refine sv_getI (pc := 88) hG dX11_font_88 f_11_77 lay_2 rfl ?_
      exact sv_iret (pc := 91) dX11_font_91 rfl h hP
    have h := sx_neg c4 h
    by_cases c5 : l1 = 3
    · have h := sx_pos c5 h
      refine sx_tabI (pc := 14) (off := 78) (tgt := 92) dX11_font_14 (by rw [c5]; decide) (by rw [c5]; decide) (by rw [c5]; rfl) (by decide) ?_
      refine sx_aload_n (pc := 92) dX11_font_92 sx_m0 ?_
      refine sv_getO (pc := 93) hG dX11_font_93 f_11_16 lay_0 rfl cr_0_2 ?_
      refine sv_getI (pc := 96) hG dX11_font_96 f_11_80 lay_2 rfl ?_
      exact sv_iret (pc := 99) dX11_font_99 rfl h hP
    have h := sx_neg c5 h
    by_cases c6 : l1 = 4
    · have h := sx_pos c6 h
      refine sx_tabI (pc := 14) (off := 86) (tgt := 100) dX11_font_14 (by rw [c6]; decide) (by rw [c6]; decide) (by rw [c6]; rfl) (by decide) ?_
      refine sx_aload_n (pc := 100) dX11_font_100 sx_m0 ?_
      refine sv_getO (pc := 101) hG dX11_font_101 f_11_16 lay_0 rfl cr_0_2 ?_
      refine sv_getI (pc := 104) hG dX11_font_104 f_11_83 lay_2 rfl ?_
      exact sv_iret (pc := 107) dX11_font_107 rfl h hP
    have h := sx_neg c6 h
    by_cases c7 : l1 = 5
    · have h := sx_pos c7 h
      refine sx_tabI (pc := 14) (off := 94) (tgt := 108) dX11_font_14 (by rw [c7]; decide) (by rw [c7]; decide) (by rw [c7]; rfl) (by decide) ?_
      refine sx_aload_n (pc := 108) dX11_font_108 sx_m0 ?_
      refine sv_getO (pc := 109) hG dX11_font_109 f_11_16 lay_0 rfl cr_0_2 ?_
      refine sv_getI (pc := 112) hG dX11_font_112 f_11_86 lay_2 rfl ?_
      exact sv_iret (pc := 115) dX11_font_115 rfl h hP
    have h := sx_neg c7 h
    by_cases c8 : l1 = 6
    · have h := sx_pos c8 h
      refine sx_tabI (pc := 14) (off := 102) (tgt := 116) dX11_font_14 (by rw [c8]; decide) (by rw [c8]; decide) (by rw [c8]; rfl) (by decide) ?_
      refine sx_aload_n (pc := 116) dX11_font_116 sx_m0 ?_
      refine sv_getO (pc := 117) hG dX11_font_117 f_11_16 lay_0 rfl cr_0_2 ?_
      refine sv_getI (pc := 120) hG dX11_font_120 f_11_89 lay_2 rfl ?_
      exact sv_iret (pc := 123) dX11_font_123 rfl h hP
    have h := sx_neg c8 h
    by_cases c9 : l1 = 7
    · have h := sx_pos c9 h
      refine sx_tabI (pc := 14) (off := 110) (tgt := 124) dX11_font_14 (by rw [c9]; decide) (by rw [c9]; decide) (by rw [c9]; rfl) (by decide) ?_
      refine sx_aload_n (pc := 124) dX11_font_124 sx_m0 ?_
      refine sv_getO (pc := 125) hG dX11_font_125 f_11_16 lay_0 rfl cr_0_2 ?_
      refine sv_getA (pc := 128) hG dX11_font_128 f_11_92 lay_2 rfl cr_2_4 ?_
      refine sx_bipush (pc := 131) (v := 8) dX11_font_131 (by decide) ?_
      refine sv_iald (pc := 133) hG dX11_font_133 lay_5 (by decide) ?_
      refine sx_iconst (pc := 134) (v := 2) dX11_font_134 (by decide) ?_
      refine sx_idiv (pc := 135) dX11_font_135 (by decide) ?_
      exact sv_iret (pc := 136) dX11_font_136 rfl h hP
    have h := sx_neg c9 h
    by_cases c10 : l1 = 8
    · have h := sx_pos c10 h
      refine sx_tabI (pc := 14) (off := 123) (tgt := 137) dX11_font_14 (by rw [c10]; decide) (by rw [c10]; decide) (by rw [c10]; rfl) (by decide) ?_
      refine sx_aload_n (pc := 137) dX11_font_137 sx_m0 ?_
      refine sv_getO (pc := 138) hG dX11_font_138 f_11_16 lay_0 rfl cr_0_2 ?_
      refine sv_getI (pc := 141) hG dX11_font_141 f_11_95 lay_2 rfl ?_
      exact sv_iret (pc := 144) dX11_font_144 rfl h hP
    have h := sx_neg c10 h
    by_cases c11 : l1 = 9
    · have h := sx_pos c11 h
      refine sx_tabI (pc := 14) (off := 131) (tgt := 145) dX11_font_14 (by rw [c11]; decide) (by rw [c11]; decide) (by rw [c11]; rfl) (by decide) ?_
      refine sx_aload_n (pc := 145) dX11_font_145 sx_m0 ?_
      refine sv_getO (pc := 146) hG dX11_font_146 f_11_16 lay_0 rfl cr_0_2 ?_
      refine sv_getI (pc := 149) hG dX11_font_149 f_11_98 lay_2 rfl ?_
      exact sv_iret (pc := 152) dX11_font_152 rfl h hP
    have h := sx_neg c11 h
    refine sx_tabO (pc := 14) (tgt := 153) dX11_font_14 (by have ec2 := lv_neT (a := 0) c2 rfl; have ec3 := lv_neT (a := 1) c3 rfl; have ec4 := lv_neT (a := 2) c4 rfl; have ec5 := lv_neT (a := 3) c5 rfl; have ec6 := lv_neT (a := 4) c6 rfl; have ec7 := lv_neT (a := 5) c7 rfl; have ec8 := lv_neT (a := 6) c8 rfl; have ec9 := lv_neT (a := 7) c9 rfl; have ec10 := lv_neT (a := 8) c10 rfl; have ec11 := lv_neT (a := 9) c11 rfl; omega) (by decide) ?_
    refine sx_bipush (pc := 153) (v := (-2)) dX11_font_153 (by decide) ?_
    exact sv_iret (pc := 155) dX11_font_155 rfl h hP
  · have h := sx_pos c1 h
    refine sx_bipush (pc := 10) (v := (-3)) dX11_font_10 (by decide) ?_
    exact sv_iret (pc := 12) dX11_font_12 rfl h hP
theorem dX11_table_0 : decode cX11_table 0 = .ok (.aload_n 0, 1) := by decide +kernel
theorem dX11_table_1 : decode cX11_table 1 = .ok (.getfield 16, 3) := by decide +kernel
theorem dX11_table_4 : decode cX11_table 4 = .ok (.getfield 67, 3) := by decide +kernel
theorem dX11_table_7 : decode cX11_table 7 = .ok (.ifCond .ne 7, 3) := by decide +kernel
theorem dX11_table_10 : decode cX11_table 10 = .ok (.ldc2_w 101, 3) := by decide +kernel
theorem dX11_table_13 : decode cX11_table 13 = .ok (.lreturn, 1) := by decide +kernel
theorem dX11_table_14 : decode cX11_table 14 = .ok (.iload_n 1, 1) := by decide +kernel
theorem dX11_table_15 : decode cX11_table 15 = .ok (.ifCond .lt 14, 3) := by decide +kernel
theorem dX11_table_18 : decode cX11_table 18 = .ok (.iload_n 1, 1) := by decide +kernel
theorem dX11_table_19 : decode cX11_table 19 = .ok (.aload_n 0, 1) := by decide +kernel
theorem dX11_table_20 : decode cX11_table 20 = .ok (.getfield 16, 3) := by decide +kernel
theorem dX11_table_23 : decode cX11_table 23 = .ok (.getfield 83, 3) := by decide +kernel
theorem dX11_table_26 : decode cX11_table 26 = .ok (.if_icmp .lt 7, 3) := by decide +kernel
theorem dX11_table_29 : decode cX11_table 29 = .ok (.ldc2_w 103, 3) := by decide +kernel
theorem dX11_table_32 : decode cX11_table 32 = .ok (.lreturn, 1) := by decide +kernel
theorem dX11_table_33 : decode cX11_table 33 = .ok (.iload_n 2, 1) := by decide +kernel
theorem dX11_table_34 : decode cX11_table 34 = .ok (.ifCond .lt 8, 3) := by decide +kernel
theorem dX11_table_37 : decode cX11_table 37 = .ok (.iload_n 2, 1) := by decide +kernel
theorem dX11_table_38 : decode cX11_table 38 = .ok (.iconst 3, 1) := by decide +kernel
theorem dX11_table_39 : decode cX11_table 39 = .ok (.if_icmp .le 7, 3) := by decide +kernel
theorem dX11_table_42 : decode cX11_table 42 = .ok (.ldc2_w 105, 3) := by decide +kernel
theorem dX11_table_45 : decode cX11_table 45 = .ok (.lreturn, 1) := by decide +kernel
theorem dX11_table_46 : decode cX11_table 46 = .ok (.aload_n 0, 1) := by decide +kernel
theorem dX11_table_47 : decode cX11_table 47 = .ok (.getfield 16, 3) := by decide +kernel
theorem dX11_table_50 : decode cX11_table 50 = .ok (.bipush 12, 2) := by decide +kernel
theorem dX11_table_52 : decode cX11_table 52 = .ok (.bipush 16, 2) := by decide +kernel
theorem dX11_table_54 : decode cX11_table 54 = .ok (.iload_n 1, 1) := by decide +kernel
theorem dX11_table_55 : decode cX11_table 55 = .ok (.imul, 1) := by decide +kernel
theorem dX11_table_56 : decode cX11_table 56 = .ok (.iadd, 1) := by decide +kernel
theorem dX11_table_57 : decode cX11_table 57 = .ok (.iconst 4, 1) := by decide +kernel
theorem dX11_table_58 : decode cX11_table 58 = .ok (.iload_n 2, 1) := by decide +kernel
theorem dX11_table_59 : decode cX11_table 59 = .ok (.imul, 1) := by decide +kernel
theorem dX11_table_60 : decode cX11_table 60 = .ok (.iadd, 1) := by decide +kernel
theorem dX11_table_61 : decode cX11_table 61 = .ok (.invokevirtual 107, 3) := by decide +kernel
theorem dX11_table_64 : decode cX11_table 64 = .ok (.lreturn, 1) := by decide +kernel
def F_X11_table (l1 : Int32) (l2 : Int32) (V : sv_V) : Option (Int64 × sv_V) := if (V.1 2 2) = 0 then (some ((-3 : Int64), V)) else (if l1 < 0 then (some ((-1 : Int64), V)) else (if l1 < (V.1 2 5) then (if l2 < 0 then (some ((-2 : Int64), V)) else (if l2 ≤ (3 : Int32) then ((F_X2_u4 (((12 : Int32) + ((16 : Int32) * l1)) + ((4 : Int32) * l2)) V).bind (fun (x8, V6) => some (x8, V6))) else (some ((-2 : Int64), V)))) else (some ((-1 : Int64), V))))
set_option maxRecDepth 20000 in
theorem t_X11_table {g : sx_G} (hG : sx_Go g) {P : Option Value → sv_V → Prop} {r : Int64} {Vr : sv_V} (hP : P (some (.long r)) Vr) {l1 : Int32} {l2 : Int32} {V : sv_V} (h : F_X11_table l1 l2 V = some (r, Vr)) : sv_N g qX11_table 2 0 [(0, .ref 0), (1, .int l1), (2, .int l2)] [] V P := by
  unfold F_X11_table at h
  refine sx_aload_n (pc := 0) dX11_table_0 sx_m0 ?_
  refine sv_getO (pc := 1) hG dX11_table_1 f_11_16 lay_0 rfl cr_0_2 ?_
  refine sv_getZ (pc := 4) hG dX11_table_4 f_11_67 lay_2 rfl ?_
  refine sx_if_ne (pc := 7) (tgt := 14) dX11_table_7 (by decide) (fun c1 => ?_) (fun c1 => ?_)
  · have h := sx_neg c1 h
    refine sx_iload_n (pc := 14) dX11_table_14 sx_m1 ?_
    refine sx_if_lt (pc := 15) (tgt := 29) dX11_table_15 (by decide) (fun c2 => ?_) (fun c2 => ?_)
    · have h := sx_pos c2 h
      refine sx_ldc2 (pc := 29) dX11_table_29 k_X11_103 ?_
      exact sv_lret (pc := 32) dX11_table_32 rfl h hP
    · have h := sx_neg c2 h
      refine sx_iload_n (pc := 18) dX11_table_18 sx_m1 ?_
      refine sx_aload_n (pc := 19) dX11_table_19 sx_m0 ?_
      refine sv_getO (pc := 20) hG dX11_table_20 f_11_16 lay_0 rfl cr_0_2 ?_
      refine sv_getI (pc := 23) hG dX11_table_23 f_11_83 lay_2 rfl ?_
      refine sx_icmp_lt (pc := 26) (tgt := 33) dX11_table_26 (by decide) (fun c3 => ?_) (fun c3 => ?_)
      · have h := sx_pos c3 h
        refine sx_iload_n (pc := 33) dX11_table_33 sx_m2 ?_
        refine sx_if_lt (pc := 34) (tgt := 42) dX11_table_34 (by decide) (fun c4 => ?_) (fun c4 => ?_)
        · have h := sx_pos c4 h
          refine sx_ldc2 (pc := 42) dX11_table_42 k_X11_105 ?_
          exact sv_lret (pc := 45) dX11_table_45 rfl h hP
        · have h := sx_neg c4 h
          refine sx_iload_n (pc := 37) dX11_table_37 sx_m2 ?_
          refine sx_iconst (pc := 38) (v := 3) dX11_table_38 (by decide) ?_
          refine sx_icmp_le (pc := 39) (tgt := 46) dX11_table_39 (by decide) (fun c5 => ?_) (fun c5 => ?_)
          · have h := sx_pos c5 h
            refine sx_aload_n (pc := 46) dX11_table_46 sx_m0 ?_
            refine sv_getO (pc := 47) hG dX11_table_47 f_11_16 lay_0 rfl cr_0_2 ?_
            refine sx_bipush (pc := 50) (v := 12) dX11_table_50 (by decide) ?_
            refine sx_bipush (pc := 52) (v := 16) dX11_table_52 (by decide) ?_
            refine sx_iload_n (pc := 54) dX11_table_54 sx_m1 ?_
            refine sx_imul (pc := 55) dX11_table_55 ?_
            refine sx_iadd (pc := 56) dX11_table_56 ?_
            refine sx_iconst (pc := 57) (v := 4) dX11_table_57 (by decide) ?_
            refine sx_iload_n (pc := 58) dX11_table_58 sx_m2 ?_
            refine sx_imul (pc := 59) dX11_table_59 ?_
            refine sx_iadd (pc := 60) dX11_table_60 ?_
            obtain ⟨⟨x8, V6⟩, g7, h⟩ := sx_bnd h
            refine sv_cV (pc := 61) (y := qX2_u4) (o := (some (.long x8))) (as := [.int (((12 : Int32) + ((16 : Int32) * l1)) + ((4 : Int32) * l2))]) (V1 := V6) hG dX11_table_61 l_X11_107 y0X2_u4 yvX2_u4 rfl (Nat.le_of_ble_eq_true rfl) lay_2 kr_2 (by decide) (Nat.le_of_ble_eq_true rfl) rfl rfl rfl (t_X2_u4 hG ⟨rfl, rfl⟩ g7) ?_
            exact sv_lret (pc := 64) dX11_table_64 rfl h hP
          · have h := sx_neg c5 h
            refine sx_ldc2 (pc := 42) dX11_table_42 k_X11_105 ?_
            exact sv_lret (pc := 45) dX11_table_45 rfl h hP
      · have h := sx_neg c3 h
        refine sx_ldc2 (pc := 29) dX11_table_29 k_X11_103 ?_
        exact sv_lret (pc := 32) dX11_table_32 rfl h hP
  · have h := sx_pos c1 h
    refine sx_ldc2 (pc := 10) dX11_table_10 k_X11_101 ?_
    exact sv_lret (pc := 13) dX11_table_13 rfl h hP
theorem dX11_kern_0 : decode cX11_kern 0 = .ok (.aload_n 0, 1) := by decide +kernel
theorem dX11_kern_1 : decode cX11_kern 1 = .ok (.getfield 16, 3) := by decide +kernel
theorem dX11_kern_4 : decode cX11_kern 4 = .ok (.getfield 67, 3) := by decide +kernel
theorem dX11_kern_7 : decode cX11_kern 7 = .ok (.ifCond .ne 6, 3) := by decide +kernel
theorem dX11_kern_10 : decode cX11_kern 10 = .ok (.bipush (-3), 2) := by decide +kernel
theorem dX11_kern_12 : decode cX11_kern 12 = .ok (.ireturn, 1) := by decide +kernel
theorem dX11_kern_13 : decode cX11_kern 13 = .ok (.aload_n 0, 1) := by decide +kernel
theorem dX11_kern_14 : decode cX11_kern 14 = .ok (.getfield 16, 3) := by decide +kernel
theorem dX11_kern_17 : decode cX11_kern 17 = .ok (.iload_n 1, 1) := by decide +kernel
theorem dX11_kern_18 : decode cX11_kern 18 = .ok (.invokevirtual 116, 3) := by decide +kernel
theorem dX11_kern_21 : decode cX11_kern 21 = .ok (.ifCond .eq 14, 3) := by decide +kernel
theorem dX11_kern_24 : decode cX11_kern 24 = .ok (.aload_n 0, 1) := by decide +kernel
theorem dX11_kern_25 : decode cX11_kern 25 = .ok (.getfield 16, 3) := by decide +kernel
theorem dX11_kern_28 : decode cX11_kern 28 = .ok (.iload_n 2, 1) := by decide +kernel
theorem dX11_kern_29 : decode cX11_kern 29 = .ok (.invokevirtual 116, 3) := by decide +kernel
theorem dX11_kern_32 : decode cX11_kern 32 = .ok (.ifCond .ne 5, 3) := by decide +kernel
theorem dX11_kern_35 : decode cX11_kern 35 = .ok (.iconst (-1), 1) := by decide +kernel
theorem dX11_kern_36 : decode cX11_kern 36 = .ok (.ireturn, 1) := by decide +kernel
theorem dX11_kern_37 : decode cX11_kern 37 = .ok (.aload_n 0, 1) := by decide +kernel
theorem dX11_kern_38 : decode cX11_kern 38 = .ok (.getfield 16, 3) := by decide +kernel
theorem dX11_kern_41 : decode cX11_kern 41 = .ok (.iload_n 1, 1) := by decide +kernel
theorem dX11_kern_42 : decode cX11_kern 42 = .ok (.iload_n 2, 1) := by decide +kernel
theorem dX11_kern_43 : decode cX11_kern 43 = .ok (.invokevirtual 130, 3) := by decide +kernel
theorem dX11_kern_46 : decode cX11_kern 46 = .ok (.ireturn, 1) := by decide +kernel
def F_X11_kern (N : Nat) (l1 : Int32) (l2 : Int32) (V : sv_V) : Option (Int32 × sv_V) := if (V.1 2 2) = 0 then (some ((-3 : Int32), V)) else ((F_X2_hasGlyph l1 V).bind (fun (x4, V2) => if x4 = 0 then (some ((-1 : Int32), V2)) else ((F_X2_hasGlyph l2 V2).bind (fun (x8, V6) => if x8 = 0 then (some ((-1 : Int32), V6)) else ((F_X2_kernOf N l1 l2 V6).bind (fun (x12, V10) => some (x12, V10)))))))
set_option maxRecDepth 20000 in
theorem t_X11_kern {g : sx_G} (hG : sx_Go g) {P : Option Value → sv_V → Prop} {r : Int32} {Vr : sv_V} (hP : P (some (.int r)) Vr) {N : Nat} {l1 : Int32} {l2 : Int32} {V : sv_V} (h : F_X11_kern N l1 l2 V = some (r, Vr)) : sv_N g qX11_kern 2 0 [(0, .ref 0), (1, .int l1), (2, .int l2)] [] V P := by
  unfold F_X11_kern at h
  refine sx_aload_n (pc := 0) dX11_kern_0 sx_m0 ?_
  refine sv_getO (pc := 1) hG dX11_kern_1 f_11_16 lay_0 rfl cr_0_2 ?_
  refine sv_getZ (pc := 4) hG dX11_kern_4 f_11_67 lay_2 rfl ?_
  refine sx_if_ne (pc := 7) (tgt := 13) dX11_kern_7 (by decide) (fun c1 => ?_) (fun c1 => ?_)
  · have h := sx_neg c1 h
    refine sx_aload_n (pc := 13) dX11_kern_13 sx_m0 ?_
    refine sv_getO (pc := 14) hG dX11_kern_14 f_11_16 lay_0 rfl cr_0_2 ?_
    refine sx_iload_n (pc := 17) dX11_kern_17 sx_m1 ?_
    obtain ⟨⟨x4, V2⟩, g3, h⟩ := sx_bnd h
    refine sv_cV (pc := 18) (y := qX2_hasGlyph) (o := (some (.int x4))) (as := [.int l1]) (V1 := V2) hG dX11_kern_18 l_X11_116 y0X2_hasGlyph yvX2_hasGlyph rfl (Nat.le_of_ble_eq_true rfl) lay_2 kr_2 (by decide) (Nat.le_of_ble_eq_true rfl) rfl rfl rfl (t_X2_hasGlyph hG ⟨rfl, rfl⟩ g3) ?_
    refine sx_if_eq (pc := 21) (tgt := 35) dX11_kern_21 (by decide) (fun c5 => ?_) (fun c5 => ?_)
    · have h := sx_pos c5 h
      refine sx_iconst (pc := 35) (v := (-1)) dX11_kern_35 (by decide) ?_
      exact sv_iret (pc := 36) dX11_kern_36 rfl h hP
    · have h := sx_neg c5 h
      refine sx_aload_n (pc := 24) dX11_kern_24 sx_m0 ?_
      refine sv_getO (pc := 25) hG dX11_kern_25 f_11_16 lay_0 rfl cr_0_2 ?_
      refine sx_iload_n (pc := 28) dX11_kern_28 sx_m2 ?_
      obtain ⟨⟨x8, V6⟩, g7, h⟩ := sx_bnd h
      refine sv_cV (pc := 29) (y := qX2_hasGlyph) (o := (some (.int x8))) (as := [.int l2]) (V1 := V6) hG dX11_kern_29 l_X11_116 y0X2_hasGlyph yvX2_hasGlyph rfl (Nat.le_of_ble_eq_true rfl) lay_2 kr_2 (by decide) (Nat.le_of_ble_eq_true rfl) rfl rfl rfl (t_X2_hasGlyph hG ⟨rfl, rfl⟩ g7) ?_
      refine sx_if_ne (pc := 32) (tgt := 37) dX11_kern_32 (by decide) (fun c9 => ?_) (fun c9 => ?_)
      · have h := sx_neg c9 h
        refine sx_aload_n (pc := 37) dX11_kern_37 sx_m0 ?_
        refine sv_getO (pc := 38) hG dX11_kern_38 f_11_16 lay_0 rfl cr_0_2 ?_
        refine sx_iload_n (pc := 41) dX11_kern_41 sx_m1 ?_
        refine sx_iload_n (pc := 42) dX11_kern_42 sx_m2 ?_
        obtain ⟨⟨x12, V10⟩, g11, h⟩ := sx_bnd h
        refine sv_cV (pc := 43) (y := qX2_kernOf) (o := (some (.int x12))) (as := [.int l1, .int l2]) (V1 := V10) hG dX11_kern_43 l_X11_130 y0X2_kernOf yvX2_kernOf rfl (Nat.le_of_ble_eq_true rfl) lay_2 kr_2 (by decide) (Nat.le_of_ble_eq_true rfl) rfl rfl rfl (t_X2_kernOf hG ⟨rfl, rfl⟩ g11) ?_
        exact sv_iret (pc := 46) dX11_kern_46 rfl h hP
      · have h := sx_pos c9 h
        refine sx_iconst (pc := 35) (v := (-1)) dX11_kern_35 (by decide) ?_
        exact sv_iret (pc := 36) dX11_kern_36 rfl h hP
  · have h := sx_pos c1 h
    refine sx_bipush (pc := 10) (v := (-3)) dX11_kern_10 (by decide) ?_
    exact sv_iret (pc := 12) dX11_kern_12 rfl h hP
theorem dX11_point_0 : decode cX11_point 0 = .ok (.aload_n 0, 1) := by decide +kernel
theorem dX11_point_1 : decode cX11_point 1 = .ok (.getfield 37, 3) := by decide +kernel
theorem dX11_point_4 : decode cX11_point 4 = .ok (.getfield 143, 3) := by decide +kernel
theorem dX11_point_7 : decode cX11_point 7 = .ok (.iconst 0, 1) := by decide +kernel
theorem dX11_point_8 : decode cX11_point 8 = .ok (.aaload, 1) := by decide +kernel
theorem dX11_point_9 : decode cX11_point 9 = .ok (.astore_n 3, 1) := by decide +kernel
theorem dX11_point_10 : decode cX11_point 10 = .ok (.aload_n 0, 1) := by decide +kernel
theorem dX11_point_11 : decode cX11_point 11 = .ok (.getfield 37, 3) := by decide +kernel
theorem dX11_point_14 : decode cX11_point 14 = .ok (.getfield 147, 3) := by decide +kernel
theorem dX11_point_17 : decode cX11_point 17 = .ok (.ifCond .eq 15, 3) := by decide +kernel
theorem dX11_point_20 : decode cX11_point 20 = .ok (.iload_n 1, 1) := by decide +kernel
theorem dX11_point_21 : decode cX11_point 21 = .ok (.ifCond .lt 11, 3) := by decide +kernel
theorem dX11_point_24 : decode cX11_point 24 = .ok (.iload_n 1, 1) := by decide +kernel
theorem dX11_point_25 : decode cX11_point 25 = .ok (.aload_n 3, 1) := by decide +kernel
theorem dX11_point_26 : decode cX11_point 26 = .ok (.getfield 150, 3) := by decide +kernel
theorem dX11_point_29 : decode cX11_point 29 = .ok (.if_icmp .lt 5, 3) := by decide +kernel
theorem dX11_point_32 : decode cX11_point 32 = .ok (.iconst 0, 1) := by decide +kernel
theorem dX11_point_33 : decode cX11_point 33 = .ok (.ireturn, 1) := by decide +kernel
theorem dX11_point_34 : decode cX11_point 34 = .ok (.iload_n 2, 1) := by decide +kernel
theorem dX11_point_35 : decode cX11_point 35 = .ok (.tableswitch 56 0 3 #[29, 36, 43, 50], 29) := by decide +kernel
theorem dX11_point_64 : decode cX11_point 64 = .ok (.aload_n 3, 1) := by decide +kernel
theorem dX11_point_65 : decode cX11_point 65 = .ok (.getfield 155, 3) := by decide +kernel
theorem dX11_point_68 : decode cX11_point 68 = .ok (.iload_n 1, 1) := by decide +kernel
theorem dX11_point_69 : decode cX11_point 69 = .ok (.iaload, 1) := by decide +kernel
theorem dX11_point_70 : decode cX11_point 70 = .ok (.ireturn, 1) := by decide +kernel
theorem dX11_point_71 : decode cX11_point 71 = .ok (.aload_n 3, 1) := by decide +kernel
theorem dX11_point_72 : decode cX11_point 72 = .ok (.getfield 158, 3) := by decide +kernel
theorem dX11_point_75 : decode cX11_point 75 = .ok (.iload_n 1, 1) := by decide +kernel
theorem dX11_point_76 : decode cX11_point 76 = .ok (.iaload, 1) := by decide +kernel
theorem dX11_point_77 : decode cX11_point 77 = .ok (.ireturn, 1) := by decide +kernel
theorem dX11_point_78 : decode cX11_point 78 = .ok (.aload_n 3, 1) := by decide +kernel
theorem dX11_point_79 : decode cX11_point 79 = .ok (.getfield 161, 3) := by decide +kernel
theorem dX11_point_82 : decode cX11_point 82 = .ok (.iload_n 1, 1) := by decide +kernel
theorem dX11_point_83 : decode cX11_point 83 = .ok (.iaload, 1) := by decide +kernel
theorem dX11_point_84 : decode cX11_point 84 = .ok (.ireturn, 1) := by decide +kernel
theorem dX11_point_85 : decode cX11_point 85 = .ok (.aload_n 3, 1) := by decide +kernel
theorem dX11_point_86 : decode cX11_point 86 = .ok (.iload_n 1, 1) := by decide +kernel
theorem dX11_point_87 : decode cX11_point 87 = .ok (.invokevirtual 164, 3) := by decide +kernel
theorem dX11_point_90 : decode cX11_point 90 = .ok (.ireturn, 1) := by decide +kernel
theorem dX11_point_91 : decode cX11_point 91 = .ok (.iconst 0, 1) := by decide +kernel
theorem dX11_point_92 : decode cX11_point 92 = .ok (.ireturn, 1) := by decide +kernel
def F_X11_point (N : Nat) (l1 : Int32) (l2 : Int32) (V : sv_V) : Option (Int32 × sv_V) := (cr 59 (0 : Int32).toNatClampNeg).bind (fun b1 => if (V.1 30 8) = 0 then (some ((0 : Int32), V)) else (if l1 < 0 then (some ((0 : Int32), V)) else (if lay b1 = .inl 8 then if l1 < (V.1 b1 9) then (if l2 = 0 then ((cr b1 0).bind (fun b8 => (sv_len 0 b8).bind (fun n10 => if sx_in l1 n10 = true then some (V.1 b8 l1.toNatClampNeg, V) else none))) else (if l2 = 1 then ((cr b1 1).bind (fun b14 => (sv_len 0 b14).bind (fun n16 => if sx_in l1 n16 = true then some (V.1 b14 l1.toNatClampNeg, V) else none))) else (if l2 = 2 then ((cr b1 5).bind (fun b20 => (sv_len 0 b20).bind (fun n22 => if sx_in l1 n22 = true then some (V.1 b20 l1.toNatClampNeg, V) else none))) else (if l2 = 3 then ((F_X8_contourOf N b1 l1 V).bind (fun (x28, V26) => some (x28, V26))) else (some ((0 : Int32), V)))))) else (some ((0 : Int32), V)) else none)))
set_option maxRecDepth 20000 in
theorem t_X11_point {g : sx_G} (hG : sx_Go g) {P : Option Value → sv_V → Prop} {r : Int32} {Vr : sv_V} (hP : P (some (.int r)) Vr) {N : Nat} {l1 : Int32} {l2 : Int32} {V : sv_V} (h : F_X11_point N l1 l2 V = some (r, Vr)) : sv_N g qX11_point 1 0 [(0, .ref 0), (1, .int l1), (2, .int l2)] [] V P := by
  unfold F_X11_point at h
  refine sx_aload_n (pc := 0) dX11_point_0 sx_m0 ?_
  refine sv_getO (pc := 1) hG dX11_point_1 f_11_37 lay_0 rfl cr_0_4 ?_
  refine sv_getA (pc := 4) hG dX11_point_4 f_11_143 lay_30 rfl cr_30_5 ?_
  refine sx_iconst (pc := 7) (v := 0) dX11_point_7 (by decide) ?_
  obtain ⟨b1, g2, h⟩ := sx_bnd h
  refine sv_aald (pc := 8) hG dX11_point_8 (by decide) lay_59 (by decide) g2 ?_
  refine sx_astore_n (pc := 9) (lo' := [(3, .ref b1), (0, .ref 0), (1, .int l1), (2, .int l2)]) dX11_point_9 (by decide) rfl ?_
  refine sx_aload_n (pc := 10) dX11_point_10 sx_m1 ?_
  refine sv_getO (pc := 11) hG dX11_point_11 f_11_37 lay_0 rfl cr_0_4 ?_
  refine sv_getZ (pc := 14) hG dX11_point_14 f_11_147 lay_30 rfl ?_
  refine sx_if_eq (pc := 17) (tgt := 32) dX11_point_17 (by decide) (fun c3 => ?_) (fun c3 => ?_)
  · have h := sx_pos c3 h
    refine sx_iconst (pc := 32) (v := 0) dX11_point_32 (by decide) ?_
    exact sv_iret (pc := 33) dX11_point_33 rfl h hP
  · have h := sx_neg c3 h
    refine sx_iload_n (pc := 20) dX11_point_20 sx_m2 ?_
    refine sx_if_lt (pc := 21) (tgt := 32) dX11_point_21 (by decide) (fun c4 => ?_) (fun c4 => ?_)
    · have h := sx_pos c4 h
      refine sx_iconst (pc := 32) (v := 0) dX11_point_32 (by decide) ?_
      exact sv_iret (pc := 33) dX11_point_33 rfl h hP
    · have h := sx_neg c4 h
      refine sx_iload_n (pc := 24) dX11_point_24 sx_m2 ?_
      refine sx_aload_n (pc := 25) dX11_point_25 sx_m0 ?_
      obtain ⟨g5, h⟩ := sx_grd h
      refine sv_getI (pc := 26) hG dX11_point_26 f_11_150 g5 rfl ?_
      refine sx_icmp_lt (pc := 29) (tgt := 34) dX11_point_29 (by decide) (fun c6 => ?_) (fun c6 => ?_)
      · have h := sx_pos c6 h
        refine sx_iload_n (pc := 34) dX11_point_34 sx_m3 ?_
        by_cases c7 : l2 = 0
        · have h := sx_pos c7 h
          refine sx_tabI (pc := 35) (off := 29) (tgt := 64) dX11_point_35 (by rw [c7]; decide) (by rw [c7]; decide) (by rw [c7]; rfl) (by decide) ?_
          refine sx_aload_n (pc := 64) dX11_point_64 sx_m0 ?_
          obtain ⟨b8, g9, h⟩ := sx_bnd h
          refine sv_getA (pc := 65) hG dX11_point_65 f_11_155 g5 rfl g9 ?_
          refine sx_iload_n (pc := 68) dX11_point_68 sx_m2 ?_
          obtain ⟨n10, g11, h⟩ := sx_bnd h
          obtain ⟨g12, h⟩ := sx_grd h
          refine sv_iald (pc := 69) hG dX11_point_69 (sv_len_e g11) g12 ?_
          exact sv_iret (pc := 70) dX11_point_70 rfl h hP
        have h := sx_neg c7 h
        by_cases c13 : l2 = 1
        · have h := sx_pos c13 h
          refine sx_tabI (pc := 35) (off := 36) (tgt := 71) dX11_point_35 (by rw [c13]; decide) (by rw [c13]; decide) (by rw [c13]; rfl) (by decide) ?_
          refine sx_aload_n (pc := 71) dX11_point_71 sx_m0 ?_
          obtain ⟨b14, g15, h⟩ := sx_bnd h
          refine sv_getA (pc := 72) hG dX11_point_72 f_11_158 g5 rfl g15 ?_
          refine sx_iload_n (pc := 75) dX11_point_75 sx_m2 ?_
          obtain ⟨n16, g17, h⟩ := sx_bnd h
          obtain ⟨g18, h⟩ := sx_grd h
          refine sv_iald (pc := 76) hG dX11_point_76 (sv_len_e g17) g18 ?_
          exact sv_iret (pc := 77) dX11_point_77 rfl h hP
        have h := sx_neg c13 h
        by_cases c19 : l2 = 2
        · have h := sx_pos c19 h
          refine sx_tabI (pc := 35) (off := 43) (tgt := 78) dX11_point_35 (by rw [c19]; decide) (by rw [c19]; decide) (by rw [c19]; rfl) (by decide) ?_
          refine sx_aload_n (pc := 78) dX11_point_78 sx_m0 ?_
          obtain ⟨b20, g21, h⟩ := sx_bnd h
          refine sv_getA (pc := 79) hG dX11_point_79 f_11_161 g5 rfl g21 ?_
          refine sx_iload_n (pc := 82) dX11_point_82 sx_m2 ?_
          obtain ⟨n22, g23, h⟩ := sx_bnd h
          obtain ⟨g24, h⟩ := sx_grd h
          refine sv_iald (pc := 83) hG dX11_point_83 (sv_len_e g23) g24 ?_
          exact sv_iret (pc := 84) dX11_point_84 rfl h hP
        have h := sx_neg c19 h
        by_cases c25 : l2 = 3
        · have h := sx_pos c25 h
          refine sx_tabI (pc := 35) (off := 50) (tgt := 85) dX11_point_35 (by rw [c25]; decide) (by rw [c25]; decide) (by rw [c25]; rfl) (by decide) ?_
          refine sx_aload_n (pc := 85) dX11_point_85 sx_m0 ?_
          refine sx_iload_n (pc := 86) dX11_point_86 sx_m2 ?_
          obtain ⟨⟨x28, V26⟩, g27, h⟩ := sx_bnd h
          refine sv_cV (pc := 87) (y := qX8_contourOf) (o := (some (.int x28))) (as := [.int l1]) (V1 := V26) hG dX11_point_87 l_X11_164 y0X8_contourOf yvX8_contourOf rfl (Nat.le_of_ble_eq_true rfl) g5 kr_8 (by decide) (Nat.le_of_ble_eq_true rfl) rfl rfl rfl (t_X8_contourOf hG ⟨rfl, rfl⟩ g27) ?_
          exact sv_iret (pc := 90) dX11_point_90 rfl h hP
        have h := sx_neg c25 h
        refine sx_tabO (pc := 35) (tgt := 91) dX11_point_35 (by have ec7 := lv_neT (a := 0) c7 rfl; have ec13 := lv_neT (a := 1) c13 rfl; have ec19 := lv_neT (a := 2) c19 rfl; have ec25 := lv_neT (a := 3) c25 rfl; omega) (by decide) ?_
        refine sx_iconst (pc := 91) (v := 0) dX11_point_91 (by decide) ?_
        exact sv_iret (pc := 92) dX11_point_92 rfl h hP
      · have h := sx_neg c6 h
        refine sx_iconst (pc := 32) (v := 0) dX11_point_32 (by decide) ?_
        exact sv_iret (pc := 33) dX11_point_33 rfl h hP
theorem dX11_told_0 : decode cX11_told 0 = .ok (.aload_n 0, 1) := by decide +kernel
theorem dX11_told_1 : decode cX11_told 1 = .ok (.getfield 37, 3) := by decide +kernel
theorem dX11_told_4 : decode cX11_told 4 = .ok (.getfield 167, 3) := by decide +kernel
theorem dX11_told_7 : decode cX11_told 7 = .ok (.astore_n 2, 1) := by decide +kernel
theorem dX11_told_8 : decode cX11_told 8 = .ok (.iload_n 1, 1) := by decide +kernel
theorem dX11_told_9 : decode cX11_told 9 = .ok (.tableswitch 171 0 9 #[55, 60, 68, 73, 89, 111, 138, 146, 156, 166], 55) := by decide +kernel
theorem dX11_told_64 : decode cX11_told 64 = .ok (.aload_n 2, 1) := by decide +kernel
theorem dX11_told_65 : decode cX11_told 65 = .ok (.getfield 171, 3) := by decide +kernel
theorem dX11_told_68 : decode cX11_told 68 = .ok (.ireturn, 1) := by decide +kernel
theorem dX11_told_69 : decode cX11_told 69 = .ok (.aload_n 0, 1) := by decide +kernel
theorem dX11_told_70 : decode cX11_told 70 = .ok (.getfield 37, 3) := by decide +kernel
theorem dX11_told_73 : decode cX11_told 73 = .ok (.getfield 176, 3) := by decide +kernel
theorem dX11_told_76 : decode cX11_told 76 = .ok (.ireturn, 1) := by decide +kernel
theorem dX11_told_77 : decode cX11_told 77 = .ok (.aload_n 2, 1) := by decide +kernel
theorem dX11_told_78 : decode cX11_told 78 = .ok (.getfield 179, 3) := by decide +kernel
theorem dX11_told_81 : decode cX11_told 81 = .ok (.ireturn, 1) := by decide +kernel
theorem dX11_told_82 : decode cX11_told 82 = .ok (.aload_n 2, 1) := by decide +kernel
theorem dX11_told_83 : decode cX11_told 83 = .ok (.getfield 179, 3) := by decide +kernel
theorem dX11_told_86 : decode cX11_told 86 = .ok (.ifCond .ne 7, 3) := by decide +kernel
theorem dX11_told_89 : decode cX11_told 89 = .ok (.iconst (-1), 1) := by decide +kernel
theorem dX11_told_90 : decode cX11_told 90 = .ok (.goto 7, 3) := by decide +kernel
theorem dX11_told_93 : decode cX11_told 93 = .ok (.aload_n 2, 1) := by decide +kernel
theorem dX11_told_94 : decode cX11_told 94 = .ok (.getfield 182, 3) := by decide +kernel
theorem dX11_told_97 : decode cX11_told 97 = .ok (.ireturn, 1) := by decide +kernel
theorem dX11_told_98 : decode cX11_told 98 = .ok (.aload_n 0, 1) := by decide +kernel
theorem dX11_told_99 : decode cX11_told 99 = .ok (.getfield 37, 3) := by decide +kernel
theorem dX11_told_102 : decode cX11_told 102 = .ok (.getfield 147, 3) := by decide +kernel
theorem dX11_told_105 : decode cX11_told 105 = .ok (.ifCond .eq 13, 3) := by decide +kernel
theorem dX11_told_108 : decode cX11_told 108 = .ok (.aload_n 0, 1) := by decide +kernel
theorem dX11_told_109 : decode cX11_told 109 = .ok (.getfield 37, 3) := by decide +kernel
theorem dX11_told_112 : decode cX11_told 112 = .ok (.getfield 185, 3) := by decide +kernel
theorem dX11_told_115 : decode cX11_told 115 = .ok (.goto 4, 3) := by decide +kernel
theorem dX11_told_118 : decode cX11_told 118 = .ok (.iconst 0, 1) := by decide +kernel
theorem dX11_told_119 : decode cX11_told 119 = .ok (.ireturn, 1) := by decide +kernel
theorem dX11_told_120 : decode cX11_told 120 = .ok (.aload_n 0, 1) := by decide +kernel
theorem dX11_told_121 : decode cX11_told 121 = .ok (.getfield 37, 3) := by decide +kernel
theorem dX11_told_124 : decode cX11_told 124 = .ok (.getfield 147, 3) := by decide +kernel
theorem dX11_told_127 : decode cX11_told 127 = .ok (.ifCond .eq 18, 3) := by decide +kernel
theorem dX11_told_130 : decode cX11_told 130 = .ok (.aload_n 0, 1) := by decide +kernel
theorem dX11_told_131 : decode cX11_told 131 = .ok (.getfield 37, 3) := by decide +kernel
theorem dX11_told_134 : decode cX11_told 134 = .ok (.getfield 143, 3) := by decide +kernel
theorem dX11_told_137 : decode cX11_told 137 = .ok (.iconst 0, 1) := by decide +kernel
theorem dX11_told_138 : decode cX11_told 138 = .ok (.aaload, 1) := by decide +kernel
theorem dX11_told_139 : decode cX11_told 139 = .ok (.getfield 188, 3) := by decide +kernel
theorem dX11_told_142 : decode cX11_told 142 = .ok (.goto 4, 3) := by decide +kernel
theorem dX11_told_145 : decode cX11_told 145 = .ok (.iconst 0, 1) := by decide +kernel
theorem dX11_told_146 : decode cX11_told 146 = .ok (.ireturn, 1) := by decide +kernel
theorem dX11_told_147 : decode cX11_told 147 = .ok (.aload_n 0, 1) := by decide +kernel
theorem dX11_told_148 : decode cX11_told 148 = .ok (.getfield 37, 3) := by decide +kernel
theorem dX11_told_151 : decode cX11_told 151 = .ok (.getfield 137, 3) := by decide +kernel
theorem dX11_told_154 : decode cX11_told 154 = .ok (.ireturn, 1) := by decide +kernel
theorem dX11_told_155 : decode cX11_told 155 = .ok (.aload_n 0, 1) := by decide +kernel
theorem dX11_told_156 : decode cX11_told 156 = .ok (.getfield 37, 3) := by decide +kernel
theorem dX11_told_159 : decode cX11_told 159 = .ok (.bipush 7, 2) := by decide +kernel
theorem dX11_told_161 : decode cX11_told 161 = .ok (.invokevirtual 191, 3) := by decide +kernel
theorem dX11_told_164 : decode cX11_told 164 = .ok (.ireturn, 1) := by decide +kernel
theorem dX11_told_165 : decode cX11_told 165 = .ok (.aload_n 0, 1) := by decide +kernel
theorem dX11_told_166 : decode cX11_told 166 = .ok (.getfield 37, 3) := by decide +kernel
theorem dX11_told_169 : decode cX11_told 169 = .ok (.bipush 8, 2) := by decide +kernel
theorem dX11_told_171 : decode cX11_told 171 = .ok (.invokevirtual 191, 3) := by decide +kernel
theorem dX11_told_174 : decode cX11_told 174 = .ok (.ireturn, 1) := by decide +kernel
theorem dX11_told_175 : decode cX11_told 175 = .ok (.aload_n 2, 1) := by decide +kernel
theorem dX11_told_176 : decode cX11_told 176 = .ok (.getfield 194, 3) := by decide +kernel
theorem dX11_told_179 : decode cX11_told 179 = .ok (.ireturn, 1) := by decide +kernel
theorem dX11_told_180 : decode cX11_told 180 = .ok (.iconst 0, 1) := by decide +kernel
theorem dX11_told_181 : decode cX11_told 181 = .ok (.ireturn, 1) := by decide +kernel
def F_X11_told (l1 : Int32) (V : sv_V) : Option (Int32 × sv_V) := if l1 = 0 then (some (V.1 69 13, V)) else (if l1 = 1 then (some (V.1 30 11, V)) else (if l1 = 2 then (some (V.1 69 14, V)) else (if l1 = 3 then (if (V.1 69 14) = 0 then (some ((-1 : Int32), V)) else (some (V.1 69 15, V))) else (if l1 = 4 then (if (V.1 30 8) = 0 then (some ((0 : Int32), V)) else (some (V.1 30 10, V))) else (if l1 = 5 then (if (V.1 30 8) = 0 then (some ((0 : Int32), V)) else ((cr 59 (0 : Int32).toNatClampNeg).bind (fun b10 => if lay b10 = .inl 8 then some (V.1 b10 10, V) else none))) else (if l1 = 6 then (some (V.1 30 7, V)) else (if l1 = 7 then ((F_X6_keptOf (7 : Int32) V).bind (fun (x17, V15) => some (x17, V15))) else (if l1 = 8 then ((F_X6_keptOf (8 : Int32) V).bind (fun (x21, V19) => some (x21, V19))) else (if l1 = 9 then (some (V.1 69 16, V)) else (some ((0 : Int32), V)))))))))))
set_option maxRecDepth 20000 in
theorem t_X11_told {g : sx_G} (hG : sx_Go g) {P : Option Value → sv_V → Prop} {r : Int32} {Vr : sv_V} (hP : P (some (.int r)) Vr) {l1 : Int32} {V : sv_V} (h : F_X11_told l1 V = some (r, Vr)) : sv_N g qX11_told 1 0 [(0, .ref 0), (1, .int l1)] [] V P := by
  unfold F_X11_told at h
  refine sx_aload_n (pc := 0) dX11_told_0 sx_m0 ?_
  refine sv_getO (pc := 1) hG dX11_told_1 f_11_37 lay_0 rfl cr_0_4 ?_
  refine sv_getO (pc := 4) hG dX11_told_4 f_11_167 lay_30 rfl cr_30_2 ?_
  refine sx_astore_n (pc := 7) (lo' := [(2, .ref 69), (0, .ref 0), (1, .int l1)]) dX11_told_7 (by decide) rfl ?_
  refine sx_iload_n (pc := 8) dX11_told_8 sx_m2 ?_
  by_cases c1 : l1 = 0
  · have h := sx_pos c1 h
    refine sx_tabI (pc := 9) (off := 55) (tgt := 64) dX11_told_9 (by rw [c1]; decide) (by rw [c1]; decide) (by rw [c1]; rfl) (by decide) ?_
    refine sx_aload_n (pc := 64) dX11_told_64 sx_m0 ?_
    refine sv_getI (pc := 65) hG dX11_told_65 f_11_171 lay_69 rfl ?_
    exact sv_iret (pc := 68) dX11_told_68 rfl h hP
  have h := sx_neg c1 h
  by_cases c2 : l1 = 1
  · have h := sx_pos c2 h
    refine sx_tabI (pc := 9) (off := 60) (tgt := 69) dX11_told_9 (by rw [c2]; decide) (by rw [c2]; decide) (by rw [c2]; rfl) (by decide) ?_
    refine sx_aload_n (pc := 69) dX11_told_69 sx_m1 ?_
    refine sv_getO (pc := 70) hG dX11_told_70 f_11_37 lay_0 rfl cr_0_4 ?_
    refine sv_getI (pc := 73) hG dX11_told_73 f_11_176 lay_30 rfl ?_
    exact sv_iret (pc := 76) dX11_told_76 rfl h hP
  have h := sx_neg c2 h
  by_cases c3 : l1 = 2
  · have h := sx_pos c3 h
    refine sx_tabI (pc := 9) (off := 68) (tgt := 77) dX11_told_9 (by rw [c3]; decide) (by rw [c3]; decide) (by rw [c3]; rfl) (by decide) ?_
    refine sx_aload_n (pc := 77) dX11_told_77 sx_m0 ?_
    refine sv_getI (pc := 78) hG dX11_told_78 f_11_179 lay_69 rfl ?_
    exact sv_iret (pc := 81) dX11_told_81 rfl h hP
  have h := sx_neg c3 h
  by_cases c4 : l1 = 3
  · have h := sx_pos c4 h
    refine sx_tabI (pc := 9) (off := 73) (tgt := 82) dX11_told_9 (by rw [c4]; decide) (by rw [c4]; decide) (by rw [c4]; rfl) (by decide) ?_
    refine sx_aload_n (pc := 82) dX11_told_82 sx_m0 ?_
    refine sv_getI (pc := 83) hG dX11_told_83 f_11_179 lay_69 rfl ?_
    refine sx_if_ne (pc := 86) (tgt := 93) dX11_told_86 (by decide) (fun c5 => ?_) (fun c5 => ?_)
    · have h := sx_neg c5 h
      refine sx_aload_n (pc := 93) dX11_told_93 sx_m0 ?_
      refine sv_getI (pc := 94) hG dX11_told_94 f_11_182 lay_69 rfl ?_
      exact sv_iret (pc := 97) dX11_told_97 rfl h hP
    · have h := sx_pos c5 h
      refine sx_iconst (pc := 89) (v := (-1)) dX11_told_89 (by decide) ?_
      refine sx_goto (pc := 90) (tgt := 97) dX11_told_90 (by decide) ?_
      exact sv_iret (pc := 97) dX11_told_97 rfl h hP
  have h := sx_neg c4 h
  by_cases c6 : l1 = 4
  · have h := sx_pos c6 h
    refine sx_tabI (pc := 9) (off := 89) (tgt := 98) dX11_told_9 (by rw [c6]; decide) (by rw [c6]; decide) (by rw [c6]; rfl) (by decide) ?_
    refine sx_aload_n (pc := 98) dX11_told_98 sx_m1 ?_
    refine sv_getO (pc := 99) hG dX11_told_99 f_11_37 lay_0 rfl cr_0_4 ?_
    refine sv_getZ (pc := 102) hG dX11_told_102 f_11_147 lay_30 rfl ?_
    refine sx_if_eq (pc := 105) (tgt := 118) dX11_told_105 (by decide) (fun c7 => ?_) (fun c7 => ?_)
    · have h := sx_pos c7 h
      refine sx_iconst (pc := 118) (v := 0) dX11_told_118 (by decide) ?_
      exact sv_iret (pc := 119) dX11_told_119 rfl h hP
    · have h := sx_neg c7 h
      refine sx_aload_n (pc := 108) dX11_told_108 sx_m1 ?_
      refine sv_getO (pc := 109) hG dX11_told_109 f_11_37 lay_0 rfl cr_0_4 ?_
      refine sv_getI (pc := 112) hG dX11_told_112 f_11_185 lay_30 rfl ?_
      refine sx_goto (pc := 115) (tgt := 119) dX11_told_115 (by decide) ?_
      exact sv_iret (pc := 119) dX11_told_119 rfl h hP
  have h := sx_neg c6 h
  by_cases c8 : l1 = 5
  · have h := sx_pos c8 h
    refine sx_tabI (pc := 9) (off := 111) (tgt := 120) dX11_told_9 (by rw [c8]; decide) (by rw [c8]; decide) (by rw [c8]; rfl) (by decide) ?_
    refine sx_aload_n (pc := 120) dX11_told_120 sx_m1 ?_
    refine sv_getO (pc := 121) hG dX11_told_121 f_11_37 lay_0 rfl cr_0_4 ?_
    refine sv_getZ (pc := 124) hG dX11_told_124 f_11_147 lay_30 rfl ?_
    refine sx_if_eq (pc := 127) (tgt := 145) dX11_told_127 (by decide) (fun c9 => ?_) (fun c9 => ?_)
    · have h := sx_pos c9 h
      refine sx_iconst (pc := 145) (v := 0) dX11_told_145 (by decide) ?_
      exact sv_iret (pc := 146) dX11_told_146 rfl h hP
    · have h := sx_neg c9 h
      refine sx_aload_n (pc := 130) dX11_told_130 sx_m1 ?_
      refine sv_getO (pc := 131) hG dX11_told_131 f_11_37 lay_0 rfl cr_0_4 ?_
      refine sv_getA (pc := 134) hG dX11_told_134 f_11_143 lay_30 rfl cr_30_5 ?_
      refine sx_iconst (pc := 137) (v := 0) dX11_told_137 (by decide) ?_
      obtain ⟨b10, g11, h⟩ := sx_bnd h
      refine sv_aald (pc := 138) hG dX11_told_138 (by decide) lay_59 (by decide) g11 ?_
      obtain ⟨g12, h⟩ := sx_grd h
      refine sv_getI (pc := 139) hG dX11_told_139 f_11_188 g12 rfl ?_
      refine sx_goto (pc := 142) (tgt := 146) dX11_told_142 (by decide) ?_
      exact sv_iret (pc := 146) dX11_told_146 rfl h hP
  have h := sx_neg c8 h
  by_cases c13 : l1 = 6
  · have h := sx_pos c13 h
    refine sx_tabI (pc := 9) (off := 138) (tgt := 147) dX11_told_9 (by rw [c13]; decide) (by rw [c13]; decide) (by rw [c13]; rfl) (by decide) ?_
    refine sx_aload_n (pc := 147) dX11_told_147 sx_m1 ?_
    refine sv_getO (pc := 148) hG dX11_told_148 f_11_37 lay_0 rfl cr_0_4 ?_
    refine sv_getI (pc := 151) hG dX11_told_151 f_11_137 lay_30 rfl ?_
    exact sv_iret (pc := 154) dX11_told_154 rfl h hP
  have h := sx_neg c13 h
  by_cases c14 : l1 = 7
  · have h := sx_pos c14 h
    refine sx_tabI (pc := 9) (off := 146) (tgt := 155) dX11_told_9 (by rw [c14]; decide) (by rw [c14]; decide) (by rw [c14]; rfl) (by decide) ?_
    refine sx_aload_n (pc := 155) dX11_told_155 sx_m1 ?_
    refine sv_getO (pc := 156) hG dX11_told_156 f_11_37 lay_0 rfl cr_0_4 ?_
    refine sx_bipush (pc := 159) (v := 7) dX11_told_159 (by decide) ?_
    obtain ⟨⟨x17, V15⟩, g16, h⟩ := sx_bnd h
    refine sv_cV (pc := 161) (y := qX6_keptOf) (o := (some (.int x17))) (as := [.int (7 : Int32)]) (V1 := V15) hG dX11_told_161 l_X11_191 y0X6_keptOf yvX6_keptOf rfl (Nat.le_of_ble_eq_true rfl) lay_30 kr_6 (by decide) (Nat.le_of_ble_eq_true rfl) rfl rfl rfl (t_X6_keptOf hG ⟨rfl, rfl⟩ g16) ?_
    exact sv_iret (pc := 164) dX11_told_164 rfl h hP
  have h := sx_neg c14 h
  by_cases c18 : l1 = 8
  · have h := sx_pos c18 h
    refine sx_tabI (pc := 9) (off := 156) (tgt := 165) dX11_told_9 (by rw [c18]; decide) (by rw [c18]; decide) (by rw [c18]; rfl) (by decide) ?_
    refine sx_aload_n (pc := 165) dX11_told_165 sx_m1 ?_
    refine sv_getO (pc := 166) hG dX11_told_166 f_11_37 lay_0 rfl cr_0_4 ?_
    refine sx_bipush (pc := 169) (v := 8) dX11_told_169 (by decide) ?_
    obtain ⟨⟨x21, V19⟩, g20, h⟩ := sx_bnd h
    refine sv_cV (pc := 171) (y := qX6_keptOf) (o := (some (.int x21))) (as := [.int (8 : Int32)]) (V1 := V19) hG dX11_told_171 l_X11_191 y0X6_keptOf yvX6_keptOf rfl (Nat.le_of_ble_eq_true rfl) lay_30 kr_6 (by decide) (Nat.le_of_ble_eq_true rfl) rfl rfl rfl (t_X6_keptOf hG ⟨rfl, rfl⟩ g20) ?_
    exact sv_iret (pc := 174) dX11_told_174 rfl h hP
  have h := sx_neg c18 h
  by_cases c22 : l1 = 9
  · have h := sx_pos c22 h
    refine sx_tabI (pc := 9) (off := 166) (tgt := 175) dX11_told_9 (by rw [c22]; decide) (by rw [c22]; decide) (by rw [c22]; rfl) (by decide) ?_
    refine sx_aload_n (pc := 175) dX11_told_175 sx_m0 ?_
    refine sv_getI (pc := 176) hG dX11_told_176 f_11_194 lay_69 rfl ?_
    exact sv_iret (pc := 179) dX11_told_179 rfl h hP
  have h := sx_neg c22 h
  refine sx_tabO (pc := 9) (tgt := 180) dX11_told_9 (by have ec1 := lv_neT (a := 0) c1 rfl; have ec2 := lv_neT (a := 1) c2 rfl; have ec3 := lv_neT (a := 2) c3 rfl; have ec4 := lv_neT (a := 3) c4 rfl; have ec6 := lv_neT (a := 4) c6 rfl; have ec8 := lv_neT (a := 5) c8 rfl; have ec13 := lv_neT (a := 6) c13 rfl; have ec14 := lv_neT (a := 7) c14 rfl; have ec18 := lv_neT (a := 8) c18 rfl; have ec22 := lv_neT (a := 9) c22 rfl; omega) (by decide) ?_
  refine sx_iconst (pc := 180) (v := 0) dX11_told_180 (by decide) ?_
  exact sv_iret (pc := 181) dX11_told_181 rfl h hP
theorem dX11_held_0 : decode cX11_held 0 = .ok (.aload_n 0, 1) := by decide +kernel
theorem dX11_held_1 : decode cX11_held 1 = .ok (.getfield 37, 3) := by decide +kernel
theorem dX11_held_4 : decode cX11_held 4 = .ok (.getfield 197, 3) := by decide +kernel
theorem dX11_held_7 : decode cX11_held 7 = .ok (.astore_n 3, 1) := by decide +kernel
theorem dX11_held_8 : decode cX11_held 8 = .ok (.aload_n 0, 1) := by decide +kernel
theorem dX11_held_9 : decode cX11_held 9 = .ok (.getfield 37, 3) := by decide +kernel
theorem dX11_held_12 : decode cX11_held 12 = .ok (.getfield 137, 3) := by decide +kernel
theorem dX11_held_15 : decode cX11_held 15 = .ok (.ifCond .eq 7, 3) := by decide +kernel
theorem dX11_held_18 : decode cX11_held 18 = .ok (.iload_n 2, 1) := by decide +kernel
theorem dX11_held_19 : decode cX11_held 19 = .ok (.ifCond .ge 5, 3) := by decide +kernel
theorem dX11_held_22 : decode cX11_held 22 = .ok (.iconst 0, 1) := by decide +kernel
theorem dX11_held_23 : decode cX11_held 23 = .ok (.ireturn, 1) := by decide +kernel
theorem dX11_held_24 : decode cX11_held 24 = .ok (.iload_n 1, 1) := by decide +kernel
theorem dX11_held_25 : decode cX11_held 25 = .ok (.ifCond .ne 22, 3) := by decide +kernel
theorem dX11_held_28 : decode cX11_held 28 = .ok (.iload_n 2, 1) := by decide +kernel
theorem dX11_held_29 : decode cX11_held 29 = .ok (.aload_n 3, 1) := by decide +kernel
theorem dX11_held_30 : decode cX11_held 30 = .ok (.getfield 201, 3) := by decide +kernel
theorem dX11_held_33 : decode cX11_held 33 = .ok (.if_icmp .ge 12, 3) := by decide +kernel
theorem dX11_held_36 : decode cX11_held 36 = .ok (.aload_n 3, 1) := by decide +kernel
theorem dX11_held_37 : decode cX11_held 37 = .ok (.getfield 206, 3) := by decide +kernel
theorem dX11_held_40 : decode cX11_held 40 = .ok (.iload_n 2, 1) := by decide +kernel
theorem dX11_held_41 : decode cX11_held 41 = .ok (.iaload, 1) := by decide +kernel
theorem dX11_held_42 : decode cX11_held 42 = .ok (.goto 4, 3) := by decide +kernel
theorem dX11_held_45 : decode cX11_held 45 = .ok (.iconst 0, 1) := by decide +kernel
theorem dX11_held_46 : decode cX11_held 46 = .ok (.ireturn, 1) := by decide +kernel
theorem dX11_held_47 : decode cX11_held 47 = .ok (.iload_n 1, 1) := by decide +kernel
theorem dX11_held_48 : decode cX11_held 48 = .ok (.iconst 1, 1) := by decide +kernel
theorem dX11_held_49 : decode cX11_held 49 = .ok (.if_icmp .ne 22, 3) := by decide +kernel
theorem dX11_held_52 : decode cX11_held 52 = .ok (.iload_n 2, 1) := by decide +kernel
theorem dX11_held_53 : decode cX11_held 53 = .ok (.aload_n 3, 1) := by decide +kernel
theorem dX11_held_54 : decode cX11_held 54 = .ok (.getfield 209, 3) := by decide +kernel
theorem dX11_held_57 : decode cX11_held 57 = .ok (.if_icmp .ge 12, 3) := by decide +kernel
theorem dX11_held_60 : decode cX11_held 60 = .ok (.aload_n 3, 1) := by decide +kernel
theorem dX11_held_61 : decode cX11_held 61 = .ok (.getfield 212, 3) := by decide +kernel
theorem dX11_held_64 : decode cX11_held 64 = .ok (.iload_n 2, 1) := by decide +kernel
theorem dX11_held_65 : decode cX11_held 65 = .ok (.iaload, 1) := by decide +kernel
theorem dX11_held_66 : decode cX11_held 66 = .ok (.goto 4, 3) := by decide +kernel
theorem dX11_held_69 : decode cX11_held 69 = .ok (.iconst 0, 1) := by decide +kernel
theorem dX11_held_70 : decode cX11_held 70 = .ok (.ireturn, 1) := by decide +kernel
theorem dX11_held_71 : decode cX11_held 71 = .ok (.aload_n 3, 1) := by decide +kernel
theorem dX11_held_72 : decode cX11_held 72 = .ok (.getfield 215, 3) := by decide +kernel
theorem dX11_held_75 : decode cX11_held 75 = .ok (.astore 4, 2) := by decide +kernel
theorem dX11_held_77 : decode cX11_held 77 = .ok (.iload_n 2, 1) := by decide +kernel
theorem dX11_held_78 : decode cX11_held 78 = .ok (.aload 4, 2) := by decide +kernel
theorem dX11_held_80 : decode cX11_held 80 = .ok (.getfield 150, 3) := by decide +kernel
theorem dX11_held_83 : decode cX11_held 83 = .ok (.if_icmp .lt 5, 3) := by decide +kernel
theorem dX11_held_86 : decode cX11_held 86 = .ok (.iconst 0, 1) := by decide +kernel
theorem dX11_held_87 : decode cX11_held 87 = .ok (.ireturn, 1) := by decide +kernel
theorem dX11_held_88 : decode cX11_held 88 = .ok (.iload_n 1, 1) := by decide +kernel
theorem dX11_held_89 : decode cX11_held 89 = .ok (.tableswitch 63 2 5 #[31, 39, 47, 55], 31) := by decide +kernel
theorem dX11_held_120 : decode cX11_held 120 = .ok (.aload 4, 2) := by decide +kernel
theorem dX11_held_122 : decode cX11_held 122 = .ok (.getfield 155, 3) := by decide +kernel
theorem dX11_held_125 : decode cX11_held 125 = .ok (.iload_n 2, 1) := by decide +kernel
theorem dX11_held_126 : decode cX11_held 126 = .ok (.iaload, 1) := by decide +kernel
theorem dX11_held_127 : decode cX11_held 127 = .ok (.ireturn, 1) := by decide +kernel
theorem dX11_held_128 : decode cX11_held 128 = .ok (.aload 4, 2) := by decide +kernel
theorem dX11_held_130 : decode cX11_held 130 = .ok (.getfield 158, 3) := by decide +kernel
theorem dX11_held_133 : decode cX11_held 133 = .ok (.iload_n 2, 1) := by decide +kernel
theorem dX11_held_134 : decode cX11_held 134 = .ok (.iaload, 1) := by decide +kernel
theorem dX11_held_135 : decode cX11_held 135 = .ok (.ireturn, 1) := by decide +kernel
theorem dX11_held_136 : decode cX11_held 136 = .ok (.aload 4, 2) := by decide +kernel
theorem dX11_held_138 : decode cX11_held 138 = .ok (.getfield 219, 3) := by decide +kernel
theorem dX11_held_141 : decode cX11_held 141 = .ok (.iload_n 2, 1) := by decide +kernel
theorem dX11_held_142 : decode cX11_held 142 = .ok (.iaload, 1) := by decide +kernel
theorem dX11_held_143 : decode cX11_held 143 = .ok (.ireturn, 1) := by decide +kernel
theorem dX11_held_144 : decode cX11_held 144 = .ok (.aload 4, 2) := by decide +kernel
theorem dX11_held_146 : decode cX11_held 146 = .ok (.getfield 222, 3) := by decide +kernel
theorem dX11_held_149 : decode cX11_held 149 = .ok (.iload_n 2, 1) := by decide +kernel
theorem dX11_held_150 : decode cX11_held 150 = .ok (.iaload, 1) := by decide +kernel
theorem dX11_held_151 : decode cX11_held 151 = .ok (.ireturn, 1) := by decide +kernel
theorem dX11_held_152 : decode cX11_held 152 = .ok (.iconst 0, 1) := by decide +kernel
theorem dX11_held_153 : decode cX11_held 153 = .ok (.ireturn, 1) := by decide +kernel
def F_X11_held (l1 : Int32) (l2 : Int32) (V : sv_V) : Option (Int32 × sv_V) := if (V.1 30 7) = 0 then (some ((0 : Int32), V)) else (if 0 ≤ l2 then (if l1 = 0 then (if (V.1 31 1) ≤ l2 then (some ((0 : Int32), V)) else (if sx_in l2 256 = true then some (V.1 32 l2.toNatClampNeg, V) else none)) else (if l1 = (1 : Int32) then (if (V.1 31 3) ≤ l2 then (some ((0 : Int32), V)) else (if sx_in l2 64 = true then some (V.1 33 l2.toNatClampNeg, V) else none)) else (if l2 < (V.1 34 9) then (if l1 = 2 then (if sx_in l2 64 = true then some (V.1 38 l2.toNatClampNeg, V) else none) else (if l1 = 3 then (if sx_in l2 64 = true then some (V.1 39 l2.toNatClampNeg, V) else none) else (if l1 = 4 then (if sx_in l2 64 = true then some (V.1 40 l2.toNatClampNeg, V) else none) else (if l1 = 5 then (if sx_in l2 64 = true then some (V.1 41 l2.toNatClampNeg, V) else none) else (some ((0 : Int32), V)))))) else (some ((0 : Int32), V))))) else (some ((0 : Int32), V)))
set_option maxRecDepth 20000 in
theorem t_X11_held {g : sx_G} (hG : sx_Go g) {P : Option Value → sv_V → Prop} {r : Int32} {Vr : sv_V} (hP : P (some (.int r)) Vr) {l1 : Int32} {l2 : Int32} {V : sv_V} (h : F_X11_held l1 l2 V = some (r, Vr)) : sv_N g qX11_held 0 0 [(0, .ref 0), (1, .int l1), (2, .int l2)] [] V P := by
  unfold F_X11_held at h
  refine sx_aload_n (pc := 0) dX11_held_0 sx_m0 ?_
  refine sv_getO (pc := 1) hG dX11_held_1 f_11_37 lay_0 rfl cr_0_4 ?_
  refine sv_getO (pc := 4) hG dX11_held_4 f_11_197 lay_30 rfl cr_30_3 ?_
  refine sx_astore_n (pc := 7) (lo' := [(3, .ref 31), (0, .ref 0), (1, .int l1), (2, .int l2)]) dX11_held_7 (by decide) rfl ?_
  refine sx_aload_n (pc := 8) dX11_held_8 sx_m1 ?_
  refine sv_getO (pc := 9) hG dX11_held_9 f_11_37 lay_0 rfl cr_0_4 ?_
  refine sv_getI (pc := 12) hG dX11_held_12 f_11_137 lay_30 rfl ?_
  refine sx_if_eq (pc := 15) (tgt := 22) dX11_held_15 (by decide) (fun c1 => ?_) (fun c1 => ?_)
  · have h := sx_pos c1 h
    refine sx_iconst (pc := 22) (v := 0) dX11_held_22 (by decide) ?_
    exact sv_iret (pc := 23) dX11_held_23 rfl h hP
  · have h := sx_neg c1 h
    refine sx_iload_n (pc := 18) dX11_held_18 sx_m3 ?_
    refine sx_if_ge (pc := 19) (tgt := 24) dX11_held_19 (by decide) (fun c2 => ?_) (fun c2 => ?_)
    · have h := sx_pos c2 h
      refine sx_iload_n (pc := 24) dX11_held_24 sx_m2 ?_
      refine sx_if_ne (pc := 25) (tgt := 47) dX11_held_25 (by decide) (fun c3 => ?_) (fun c3 => ?_)
      · have h := sx_neg c3 h
        refine sx_iload_n (pc := 47) dX11_held_47 sx_m2 ?_
        refine sx_iconst (pc := 48) (v := 1) dX11_held_48 (by decide) ?_
        refine sx_icmp_ne (pc := 49) (tgt := 71) dX11_held_49 (by decide) (fun c4 => ?_) (fun c4 => ?_)
        · have h := sx_neg c4 h
          refine sx_aload_n (pc := 71) dX11_held_71 sx_m0 ?_
          refine sv_getO (pc := 72) hG dX11_held_72 f_11_215 lay_31 rfl cr_31_4 ?_
          refine sx_astore (pc := 75) (lo' := [(4, .ref 34), (3, .ref 31), (0, .ref 0), (1, .int l1), (2, .int l2)]) dX11_held_75 (by decide) rfl ?_
          refine sx_iload_n (pc := 77) dX11_held_77 sx_m4 ?_
          refine sx_aload (pc := 78) dX11_held_78 sx_m0 ?_
          refine sv_getI (pc := 80) hG dX11_held_80 f_11_150 lay_34 rfl ?_
          refine sx_icmp_lt (pc := 83) (tgt := 88) dX11_held_83 (by decide) (fun c5 => ?_) (fun c5 => ?_)
          · have h := sx_pos c5 h
            refine sx_iload_n (pc := 88) dX11_held_88 sx_m3 ?_
            by_cases c6 : l1 = 2
            · have h := sx_pos c6 h
              refine sx_tabI (pc := 89) (off := 31) (tgt := 120) dX11_held_89 (by rw [c6]; decide) (by rw [c6]; decide) (by rw [c6]; rfl) (by decide) ?_
              refine sx_aload (pc := 120) dX11_held_120 sx_m0 ?_
              refine sv_getA (pc := 122) hG dX11_held_122 f_11_155 lay_34 rfl cr_34_0 ?_
              refine sx_iload_n (pc := 125) dX11_held_125 sx_m4 ?_
              obtain ⟨g7, h⟩ := sx_grd h
              refine sv_iald (pc := 126) hG dX11_held_126 lay_38 g7 ?_
              exact sv_iret (pc := 127) dX11_held_127 rfl h hP
            have h := sx_neg c6 h
            by_cases c8 : l1 = 3
            · have h := sx_pos c8 h
              refine sx_tabI (pc := 89) (off := 39) (tgt := 128) dX11_held_89 (by rw [c8]; decide) (by rw [c8]; decide) (by rw [c8]; rfl) (by decide) ?_
              refine sx_aload (pc := 128) dX11_held_128 sx_m0 ?_
              refine sv_getA (pc := 130) hG dX11_held_130 f_11_158 lay_34 rfl cr_34_1 ?_
              refine sx_iload_n (pc := 133) dX11_held_133 sx_m4 ?_
              obtain ⟨g9, h⟩ := sx_grd h
              refine sv_iald (pc := 134) hG dX11_held_134 lay_39 g9 ?_
              exact sv_iret (pc := 135) dX11_held_135 rfl h hP
            have h := sx_neg c8 h
            by_cases c10 : l1 = 4
            · have h := sx_pos c10 h
              refine sx_tabI (pc := 89) (off := 47) (tgt := 136) dX11_held_89 (by rw [c10]; decide) (by rw [c10]; decide) (by rw [c10]; rfl) (by decide) ?_
              refine sx_aload (pc := 136) dX11_held_136 sx_m0 ?_
              refine sv_getA (pc := 138) hG dX11_held_138 f_11_219 lay_34 rfl cr_34_2 ?_
              refine sx_iload_n (pc := 141) dX11_held_141 sx_m4 ?_
              obtain ⟨g11, h⟩ := sx_grd h
              refine sv_iald (pc := 142) hG dX11_held_142 lay_40 g11 ?_
              exact sv_iret (pc := 143) dX11_held_143 rfl h hP
            have h := sx_neg c10 h
            by_cases c12 : l1 = 5
            · have h := sx_pos c12 h
              refine sx_tabI (pc := 89) (off := 55) (tgt := 144) dX11_held_89 (by rw [c12]; decide) (by rw [c12]; decide) (by rw [c12]; rfl) (by decide) ?_
              refine sx_aload (pc := 144) dX11_held_144 sx_m0 ?_
              refine sv_getA (pc := 146) hG dX11_held_146 f_11_222 lay_34 rfl cr_34_3 ?_
              refine sx_iload_n (pc := 149) dX11_held_149 sx_m4 ?_
              obtain ⟨g13, h⟩ := sx_grd h
              refine sv_iald (pc := 150) hG dX11_held_150 lay_41 g13 ?_
              exact sv_iret (pc := 151) dX11_held_151 rfl h hP
            have h := sx_neg c12 h
            refine sx_tabO (pc := 89) (tgt := 152) dX11_held_89 (by have ec6 := lv_neT (a := 2) c6 rfl; have ec8 := lv_neT (a := 3) c8 rfl; have ec10 := lv_neT (a := 4) c10 rfl; have ec12 := lv_neT (a := 5) c12 rfl; omega) (by decide) ?_
            refine sx_iconst (pc := 152) (v := 0) dX11_held_152 (by decide) ?_
            exact sv_iret (pc := 153) dX11_held_153 rfl h hP
          · have h := sx_neg c5 h
            refine sx_iconst (pc := 86) (v := 0) dX11_held_86 (by decide) ?_
            exact sv_iret (pc := 87) dX11_held_87 rfl h hP
        · have h := sx_pos c4 h
          refine sx_iload_n (pc := 52) dX11_held_52 sx_m3 ?_
          refine sx_aload_n (pc := 53) dX11_held_53 sx_m0 ?_
          refine sv_getI (pc := 54) hG dX11_held_54 f_11_209 lay_31 rfl ?_
          refine sx_icmp_ge (pc := 57) (tgt := 69) dX11_held_57 (by decide) (fun c14 => ?_) (fun c14 => ?_)
          · have h := sx_pos c14 h
            refine sx_iconst (pc := 69) (v := 0) dX11_held_69 (by decide) ?_
            exact sv_iret (pc := 70) dX11_held_70 rfl h hP
          · have h := sx_neg c14 h
            refine sx_aload_n (pc := 60) dX11_held_60 sx_m0 ?_
            refine sv_getA (pc := 61) hG dX11_held_61 f_11_212 lay_31 rfl cr_31_2 ?_
            refine sx_iload_n (pc := 64) dX11_held_64 sx_m3 ?_
            obtain ⟨g15, h⟩ := sx_grd h
            refine sv_iald (pc := 65) hG dX11_held_65 lay_33 g15 ?_
            refine sx_goto (pc := 66) (tgt := 70) dX11_held_66 (by decide) ?_
            exact sv_iret (pc := 70) dX11_held_70 rfl h hP
      · have h := sx_pos c3 h
        refine sx_iload_n (pc := 28) dX11_held_28 sx_m3 ?_
        refine sx_aload_n (pc := 29) dX11_held_29 sx_m0 ?_
        refine sv_getI (pc := 30) hG dX11_held_30 f_11_201 lay_31 rfl ?_
        refine sx_icmp_ge (pc := 33) (tgt := 45) dX11_held_33 (by decide) (fun c16 => ?_) (fun c16 => ?_)
        · have h := sx_pos c16 h
          refine sx_iconst (pc := 45) (v := 0) dX11_held_45 (by decide) ?_
          exact sv_iret (pc := 46) dX11_held_46 rfl h hP
        · have h := sx_neg c16 h
          refine sx_aload_n (pc := 36) dX11_held_36 sx_m0 ?_
          refine sv_getA (pc := 37) hG dX11_held_37 f_11_206 lay_31 rfl cr_31_0 ?_
          refine sx_iload_n (pc := 40) dX11_held_40 sx_m3 ?_
          obtain ⟨g17, h⟩ := sx_grd h
          refine sv_iald (pc := 41) hG dX11_held_41 lay_32 g17 ?_
          refine sx_goto (pc := 42) (tgt := 46) dX11_held_42 (by decide) ?_
          exact sv_iret (pc := 46) dX11_held_46 rfl h hP
    · have h := sx_neg c2 h
      refine sx_iconst (pc := 22) (v := 0) dX11_held_22 (by decide) ?_
      exact sv_iret (pc := 23) dX11_held_23 rfl h hP
theorem dX11_pixel_0 : decode cX11_pixel 0 = .ok (.iload_n 1, 1) := by decide +kernel
theorem dX11_pixel_1 : decode cX11_pixel 1 = .ok (.ifCond .lt 29, 3) := by decide +kernel
theorem dX11_pixel_4 : decode cX11_pixel 4 = .ok (.iload_n 1, 1) := by decide +kernel
theorem dX11_pixel_5 : decode cX11_pixel 5 = .ok (.aload_n 0, 1) := by decide +kernel
theorem dX11_pixel_6 : decode cX11_pixel 6 = .ok (.getfield 44, 3) := by decide +kernel
theorem dX11_pixel_9 : decode cX11_pixel 9 = .ok (.getfield 247, 3) := by decide +kernel
theorem dX11_pixel_12 : decode cX11_pixel 12 = .ok (.if_icmp .ge 18, 3) := by decide +kernel
theorem dX11_pixel_15 : decode cX11_pixel 15 = .ok (.iload_n 2, 1) := by decide +kernel
theorem dX11_pixel_16 : decode cX11_pixel 16 = .ok (.ifCond .lt 14, 3) := by decide +kernel
theorem dX11_pixel_19 : decode cX11_pixel 19 = .ok (.iload_n 2, 1) := by decide +kernel
theorem dX11_pixel_20 : decode cX11_pixel 20 = .ok (.aload_n 0, 1) := by decide +kernel
theorem dX11_pixel_21 : decode cX11_pixel 21 = .ok (.getfield 44, 3) := by decide +kernel
theorem dX11_pixel_24 : decode cX11_pixel 24 = .ok (.getfield 254, 3) := by decide +kernel
theorem dX11_pixel_27 : decode cX11_pixel 27 = .ok (.if_icmp .lt 5, 3) := by decide +kernel
theorem dX11_pixel_30 : decode cX11_pixel 30 = .ok (.iconst (-1), 1) := by decide +kernel
theorem dX11_pixel_31 : decode cX11_pixel 31 = .ok (.ireturn, 1) := by decide +kernel
theorem dX11_pixel_32 : decode cX11_pixel 32 = .ok (.aload_n 0, 1) := by decide +kernel
theorem dX11_pixel_33 : decode cX11_pixel 33 = .ok (.getfield 44, 3) := by decide +kernel
theorem dX11_pixel_36 : decode cX11_pixel 36 = .ok (.getfield 257, 3) := by decide +kernel
theorem dX11_pixel_39 : decode cX11_pixel 39 = .ok (.iload_n 2, 1) := by decide +kernel
theorem dX11_pixel_40 : decode cX11_pixel 40 = .ok (.sipush 128, 3) := by decide +kernel
theorem dX11_pixel_43 : decode cX11_pixel 43 = .ok (.imul, 1) := by decide +kernel
theorem dX11_pixel_44 : decode cX11_pixel 44 = .ok (.iload_n 1, 1) := by decide +kernel
theorem dX11_pixel_45 : decode cX11_pixel 45 = .ok (.iadd, 1) := by decide +kernel
theorem dX11_pixel_46 : decode cX11_pixel 46 = .ok (.baload, 1) := by decide +kernel
theorem dX11_pixel_47 : decode cX11_pixel 47 = .ok (.ireturn, 1) := by decide +kernel
def F_X11_pixel (l1 : Int32) (l2 : Int32) (V : sv_V) : Option (Int32 × sv_V) := if l1 < 0 then (some ((-1 : Int32), V)) else (if (V.1 143 1) ≤ l1 then (some ((-1 : Int32), V)) else (if l2 < 0 then (some ((-1 : Int32), V)) else (if l2 < (V.1 143 2) then (if sx_in ((l2 * (128 : Int32)) + l1) 16384 = true then some (V.1 144 ((l2 * (128 : Int32)) + l1).toNatClampNeg, V) else none) else (some ((-1 : Int32), V)))))
set_option maxRecDepth 20000 in
theorem t_X11_pixel {g : sx_G} (hG : sx_Go g) {P : Option Value → sv_V → Prop} {r : Int32} {Vr : sv_V} (hP : P (some (.int r)) Vr) {l1 : Int32} {l2 : Int32} {V : sv_V} (h : F_X11_pixel l1 l2 V = some (r, Vr)) : sv_N g qX11_pixel 0 0 [(0, .ref 0), (1, .int l1), (2, .int l2)] [] V P := by
  unfold F_X11_pixel at h
  refine sx_iload_n (pc := 0) dX11_pixel_0 sx_m1 ?_
  refine sx_if_lt (pc := 1) (tgt := 30) dX11_pixel_1 (by decide) (fun c1 => ?_) (fun c1 => ?_)
  · have h := sx_pos c1 h
    refine sx_iconst (pc := 30) (v := (-1)) dX11_pixel_30 (by decide) ?_
    exact sv_iret (pc := 31) dX11_pixel_31 rfl h hP
  · have h := sx_neg c1 h
    refine sx_iload_n (pc := 4) dX11_pixel_4 sx_m1 ?_
    refine sx_aload_n (pc := 5) dX11_pixel_5 sx_m0 ?_
    refine sv_getO (pc := 6) hG dX11_pixel_6 f_11_44 lay_0 rfl cr_0_5 ?_
    refine sv_getI (pc := 9) hG dX11_pixel_9 f_11_247 lay_143 rfl ?_
    refine sx_icmp_ge (pc := 12) (tgt := 30) dX11_pixel_12 (by decide) (fun c2 => ?_) (fun c2 => ?_)
    · have h := sx_pos c2 h
      refine sx_iconst (pc := 30) (v := (-1)) dX11_pixel_30 (by decide) ?_
      exact sv_iret (pc := 31) dX11_pixel_31 rfl h hP
    · have h := sx_neg c2 h
      refine sx_iload_n (pc := 15) dX11_pixel_15 sx_m2 ?_
      refine sx_if_lt (pc := 16) (tgt := 30) dX11_pixel_16 (by decide) (fun c3 => ?_) (fun c3 => ?_)
      · have h := sx_pos c3 h
        refine sx_iconst (pc := 30) (v := (-1)) dX11_pixel_30 (by decide) ?_
        exact sv_iret (pc := 31) dX11_pixel_31 rfl h hP
      · have h := sx_neg c3 h
        refine sx_iload_n (pc := 19) dX11_pixel_19 sx_m2 ?_
        refine sx_aload_n (pc := 20) dX11_pixel_20 sx_m0 ?_
        refine sv_getO (pc := 21) hG dX11_pixel_21 f_11_44 lay_0 rfl cr_0_5 ?_
        refine sv_getI (pc := 24) hG dX11_pixel_24 f_11_254 lay_143 rfl ?_
        refine sx_icmp_lt (pc := 27) (tgt := 32) dX11_pixel_27 (by decide) (fun c4 => ?_) (fun c4 => ?_)
        · have h := sx_pos c4 h
          refine sx_aload_n (pc := 32) dX11_pixel_32 sx_m0 ?_
          refine sv_getO (pc := 33) hG dX11_pixel_33 f_11_44 lay_0 rfl cr_0_5 ?_
          refine sv_getA (pc := 36) hG dX11_pixel_36 f_11_257 lay_143 rfl cr_143_0 ?_
          refine sx_iload_n (pc := 39) dX11_pixel_39 sx_m2 ?_
          refine sx_sipush (pc := 40) (v := 128) dX11_pixel_40 (by decide) ?_
          refine sx_imul (pc := 43) dX11_pixel_43 ?_
          refine sx_iload_n (pc := 44) dX11_pixel_44 sx_m1 ?_
          refine sx_iadd (pc := 45) dX11_pixel_45 ?_
          obtain ⟨g5, h⟩ := sx_grd h
          refine sv_bald (pc := 46) hG dX11_pixel_46 lay_144 g5 ?_
          exact sv_iret (pc := 47) dX11_pixel_47 rfl h hP
        · have h := sx_neg c4 h
          refine sx_iconst (pc := 30) (v := (-1)) dX11_pixel_30 (by decide) ?_
          exact sv_iret (pc := 31) dX11_pixel_31 rfl h hP
theorem dX11_type_0 : decode cX11_type 0 = .ok (.iload_n 1, 1) := by decide +kernel
theorem dX11_type_1 : decode cX11_type 1 = .ok (.ifCond .lt 9, 3) := by decide +kernel
theorem dX11_type_4 : decode cX11_type 4 = .ok (.iload_n 1, 1) := by decide +kernel
theorem dX11_type_5 : decode cX11_type 5 = .ok (.ldc 111, 2) := by decide +kernel
theorem dX11_type_7 : decode cX11_type 7 = .ok (.if_icmp .le 6, 3) := by decide +kernel
theorem dX11_type_10 : decode cX11_type 10 = .ok (.bipush (-2), 2) := by decide +kernel
theorem dX11_type_12 : decode cX11_type 12 = .ok (.ireturn, 1) := by decide +kernel
theorem dX11_type_13 : decode cX11_type 13 = .ok (.aload_n 0, 1) := by decide +kernel
theorem dX11_type_14 : decode cX11_type 14 = .ok (.getfield 260, 3) := by decide +kernel
theorem dX11_type_17 : decode cX11_type 17 = .ok (.bipush 100, 2) := by decide +kernel
theorem dX11_type_19 : decode cX11_type 19 = .ok (.if_icmp .lt 6, 3) := by decide +kernel
theorem dX11_type_22 : decode cX11_type 22 = .ok (.bipush (-4), 2) := by decide +kernel
theorem dX11_type_24 : decode cX11_type 24 = .ok (.ireturn, 1) := by decide +kernel
theorem dX11_type_25 : decode cX11_type 25 = .ok (.aload_n 0, 1) := by decide +kernel
theorem dX11_type_26 : decode cX11_type 26 = .ok (.getfield 48, 3) := by decide +kernel
theorem dX11_type_29 : decode cX11_type 29 = .ok (.aload_n 0, 1) := by decide +kernel
theorem dX11_type_30 : decode cX11_type 30 = .ok (.getfield 260, 3) := by decide +kernel
theorem dX11_type_33 : decode cX11_type 33 = .ok (.iload_n 1, 1) := by decide +kernel
theorem dX11_type_34 : decode cX11_type 34 = .ok (.iastore, 1) := by decide +kernel
theorem dX11_type_35 : decode cX11_type 35 = .ok (.aload_n 0, 1) := by decide +kernel
theorem dX11_type_36 : decode cX11_type 36 = .ok (.dup, 1) := by decide +kernel
theorem dX11_type_37 : decode cX11_type 37 = .ok (.getfield 260, 3) := by decide +kernel
theorem dX11_type_40 : decode cX11_type 40 = .ok (.iconst 1, 1) := by decide +kernel
theorem dX11_type_41 : decode cX11_type 41 = .ok (.iadd, 1) := by decide +kernel
theorem dX11_type_42 : decode cX11_type 42 = .ok (.putfield 260, 3) := by decide +kernel
theorem dX11_type_45 : decode cX11_type 45 = .ok (.aload_n 0, 1) := by decide +kernel
theorem dX11_type_46 : decode cX11_type 46 = .ok (.getfield 260, 3) := by decide +kernel
theorem dX11_type_49 : decode cX11_type 49 = .ok (.ireturn, 1) := by decide +kernel
def F_X11_type (l1 : Int32) (V : sv_V) : Option (Int32 × sv_V) := if l1 < 0 then (some ((-2 : Int32), V)) else (if l1 ≤ (1114111 : Int32) then (if (V.1 0 7) < (100 : Int32) then (if sx_in (V.1 0 7) 100 = true then sx_let (sv_I V 145 (V.1 0 7).toNatClampNeg l1) (fun V5 => sx_let (sv_I V5 0 7 ((V5.1 0 7) + (1 : Int32))) (fun V6 => some (V6.1 0 7, V6))) else none) else (some ((-4 : Int32), V))) else (some ((-2 : Int32), V)))
set_option maxRecDepth 20000 in
theorem t_X11_type {g : sx_G} (hG : sx_Go g) {P : Option Value → sv_V → Prop} {r : Int32} {Vr : sv_V} (hP : P (some (.int r)) Vr) {l1 : Int32} {V : sv_V} (h : F_X11_type l1 V = some (r, Vr)) : sv_N g qX11_type 0 0 [(0, .ref 0), (1, .int l1)] [] V P := by
  unfold F_X11_type at h
  refine sx_iload_n (pc := 0) dX11_type_0 sx_m1 ?_
  refine sx_if_lt (pc := 1) (tgt := 10) dX11_type_1 (by decide) (fun c1 => ?_) (fun c1 => ?_)
  · have h := sx_pos c1 h
    refine sx_bipush (pc := 10) (v := (-2)) dX11_type_10 (by decide) ?_
    exact sv_iret (pc := 12) dX11_type_12 rfl h hP
  · have h := sx_neg c1 h
    refine sx_iload_n (pc := 4) dX11_type_4 sx_m1 ?_
    refine sx_ldc (pc := 5) dX11_type_5 k_X11_111 ?_
    refine sx_icmp_le (pc := 7) (tgt := 13) dX11_type_7 (by decide) (fun c2 => ?_) (fun c2 => ?_)
    · have h := sx_pos c2 h
      refine sx_aload_n (pc := 13) dX11_type_13 sx_m0 ?_
      refine sv_getI (pc := 14) hG dX11_type_14 f_11_260 lay_0 rfl ?_
      refine sx_bipush (pc := 17) (v := 100) dX11_type_17 (by decide) ?_
      refine sx_icmp_lt (pc := 19) (tgt := 25) dX11_type_19 (by decide) (fun c3 => ?_) (fun c3 => ?_)
      · have h := sx_pos c3 h
        refine sx_aload_n (pc := 25) dX11_type_25 sx_m0 ?_
        refine sv_getA (pc := 26) hG dX11_type_26 f_11_48 lay_0 rfl cr_0_6 ?_
        refine sx_aload_n (pc := 29) dX11_type_29 sx_m0 ?_
        refine sv_getI (pc := 30) hG dX11_type_30 f_11_260 lay_0 rfl ?_
        refine sx_iload_n (pc := 33) dX11_type_33 sx_m1 ?_
        obtain ⟨g4, h⟩ := sx_grd h
        obtain ⟨V5, hV5⟩ : ∃ z : sv_V, z = sv_I V 145 (V.1 0 7).toNatClampNeg l1 := ⟨_, rfl⟩
        have h := sx_letE hV5 h
        refine sv_iast (pc := 34) hG dX11_type_34 lay_145 g4 hV5 ?_
        refine sx_aload_n (pc := 35) dX11_type_35 sx_m0 ?_
        refine sx_dup (pc := 36) dX11_type_36 rfl ?_
        refine sv_getI (pc := 37) hG dX11_type_37 f_11_260 lay_0 rfl ?_
        refine sx_iconst (pc := 40) (v := 1) dX11_type_40 (by decide) ?_
        refine sx_iadd (pc := 41) dX11_type_41 ?_
        obtain ⟨V6, hV6⟩ : ∃ z : sv_V, z = sv_I V5 0 7 ((V5.1 0 7) + (1 : Int32)) := ⟨_, rfl⟩
        have h := sx_letE hV6 h
        refine sv_putI (pc := 42) hG dX11_type_42 f_11_260 lay_0 rfl hV6 ?_
        refine sx_aload_n (pc := 45) dX11_type_45 sx_m0 ?_
        refine sv_getI (pc := 46) hG dX11_type_46 f_11_260 lay_0 rfl ?_
        exact sv_iret (pc := 49) dX11_type_49 rfl h hP
      · have h := sx_neg c3 h
        refine sx_bipush (pc := 22) (v := (-4)) dX11_type_22 (by decide) ?_
        exact sv_iret (pc := 24) dX11_type_24 rfl h hP
    · have h := sx_neg c2 h
      refine sx_bipush (pc := 10) (v := (-2)) dX11_type_10 (by decide) ?_
      exact sv_iret (pc := 12) dX11_type_12 rfl h hP
theorem dX11_isBeyond_0 : decode cX11_isBeyond 0 = .ok (.lload_n 0, 1) := by decide +kernel
theorem dX11_isBeyond_1 : decode cX11_isBeyond 1 = .ok (.iload_n 2, 1) := by decide +kernel
theorem dX11_isBeyond_2 : decode cX11_isBeyond 2 = .ok (.ineg, 1) := by decide +kernel
theorem dX11_isBeyond_3 : decode cX11_isBeyond 3 = .ok (.i2l, 1) := by decide +kernel
theorem dX11_isBeyond_4 : decode cX11_isBeyond 4 = .ok (.lcmp, 1) := by decide +kernel
theorem dX11_isBeyond_5 : decode cX11_isBeyond 5 = .ok (.ifCond .lt 10, 3) := by decide +kernel
theorem dX11_isBeyond_8 : decode cX11_isBeyond 8 = .ok (.lload_n 0, 1) := by decide +kernel
theorem dX11_isBeyond_9 : decode cX11_isBeyond 9 = .ok (.iload_n 2, 1) := by decide +kernel
theorem dX11_isBeyond_10 : decode cX11_isBeyond 10 = .ok (.i2l, 1) := by decide +kernel
theorem dX11_isBeyond_11 : decode cX11_isBeyond 11 = .ok (.lcmp, 1) := by decide +kernel
theorem dX11_isBeyond_12 : decode cX11_isBeyond 12 = .ok (.ifCond .le 7, 3) := by decide +kernel
theorem dX11_isBeyond_15 : decode cX11_isBeyond 15 = .ok (.iconst 1, 1) := by decide +kernel
theorem dX11_isBeyond_16 : decode cX11_isBeyond 16 = .ok (.goto 4, 3) := by decide +kernel
theorem dX11_isBeyond_19 : decode cX11_isBeyond 19 = .ok (.iconst 0, 1) := by decide +kernel
theorem dX11_isBeyond_20 : decode cX11_isBeyond 20 = .ok (.ireturn, 1) := by decide +kernel
def B_X11_isBeyond_15   (V : sv_V) : Option (Int32 × sv_V) := some ((1 : Int32), V)
set_option maxRecDepth 20000 in
theorem tB_X11_isBeyond_15 {g : sx_G} (hG : sx_Go g) {P : Option Value → sv_V → Prop} {r : Int32} {Vr : sv_V} (hP : P (some (.int r)) Vr)    {V : sv_V} (h : B_X11_isBeyond_15   V = some (r, Vr)) : sv_N g qX11_isBeyond 0 15 [] [] V P := by
  unfold B_X11_isBeyond_15 at h
  refine sx_iconst (pc := 15) (v := 1) dX11_isBeyond_15 (by decide) ?_
  refine sx_goto (pc := 16) (tgt := 20) dX11_isBeyond_16 (by decide) ?_
  exact sv_zret (pc := 20) dX11_isBeyond_20 rfl rfl h hP
def F_X11_isBeyond (l0 : Int64) (l2 : Int32) (V : sv_V) : Option (Int32 × sv_V) := if (lg_cmp l0 ((-l2).toInt64)) < 0 then (B_X11_isBeyond_15   V) else (if (lg_cmp l0 l2.toInt64) ≤ 0 then (some ((0 : Int32), V)) else (B_X11_isBeyond_15   V))
set_option maxRecDepth 20000 in
theorem t_X11_isBeyond {g : sx_G} (hG : sx_Go g) {P : Option Value → sv_V → Prop} {r : Int32} {Vr : sv_V} (hP : P (some (.int r)) Vr) {l0 : Int64} {l2 : Int32} {V : sv_V} (h : F_X11_isBeyond l0 l2 V = some (r, Vr)) : sv_N g qX11_isBeyond 0 0 [(0, .long l0), (2, .int l2)] [] V P := by
  unfold F_X11_isBeyond at h
  refine sx_lload_n (pc := 0) dX11_isBeyond_0 sx_m0 ?_
  refine sx_iload_n (pc := 1) dX11_isBeyond_1 sx_m1 ?_
  refine sx_ineg (pc := 2) dX11_isBeyond_2 ?_
  refine sx_i2l (pc := 3) dX11_isBeyond_3 ?_
  refine sx_lcmp (pc := 4) dX11_isBeyond_4 ?_
  refine sx_if_lt (pc := 5) (tgt := 15) dX11_isBeyond_5 (by decide) (fun c1 => ?_) (fun c1 => ?_)
  · have h := sx_pos c1 h
    refine sx_wk sx_s0 ?_
    exact tB_X11_isBeyond_15 hG hP  h
  · have h := sx_neg c1 h
    refine sx_lload_n (pc := 8) dX11_isBeyond_8 sx_m0 ?_
    refine sx_iload_n (pc := 9) dX11_isBeyond_9 sx_m1 ?_
    refine sx_i2l (pc := 10) dX11_isBeyond_10 ?_
    refine sx_lcmp (pc := 11) dX11_isBeyond_11 ?_
    refine sx_if_le (pc := 12) (tgt := 19) dX11_isBeyond_12 (by decide) (fun c2 => ?_) (fun c2 => ?_)
    · have h := sx_pos c2 h
      refine sx_iconst (pc := 19) (v := 0) dX11_isBeyond_19 (by decide) ?_
      exact sv_zret (pc := 20) dX11_isBeyond_20 rfl rfl h hP
    · have h := sx_neg c2 h
      refine sx_wk sx_s0 ?_
      exact tB_X11_isBeyond_15 hG hP  h
theorem dX11_nearest_0 : decode cX11_nearest 0 = .ok (.lload_n 2, 1) := by decide +kernel
theorem dX11_nearest_1 : decode cX11_nearest 1 = .ok (.lconst 0, 1) := by decide +kernel
theorem dX11_nearest_2 : decode cX11_nearest 2 = .ok (.lcmp, 1) := by decide +kernel
theorem dX11_nearest_3 : decode cX11_nearest 3 = .ok (.ifCond .ne 5, 3) := by decide +kernel
theorem dX11_nearest_6 : decode cX11_nearest 6 = .ok (.lconst 0, 1) := by decide +kernel
theorem dX11_nearest_7 : decode cX11_nearest 7 = .ok (.lreturn, 1) := by decide +kernel
theorem dX11_nearest_8 : decode cX11_nearest 8 = .ok (.lload_n 0, 1) := by decide +kernel
theorem dX11_nearest_9 : decode cX11_nearest 9 = .ok (.lload_n 2, 1) := by decide +kernel
theorem dX11_nearest_10 : decode cX11_nearest 10 = .ok (.ldiv, 1) := by decide +kernel
theorem dX11_nearest_11 : decode cX11_nearest 11 = .ok (.lstore 4, 2) := by decide +kernel
theorem dX11_nearest_13 : decode cX11_nearest 13 = .ok (.lload_n 0, 1) := by decide +kernel
theorem dX11_nearest_14 : decode cX11_nearest 14 = .ok (.lload_n 2, 1) := by decide +kernel
theorem dX11_nearest_15 : decode cX11_nearest 15 = .ok (.lrem, 1) := by decide +kernel
theorem dX11_nearest_16 : decode cX11_nearest 16 = .ok (.lstore 6, 2) := by decide +kernel
theorem dX11_nearest_18 : decode cX11_nearest 18 = .ok (.lload 6, 2) := by decide +kernel
theorem dX11_nearest_20 : decode cX11_nearest 20 = .ok (.lconst 0, 1) := by decide +kernel
theorem dX11_nearest_21 : decode cX11_nearest 21 = .ok (.lcmp, 1) := by decide +kernel
theorem dX11_nearest_22 : decode cX11_nearest 22 = .ok (.ifCond .ge 8, 3) := by decide +kernel
theorem dX11_nearest_25 : decode cX11_nearest 25 = .ok (.lload 6, 2) := by decide +kernel
theorem dX11_nearest_27 : decode cX11_nearest 27 = .ok (.goto 6, 3) := by decide +kernel
theorem dX11_nearest_30 : decode cX11_nearest 30 = .ok (.lload 6, 2) := by decide +kernel
theorem dX11_nearest_32 : decode cX11_nearest 32 = .ok (.lneg, 1) := by decide +kernel
theorem dX11_nearest_33 : decode cX11_nearest 33 = .ok (.lstore 8, 2) := by decide +kernel
theorem dX11_nearest_35 : decode cX11_nearest 35 = .ok (.lload_n 2, 1) := by decide +kernel
theorem dX11_nearest_36 : decode cX11_nearest 36 = .ok (.lconst 0, 1) := by decide +kernel
theorem dX11_nearest_37 : decode cX11_nearest 37 = .ok (.lcmp, 1) := by decide +kernel
theorem dX11_nearest_38 : decode cX11_nearest 38 = .ok (.ifCond .ge 7, 3) := by decide +kernel
theorem dX11_nearest_41 : decode cX11_nearest 41 = .ok (.lload_n 2, 1) := by decide +kernel
theorem dX11_nearest_42 : decode cX11_nearest 42 = .ok (.goto 5, 3) := by decide +kernel
theorem dX11_nearest_45 : decode cX11_nearest 45 = .ok (.lload_n 2, 1) := by decide +kernel
theorem dX11_nearest_46 : decode cX11_nearest 46 = .ok (.lneg, 1) := by decide +kernel
theorem dX11_nearest_47 : decode cX11_nearest 47 = .ok (.lstore 10, 2) := by decide +kernel
theorem dX11_nearest_49 : decode cX11_nearest 49 = .ok (.lload 8, 2) := by decide +kernel
theorem dX11_nearest_51 : decode cX11_nearest 51 = .ok (.lload 10, 2) := by decide +kernel
theorem dX11_nearest_53 : decode cX11_nearest 53 = .ok (.lload 8, 2) := by decide +kernel
theorem dX11_nearest_55 : decode cX11_nearest 55 = .ok (.lsub, 1) := by decide +kernel
theorem dX11_nearest_56 : decode cX11_nearest 56 = .ok (.lcmp, 1) := by decide +kernel
theorem dX11_nearest_57 : decode cX11_nearest 57 = .ok (.ifCond .le 6, 3) := by decide +kernel
theorem dX11_nearest_60 : decode cX11_nearest 60 = .ok (.lload 4, 2) := by decide +kernel
theorem dX11_nearest_62 : decode cX11_nearest 62 = .ok (.lreturn, 1) := by decide +kernel
theorem dX11_nearest_63 : decode cX11_nearest 63 = .ok (.lload_n 0, 1) := by decide +kernel
theorem dX11_nearest_64 : decode cX11_nearest 64 = .ok (.lconst 0, 1) := by decide +kernel
theorem dX11_nearest_65 : decode cX11_nearest 65 = .ok (.lcmp, 1) := by decide +kernel
theorem dX11_nearest_66 : decode cX11_nearest 66 = .ok (.ifCond .ge 7, 3) := by decide +kernel
theorem dX11_nearest_69 : decode cX11_nearest 69 = .ok (.iconst 1, 1) := by decide +kernel
theorem dX11_nearest_70 : decode cX11_nearest 70 = .ok (.goto 4, 3) := by decide +kernel
theorem dX11_nearest_73 : decode cX11_nearest 73 = .ok (.iconst 0, 1) := by decide +kernel
theorem dX11_nearest_74 : decode cX11_nearest 74 = .ok (.lload_n 2, 1) := by decide +kernel
theorem dX11_nearest_75 : decode cX11_nearest 75 = .ok (.lconst 0, 1) := by decide +kernel
theorem dX11_nearest_76 : decode cX11_nearest 76 = .ok (.lcmp, 1) := by decide +kernel
theorem dX11_nearest_77 : decode cX11_nearest 77 = .ok (.ifCond .ge 7, 3) := by decide +kernel
theorem dX11_nearest_80 : decode cX11_nearest 80 = .ok (.iconst 1, 1) := by decide +kernel
theorem dX11_nearest_81 : decode cX11_nearest 81 = .ok (.goto 4, 3) := by decide +kernel
theorem dX11_nearest_84 : decode cX11_nearest 84 = .ok (.iconst 0, 1) := by decide +kernel
theorem dX11_nearest_85 : decode cX11_nearest 85 = .ok (.if_icmp .eq 10, 3) := by decide +kernel
theorem dX11_nearest_88 : decode cX11_nearest 88 = .ok (.lload 4, 2) := by decide +kernel
theorem dX11_nearest_90 : decode cX11_nearest 90 = .ok (.lconst 1, 1) := by decide +kernel
theorem dX11_nearest_91 : decode cX11_nearest 91 = .ok (.lsub, 1) := by decide +kernel
theorem dX11_nearest_92 : decode cX11_nearest 92 = .ok (.goto 7, 3) := by decide +kernel
theorem dX11_nearest_95 : decode cX11_nearest 95 = .ok (.lload 4, 2) := by decide +kernel
theorem dX11_nearest_97 : decode cX11_nearest 97 = .ok (.lconst 1, 1) := by decide +kernel
theorem dX11_nearest_98 : decode cX11_nearest 98 = .ok (.ladd, 1) := by decide +kernel
theorem dX11_nearest_99 : decode cX11_nearest 99 = .ok (.lreturn, 1) := by decide +kernel
def B_X11_nearest_85  (l4 : Int64) (s0 : Int32) (s1 : Int32) (V : sv_V) : Option (Int64 × sv_V) := if s0 = s1 then (some (l4 + (1 : Int64), V)) else (some (l4 - (1 : Int64), V))
set_option maxRecDepth 20000 in
theorem tB_X11_nearest_85 {g : sx_G} (hG : sx_Go g) {P : Option Value → sv_V → Prop} {r : Int64} {Vr : sv_V} (hP : P (some (.long r)) Vr)   {l4 : Int64} {s0 : Int32} {s1 : Int32} {V : sv_V} (h : B_X11_nearest_85  l4 s0 s1 V = some (r, Vr)) : sv_N g qX11_nearest 0 85 [(4, .long l4)] [.int s1, .int s0] V P := by
  unfold B_X11_nearest_85 at h
  refine sx_icmp_eq (pc := 85) (tgt := 95) dX11_nearest_85 (by decide) (fun c1 => ?_) (fun c1 => ?_)
  · have h := sx_pos c1 h
    refine sx_lload (pc := 95) dX11_nearest_95 sx_m0 ?_
    refine sx_lconst (pc := 97) (v := 1) dX11_nearest_97 rfl ?_
    refine sx_ladd (pc := 98) dX11_nearest_98 ?_
    exact sv_lret (pc := 99) dX11_nearest_99 rfl h hP
  · have h := sx_neg c1 h
    refine sx_lload (pc := 88) dX11_nearest_88 sx_m0 ?_
    refine sx_lconst (pc := 90) (v := 1) dX11_nearest_90 rfl ?_
    refine sx_lsub (pc := 91) dX11_nearest_91 ?_
    refine sx_goto (pc := 92) (tgt := 99) dX11_nearest_92 (by decide) ?_
    exact sv_lret (pc := 99) dX11_nearest_99 rfl h hP
def B_X11_nearest_74  (l2 : Int64) (l4 : Int64) (s0 : Int32) (V : sv_V) : Option (Int64 × sv_V) := if 0 ≤ (lg_cmp l2 (0 : Int64)) then (B_X11_nearest_85  l4 s0 (0 : Int32) V) else (B_X11_nearest_85  l4 s0 (1 : Int32) V)
set_option maxRecDepth 20000 in
theorem tB_X11_nearest_74 {g : sx_G} (hG : sx_Go g) {P : Option Value → sv_V → Prop} {r : Int64} {Vr : sv_V} (hP : P (some (.long r)) Vr)   {l2 : Int64} {l4 : Int64} {s0 : Int32} {V : sv_V} (h : B_X11_nearest_74  l2 l4 s0 V = some (r, Vr)) : sv_N g qX11_nearest 0 74 [(2, .long l2), (4, .long l4)] [.int s0] V P := by
  unfold B_X11_nearest_74 at h
  refine sx_lload_n (pc := 74) dX11_nearest_74 sx_m0 ?_
  refine sx_lconst (pc := 75) (v := 0) dX11_nearest_75 rfl ?_
  refine sx_lcmp (pc := 76) dX11_nearest_76 ?_
  refine sx_if_ge (pc := 77) (tgt := 84) dX11_nearest_77 (by decide) (fun c2 => ?_) (fun c2 => ?_)
  · have h := sx_pos c2 h
    refine sx_iconst (pc := 84) (v := 0) dX11_nearest_84 (by decide) ?_
    refine sx_wk (sx_s1 sx_m1 sx_s0) ?_
    exact tB_X11_nearest_85 hG hP  h
  · have h := sx_neg c2 h
    refine sx_iconst (pc := 80) (v := 1) dX11_nearest_80 (by decide) ?_
    refine sx_goto (pc := 81) (tgt := 85) dX11_nearest_81 (by decide) ?_
    refine sx_wk (sx_s1 sx_m1 sx_s0) ?_
    exact tB_X11_nearest_85 hG hP  h
def B_X11_nearest_47  (l0 : Int64) (l2 : Int64) (l4 : Int64) (l8 : Int64) (s0 : Int64) (V : sv_V) : Option (Int64 × sv_V) := if (lg_cmp l8 (s0 - l8)) ≤ 0 then (if 0 ≤ (lg_cmp l0 (0 : Int64)) then (B_X11_nearest_74  l2 l4 (0 : Int32) V) else (B_X11_nearest_74  l2 l4 (1 : Int32) V)) else (some (l4, V))
set_option maxRecDepth 20000 in
theorem tB_X11_nearest_47 {g : sx_G} (hG : sx_Go g) {P : Option Value → sv_V → Prop} {r : Int64} {Vr : sv_V} (hP : P (some (.long r)) Vr)   {l0 : Int64} {l2 : Int64} {l4 : Int64} {l8 : Int64} {s0 : Int64} {V : sv_V} (h : B_X11_nearest_47  l0 l2 l4 l8 s0 V = some (r, Vr)) : sv_N g qX11_nearest 0 47 [(0, .long l0), (2, .long l2), (4, .long l4), (8, .long l8)] [.long s0] V P := by
  unfold B_X11_nearest_47 at h
  refine sx_lstore (pc := 47) (lo' := [(10, .long s0), (0, .long l0), (2, .long l2), (4, .long l4), (8, .long l8)]) dX11_nearest_47 (by decide) rfl ?_
  refine sx_lload (pc := 49) dX11_nearest_49 sx_m4 ?_
  refine sx_lload (pc := 51) dX11_nearest_51 sx_m0 ?_
  refine sx_lload (pc := 53) dX11_nearest_53 sx_m4 ?_
  refine sx_lsub (pc := 55) dX11_nearest_55 ?_
  refine sx_lcmp (pc := 56) dX11_nearest_56 ?_
  refine sx_if_le (pc := 57) (tgt := 63) dX11_nearest_57 (by decide) (fun c3 => ?_) (fun c3 => ?_)
  · have h := sx_pos c3 h
    refine sx_lload_n (pc := 63) dX11_nearest_63 sx_m1 ?_
    refine sx_lconst (pc := 64) (v := 0) dX11_nearest_64 rfl ?_
    refine sx_lcmp (pc := 65) dX11_nearest_65 ?_
    refine sx_if_ge (pc := 66) (tgt := 73) dX11_nearest_66 (by decide) (fun c4 => ?_) (fun c4 => ?_)
    · have h := sx_pos c4 h
      refine sx_iconst (pc := 73) (v := 0) dX11_nearest_73 (by decide) ?_
      refine sx_wk (sx_s1 sx_m2 (sx_s1 sx_m3 sx_s0)) ?_
      exact tB_X11_nearest_74 hG hP  h
    · have h := sx_neg c4 h
      refine sx_iconst (pc := 69) (v := 1) dX11_nearest_69 (by decide) ?_
      refine sx_goto (pc := 70) (tgt := 74) dX11_nearest_70 (by decide) ?_
      refine sx_wk (sx_s1 sx_m2 (sx_s1 sx_m3 sx_s0)) ?_
      exact tB_X11_nearest_74 hG hP  h
  · have h := sx_neg c3 h
    refine sx_lload (pc := 60) dX11_nearest_60 sx_m3 ?_
    exact sv_lret (pc := 62) dX11_nearest_62 rfl h hP
def B_X11_nearest_33  (l0 : Int64) (l2 : Int64) (l4 : Int64) (s0 : Int64) (V : sv_V) : Option (Int64 × sv_V) := if 0 ≤ (lg_cmp l2 (0 : Int64)) then (B_X11_nearest_47  l0 l2 l4 s0 (-l2) V) else (B_X11_nearest_47  l0 l2 l4 s0 l2 V)
set_option maxRecDepth 20000 in
theorem tB_X11_nearest_33 {g : sx_G} (hG : sx_Go g) {P : Option Value → sv_V → Prop} {r : Int64} {Vr : sv_V} (hP : P (some (.long r)) Vr)   {l0 : Int64} {l2 : Int64} {l4 : Int64} {s0 : Int64} {V : sv_V} (h : B_X11_nearest_33  l0 l2 l4 s0 V = some (r, Vr)) : sv_N g qX11_nearest 0 33 [(0, .long l0), (2, .long l2), (4, .long l4)] [.long s0] V P := by
  unfold B_X11_nearest_33 at h
  refine sx_lstore (pc := 33) (lo' := [(8, .long s0), (0, .long l0), (2, .long l2), (4, .long l4)]) dX11_nearest_33 (by decide) rfl ?_
  refine sx_lload_n (pc := 35) dX11_nearest_35 sx_m2 ?_
  refine sx_lconst (pc := 36) (v := 0) dX11_nearest_36 rfl ?_
  refine sx_lcmp (pc := 37) dX11_nearest_37 ?_
  refine sx_if_ge (pc := 38) (tgt := 45) dX11_nearest_38 (by decide) (fun c5 => ?_) (fun c5 => ?_)
  · have h := sx_pos c5 h
    refine sx_lload_n (pc := 45) dX11_nearest_45 sx_m2 ?_
    refine sx_lneg (pc := 46) dX11_nearest_46 ?_
    refine sx_wk (sx_s1 sx_m1 (sx_s1 sx_m2 (sx_s1 sx_m3 (sx_s1 sx_m0 sx_s0)))) ?_
    exact tB_X11_nearest_47 hG hP  h
  · have h := sx_neg c5 h
    refine sx_lload_n (pc := 41) dX11_nearest_41 sx_m2 ?_
    refine sx_goto (pc := 42) (tgt := 47) dX11_nearest_42 (by decide) ?_
    refine sx_wk (sx_s1 sx_m1 (sx_s1 sx_m2 (sx_s1 sx_m3 (sx_s1 sx_m0 sx_s0)))) ?_
    exact tB_X11_nearest_47 hG hP  h
def F_X11_nearest (l0 : Int64) (l2 : Int64) (V : sv_V) : Option (Int64 × sv_V) := if (lg_cmp l2 (0 : Int64)) = 0 then (some ((0 : Int64), V)) else (if ¬ l2 = 0 then sx_let (l0 / l2) (fun x8 => if ¬ l2 = 0 then sx_let (l0 - l0 / l2 * l2) (fun x10 => if 0 ≤ (lg_cmp x10 (0 : Int64)) then (B_X11_nearest_33  l0 l2 x8 (-x10) V) else (B_X11_nearest_33  l0 l2 x8 x10 V)) else none) else none)
set_option maxRecDepth 20000 in
theorem t_X11_nearest {g : sx_G} (hG : sx_Go g) {P : Option Value → sv_V → Prop} {r : Int64} {Vr : sv_V} (hP : P (some (.long r)) Vr) {l0 : Int64} {l2 : Int64} {V : sv_V} (h : F_X11_nearest l0 l2 V = some (r, Vr)) : sv_N g qX11_nearest 0 0 [(0, .long l0), (2, .long l2)] [] V P := by
  unfold F_X11_nearest at h
  refine sx_lload_n (pc := 0) dX11_nearest_0 sx_m1 ?_
  refine sx_lconst (pc := 1) (v := 0) dX11_nearest_1 rfl ?_
  refine sx_lcmp (pc := 2) dX11_nearest_2 ?_
  refine sx_if_ne (pc := 3) (tgt := 8) dX11_nearest_3 (by decide) (fun c6 => ?_) (fun c6 => ?_)
  · have h := sx_neg c6 h
    refine sx_lload_n (pc := 8) dX11_nearest_8 sx_m0 ?_
    refine sx_lload_n (pc := 9) dX11_nearest_9 sx_m1 ?_
    obtain ⟨g7, h⟩ := sx_grd h
    refine sx_ldiv (pc := 10) dX11_nearest_10 g7 ?_
    refine sv_tJ (fun x8 hx8 => ?_)
    have h := sx_letE hx8 h
    refine sx_lstore (pc := 11) (lo' := [(4, .long x8), (0, .long l0), (2, .long l2)]) dX11_nearest_11 (by decide) rfl ?_
    refine sx_lload_n (pc := 13) dX11_nearest_13 sx_m1 ?_
    refine sx_lload_n (pc := 14) dX11_nearest_14 sx_m2 ?_
    obtain ⟨g9, h⟩ := sx_grd h
    refine sx_lrem (pc := 15) dX11_nearest_15 g9 ?_
    refine sv_tJ (fun x10 hx10 => ?_)
    have h := sx_letE hx10 h
    refine sx_lstore (pc := 16) (lo' := [(6, .long x10), (4, .long x8), (0, .long l0), (2, .long l2)]) dX11_nearest_16 (by decide) rfl ?_
    refine sx_lload (pc := 18) dX11_nearest_18 sx_m0 ?_
    refine sx_lconst (pc := 20) (v := 0) dX11_nearest_20 rfl ?_
    refine sx_lcmp (pc := 21) dX11_nearest_21 ?_
    refine sx_if_ge (pc := 22) (tgt := 30) dX11_nearest_22 (by decide) (fun c11 => ?_) (fun c11 => ?_)
    · have h := sx_pos c11 h
      refine sx_lload (pc := 30) dX11_nearest_30 sx_m0 ?_
      refine sx_lneg (pc := 32) dX11_nearest_32 ?_
      refine sx_wk (sx_s1 sx_m2 (sx_s1 sx_m3 (sx_s1 sx_m1 sx_s0))) ?_
      exact tB_X11_nearest_33 hG hP  h
    · have h := sx_neg c11 h
      refine sx_lload (pc := 25) dX11_nearest_25 sx_m0 ?_
      refine sx_goto (pc := 27) (tgt := 33) dX11_nearest_27 (by decide) ?_
      refine sx_wk (sx_s1 sx_m2 (sx_s1 sx_m3 (sx_s1 sx_m1 sx_s0))) ?_
      exact tB_X11_nearest_33 hG hP  h
  · have h := sx_pos c6 h
    refine sx_lconst (pc := 6) (v := 0) dX11_nearest_6 rfl ?_
    exact sv_lret (pc := 7) dX11_nearest_7 rfl h hP
theorem dX12_in_0 : decode cX12_in 0 = .ok (.lload_n 0, 1) := by decide +kernel
theorem dX12_in_1 : decode cX12_in 1 = .ok (.lload_n 2, 1) := by decide +kernel
theorem dX12_in_2 : decode cX12_in 2 = .ok (.lcmp, 1) := by decide +kernel
theorem dX12_in_3 : decode cX12_in 3 = .ok (.ifCond .lt 14, 3) := by decide +kernel
theorem dX12_in_6 : decode cX12_in 6 = .ok (.lload_n 0, 1) := by decide +kernel
theorem dX12_in_7 : decode cX12_in 7 = .ok (.lload 4, 2) := by decide +kernel
theorem dX12_in_9 : decode cX12_in 9 = .ok (.lcmp, 1) := by decide +kernel
theorem dX12_in_10 : decode cX12_in 10 = .ok (.ifCond .gt 7, 3) := by decide +kernel
theorem dX12_in_13 : decode cX12_in 13 = .ok (.iconst 1, 1) := by decide +kernel
theorem dX12_in_14 : decode cX12_in 14 = .ok (.goto 4, 3) := by decide +kernel
theorem dX12_in_17 : decode cX12_in 17 = .ok (.iconst 0, 1) := by decide +kernel
theorem dX12_in_18 : decode cX12_in 18 = .ok (.ireturn, 1) := by decide +kernel
def F_X12_in (l0 : Int64) (l2 : Int64) (l4 : Int64) (V : sv_V) : Option (Int32 × sv_V) := if (lg_cmp l0 l2) < 0 then (some ((0 : Int32), V)) else (if 0 < (lg_cmp l0 l4) then (some ((0 : Int32), V)) else (some ((1 : Int32), V)))
set_option maxRecDepth 20000 in
theorem t_X12_in {g : sx_G} (hG : sx_Go g) {P : Option Value → sv_V → Prop} {r : Int32} {Vr : sv_V} (hP : P (some (.int r)) Vr) {l0 : Int64} {l2 : Int64} {l4 : Int64} {V : sv_V} (h : F_X12_in l0 l2 l4 V = some (r, Vr)) : sv_N g qX12_in 0 0 [(0, .long l0), (2, .long l2), (4, .long l4)] [] V P := by
  unfold F_X12_in at h
  refine sx_lload_n (pc := 0) dX12_in_0 sx_m0 ?_
  refine sx_lload_n (pc := 1) dX12_in_1 sx_m1 ?_
  refine sx_lcmp (pc := 2) dX12_in_2 ?_
  refine sx_if_lt (pc := 3) (tgt := 17) dX12_in_3 (by decide) (fun c1 => ?_) (fun c1 => ?_)
  · have h := sx_pos c1 h
    refine sx_iconst (pc := 17) (v := 0) dX12_in_17 (by decide) ?_
    exact sv_zret (pc := 18) dX12_in_18 rfl rfl h hP
  · have h := sx_neg c1 h
    refine sx_lload_n (pc := 6) dX12_in_6 sx_m0 ?_
    refine sx_lload (pc := 7) dX12_in_7 sx_m2 ?_
    refine sx_lcmp (pc := 9) dX12_in_9 ?_
    refine sx_if_gt (pc := 10) (tgt := 17) dX12_in_10 (by decide) (fun c2 => ?_) (fun c2 => ?_)
    · have h := sx_pos c2 h
      refine sx_iconst (pc := 17) (v := 0) dX12_in_17 (by decide) ?_
      exact sv_zret (pc := 18) dX12_in_18 rfl rfl h hP
    · have h := sx_neg c2 h
      refine sx_iconst (pc := 13) (v := 1) dX12_in_13 (by decide) ?_
      refine sx_goto (pc := 14) (tgt := 18) dX12_in_14 (by decide) ?_
      exact sv_zret (pc := 18) dX12_in_18 rfl rfl h hP
theorem dX12_sizeOf_0 : decode cX12_sizeOf 0 = .ok (.lload_n 0, 1) := by decide +kernel
theorem dX12_sizeOf_1 : decode cX12_sizeOf 1 = .ok (.lconst 0, 1) := by decide +kernel
theorem dX12_sizeOf_2 : decode cX12_sizeOf 2 = .ok (.lcmp, 1) := by decide +kernel
theorem dX12_sizeOf_3 : decode cX12_sizeOf 3 = .ok (.ifCond .ge 8, 3) := by decide +kernel
theorem dX12_sizeOf_6 : decode cX12_sizeOf 6 = .ok (.lload_n 0, 1) := by decide +kernel
theorem dX12_sizeOf_7 : decode cX12_sizeOf 7 = .ok (.lneg, 1) := by decide +kernel
theorem dX12_sizeOf_8 : decode cX12_sizeOf 8 = .ok (.goto 4, 3) := by decide +kernel
theorem dX12_sizeOf_11 : decode cX12_sizeOf 11 = .ok (.lload_n 0, 1) := by decide +kernel
theorem dX12_sizeOf_12 : decode cX12_sizeOf 12 = .ok (.lreturn, 1) := by decide +kernel
def F_X12_sizeOf (l0 : Int64) (V : sv_V) : Option (Int64 × sv_V) := if 0 ≤ (lg_cmp l0 (0 : Int64)) then (some (l0, V)) else (some (-l0, V))
set_option maxRecDepth 20000 in
theorem t_X12_sizeOf {g : sx_G} (hG : sx_Go g) {P : Option Value → sv_V → Prop} {r : Int64} {Vr : sv_V} (hP : P (some (.long r)) Vr) {l0 : Int64} {V : sv_V} (h : F_X12_sizeOf l0 V = some (r, Vr)) : sv_N g qX12_sizeOf 0 0 [(0, .long l0)] [] V P := by
  unfold F_X12_sizeOf at h
  refine sx_lload_n (pc := 0) dX12_sizeOf_0 sx_m0 ?_
  refine sx_lconst (pc := 1) (v := 0) dX12_sizeOf_1 rfl ?_
  refine sx_lcmp (pc := 2) dX12_sizeOf_2 ?_
  refine sx_if_ge (pc := 3) (tgt := 11) dX12_sizeOf_3 (by decide) (fun c1 => ?_) (fun c1 => ?_)
  · have h := sx_pos c1 h
    refine sx_lload_n (pc := 11) dX12_sizeOf_11 sx_m0 ?_
    exact sv_lret (pc := 12) dX12_sizeOf_12 rfl h hP
  · have h := sx_neg c1 h
    refine sx_lload_n (pc := 6) dX12_sizeOf_6 sx_m0 ?_
    refine sx_lneg (pc := 7) dX12_sizeOf_7 ?_
    refine sx_goto (pc := 8) (tgt := 12) dX12_sizeOf_8 (by decide) ?_
    exact sv_lret (pc := 12) dX12_sizeOf_12 rfl h hP
theorem dX12_toPixel_0 : decode cX12_toPixel 0 = .ok (.lload_n 0, 1) := by decide +kernel
theorem dX12_toPixel_1 : decode cX12_toPixel 1 = .ok (.ldc2_w 202, 3) := by decide +kernel
theorem dX12_toPixel_4 : decode cX12_toPixel 4 = .ok (.ladd, 1) := by decide +kernel
theorem dX12_toPixel_5 : decode cX12_toPixel 5 = .ok (.ldc2_w 204, 3) := by decide +kernel
theorem dX12_toPixel_8 : decode cX12_toPixel 8 = .ok (.land, 1) := by decide +kernel
theorem dX12_toPixel_9 : decode cX12_toPixel 9 = .ok (.l2i, 1) := by decide +kernel
theorem dX12_toPixel_10 : decode cX12_toPixel 10 = .ok (.ireturn, 1) := by decide +kernel
def F_X12_toPixel (l0 : Int64) (V : sv_V) : Option (Int32 × sv_V) := some (((l0 + (32 : Int64)) &&& (-64 : Int64)).toInt32, V)
set_option maxRecDepth 20000 in
theorem t_X12_toPixel {g : sx_G} (hG : sx_Go g) {P : Option Value → sv_V → Prop} {r : Int32} {Vr : sv_V} (hP : P (some (.int r)) Vr) {l0 : Int64} {V : sv_V} (h : F_X12_toPixel l0 V = some (r, Vr)) : sv_N g qX12_toPixel 0 0 [(0, .long l0)] [] V P := by
  unfold F_X12_toPixel at h
  refine sx_lload_n (pc := 0) dX12_toPixel_0 sx_m0 ?_
  refine sx_ldc2 (pc := 1) dX12_toPixel_1 k_X12_202 ?_
  refine sx_ladd (pc := 4) dX12_toPixel_4 ?_
  refine sx_ldc2 (pc := 5) dX12_toPixel_5 k_X12_204 ?_
  refine sx_land (pc := 8) dX12_toPixel_8 ?_
  refine sx_l2i (pc := 9) dX12_toPixel_9 ?_
  exact sv_iret (pc := 10) dX12_toPixel_10 rfl h hP
theorem dX12_u1_0 : decode cX12_u1 0 = .ok (.iload_n 1, 1) := by decide +kernel
theorem dX12_u1_1 : decode cX12_u1 1 = .ok (.ifCond .lt 24, 3) := by decide +kernel
theorem dX12_u1_4 : decode cX12_u1 4 = .ok (.iload_n 1, 1) := by decide +kernel
theorem dX12_u1_5 : decode cX12_u1 5 = .ok (.aload_n 0, 1) := by decide +kernel
theorem dX12_u1_6 : decode cX12_u1 6 = .ok (.getfield 206, 3) := by decide +kernel
theorem dX12_u1_9 : decode cX12_u1 9 = .ok (.if_icmp .ge 16, 3) := by decide +kernel
theorem dX12_u1_12 : decode cX12_u1 12 = .ok (.aload_n 0, 1) := by decide +kernel
theorem dX12_u1_13 : decode cX12_u1 13 = .ok (.getfield 13, 3) := by decide +kernel
theorem dX12_u1_16 : decode cX12_u1 16 = .ok (.iload_n 1, 1) := by decide +kernel
theorem dX12_u1_17 : decode cX12_u1 17 = .ok (.baload, 1) := by decide +kernel
theorem dX12_u1_18 : decode cX12_u1 18 = .ok (.sipush 255, 3) := by decide +kernel
theorem dX12_u1_21 : decode cX12_u1 21 = .ok (.iand, 1) := by decide +kernel
theorem dX12_u1_22 : decode cX12_u1 22 = .ok (.goto 4, 3) := by decide +kernel
theorem dX12_u1_25 : decode cX12_u1 25 = .ok (.iconst 0, 1) := by decide +kernel
theorem dX12_u1_26 : decode cX12_u1 26 = .ok (.ireturn, 1) := by decide +kernel
def F_X12_u1 (l1 : Int32) (V : sv_V) : Option (Int32 × sv_V) := if l1 < 0 then (some ((0 : Int32), V)) else (if (V.1 146 3) ≤ l1 then (some ((0 : Int32), V)) else (if sx_in l1 12000 = true then some ((V.1 148 l1.toNatClampNeg) &&& (255 : Int32), V) else none))
set_option maxRecDepth 20000 in
theorem t_X12_u1 {g : sx_G} (hG : sx_Go g) {P : Option Value → sv_V → Prop} {r : Int32} {Vr : sv_V} (hP : P (some (.int r)) Vr) {l1 : Int32} {V : sv_V} (h : F_X12_u1 l1 V = some (r, Vr)) : sv_N g qX12_u1 0 0 [(0, .ref 146), (1, .int l1)] [] V P := by
  unfold F_X12_u1 at h
  refine sx_iload_n (pc := 0) dX12_u1_0 sx_m1 ?_
  refine sx_if_lt (pc := 1) (tgt := 25) dX12_u1_1 (by decide) (fun c1 => ?_) (fun c1 => ?_)
  · have h := sx_pos c1 h
    refine sx_iconst (pc := 25) (v := 0) dX12_u1_25 (by decide) ?_
    exact sv_iret (pc := 26) dX12_u1_26 rfl h hP
  · have h := sx_neg c1 h
    refine sx_iload_n (pc := 4) dX12_u1_4 sx_m1 ?_
    refine sx_aload_n (pc := 5) dX12_u1_5 sx_m0 ?_
    refine sv_getI (pc := 6) hG dX12_u1_6 f_12_206 lay_146 rfl ?_
    refine sx_icmp_ge (pc := 9) (tgt := 25) dX12_u1_9 (by decide) (fun c2 => ?_) (fun c2 => ?_)
    · have h := sx_pos c2 h
      refine sx_iconst (pc := 25) (v := 0) dX12_u1_25 (by decide) ?_
      exact sv_iret (pc := 26) dX12_u1_26 rfl h hP
    · have h := sx_neg c2 h
      refine sx_aload_n (pc := 12) dX12_u1_12 sx_m0 ?_
      refine sv_getA (pc := 13) hG dX12_u1_13 f_12_13 lay_146 rfl cr_146_2 ?_
      refine sx_iload_n (pc := 16) dX12_u1_16 sx_m1 ?_
      obtain ⟨g3, h⟩ := sx_grd h
      refine sv_bald (pc := 17) hG dX12_u1_17 lay_148 g3 ?_
      refine sx_sipush (pc := 18) (v := 255) dX12_u1_18 (by decide) ?_
      refine sx_iand (pc := 21) dX12_u1_21 ?_
      refine sx_goto (pc := 22) (tgt := 26) dX12_u1_22 (by decide) ?_
      exact sv_iret (pc := 26) dX12_u1_26 rfl h hP
theorem dX12_u2_0 : decode cX12_u2 0 = .ok (.aload_n 0, 1) := by decide +kernel
theorem dX12_u2_1 : decode cX12_u2 1 = .ok (.iload_n 1, 1) := by decide +kernel
theorem dX12_u2_2 : decode cX12_u2 2 = .ok (.invokevirtual 209, 3) := by decide +kernel
theorem dX12_u2_5 : decode cX12_u2 5 = .ok (.bipush 8, 2) := by decide +kernel
theorem dX12_u2_7 : decode cX12_u2 7 = .ok (.ishl, 1) := by decide +kernel
theorem dX12_u2_8 : decode cX12_u2 8 = .ok (.aload_n 0, 1) := by decide +kernel
theorem dX12_u2_9 : decode cX12_u2 9 = .ok (.iload_n 1, 1) := by decide +kernel
theorem dX12_u2_10 : decode cX12_u2 10 = .ok (.iconst 1, 1) := by decide +kernel
theorem dX12_u2_11 : decode cX12_u2 11 = .ok (.iadd, 1) := by decide +kernel
theorem dX12_u2_12 : decode cX12_u2 12 = .ok (.invokevirtual 209, 3) := by decide +kernel
theorem dX12_u2_15 : decode cX12_u2 15 = .ok (.ior, 1) := by decide +kernel
theorem dX12_u2_16 : decode cX12_u2 16 = .ok (.ireturn, 1) := by decide +kernel
def F_X12_u2 (l1 : Int32) (V : sv_V) : Option (Int32 × sv_V) := (F_X12_u1 l1 V).bind (fun (x3, V1) => (F_X12_u1 (l1 + (1 : Int32)) V1).bind (fun (x6, V4) => some ((x3 <<< ((8 : Int32) &&& 31)) ||| x6, V4)))
set_option maxRecDepth 20000 in
theorem t_X12_u2 {g : sx_G} (hG : sx_Go g) {P : Option Value → sv_V → Prop} {r : Int32} {Vr : sv_V} (hP : P (some (.int r)) Vr) {l1 : Int32} {V : sv_V} (h : F_X12_u2 l1 V = some (r, Vr)) : sv_N g qX12_u2 1 0 [(0, .ref 146), (1, .int l1)] [] V P := by
  unfold F_X12_u2 at h
  refine sx_aload_n (pc := 0) dX12_u2_0 sx_m0 ?_
  refine sx_iload_n (pc := 1) dX12_u2_1 sx_m1 ?_
  obtain ⟨⟨x3, V1⟩, g2, h⟩ := sx_bnd h
  refine sv_cV (pc := 2) (y := qX12_u1) (o := (some (.int x3))) (as := [.int l1]) (V1 := V1) hG dX12_u2_2 l_X12_209 y0X12_u1 yvX12_u1 rfl (Nat.le_of_ble_eq_true rfl) lay_146 kr_12 (by decide) (Nat.le_of_ble_eq_true rfl) rfl rfl rfl (t_X12_u1 hG ⟨rfl, rfl⟩ g2) ?_
  refine sx_bipush (pc := 5) (v := 8) dX12_u2_5 (by decide) ?_
  refine sx_ishl (pc := 7) dX12_u2_7 ?_
  refine sx_aload_n (pc := 8) dX12_u2_8 sx_m0 ?_
  refine sx_iload_n (pc := 9) dX12_u2_9 sx_m1 ?_
  refine sx_iconst (pc := 10) (v := 1) dX12_u2_10 (by decide) ?_
  refine sx_iadd (pc := 11) dX12_u2_11 ?_
  obtain ⟨⟨x6, V4⟩, g5, h⟩ := sx_bnd h
  refine sv_cV (pc := 12) (y := qX12_u1) (o := (some (.int x6))) (as := [.int (l1 + (1 : Int32))]) (V1 := V4) hG dX12_u2_12 l_X12_209 y0X12_u1 yvX12_u1 rfl (Nat.le_of_ble_eq_true rfl) lay_146 kr_12 (by decide) (Nat.le_of_ble_eq_true rfl) rfl rfl rfl (t_X12_u1 hG ⟨rfl, rfl⟩ g5) ?_
  refine sx_ior (pc := 15) dX12_u2_15 ?_
  exact sv_iret (pc := 16) dX12_u2_16 rfl h hP
theorem dX12_s2_0 : decode cX12_s2 0 = .ok (.aload_n 0, 1) := by decide +kernel
theorem dX12_s2_1 : decode cX12_s2 1 = .ok (.iload_n 1, 1) := by decide +kernel
theorem dX12_s2_2 : decode cX12_s2 2 = .ok (.invokevirtual 213, 3) := by decide +kernel
theorem dX12_s2_5 : decode cX12_s2 5 = .ok (.i2s, 1) := by decide +kernel
theorem dX12_s2_6 : decode cX12_s2 6 = .ok (.ireturn, 1) := by decide +kernel
def F_X12_s2 (l1 : Int32) (V : sv_V) : Option (Int32 × sv_V) := (F_X12_u2 l1 V).bind (fun (x3, V1) => some (x3.toInt16.toInt32, V1))
set_option maxRecDepth 20000 in
theorem t_X12_s2 {g : sx_G} (hG : sx_Go g) {P : Option Value → sv_V → Prop} {r : Int32} {Vr : sv_V} (hP : P (some (.int r)) Vr) {l1 : Int32} {V : sv_V} (h : F_X12_s2 l1 V = some (r, Vr)) : sv_N g qX12_s2 2 0 [(0, .ref 146), (1, .int l1)] [] V P := by
  unfold F_X12_s2 at h
  refine sx_aload_n (pc := 0) dX12_s2_0 sx_m0 ?_
  refine sx_iload_n (pc := 1) dX12_s2_1 sx_m1 ?_
  obtain ⟨⟨x3, V1⟩, g2, h⟩ := sx_bnd h
  refine sv_cV (pc := 2) (y := qX12_u2) (o := (some (.int x3))) (as := [.int l1]) (V1 := V1) hG dX12_s2_2 l_X12_213 y0X12_u2 yvX12_u2 rfl (Nat.le_of_ble_eq_true rfl) lay_146 kr_12 (by decide) (Nat.le_of_ble_eq_true rfl) rfl rfl rfl (t_X12_u2 hG ⟨rfl, rfl⟩ g2) ?_
  refine sx_i2s (pc := 5) dX12_s2_5 ?_
  exact sv_iret (pc := 6) dX12_s2_6 rfl h hP
theorem dX12_s1_0 : decode cX12_s1 0 = .ok (.aload_n 0, 1) := by decide +kernel
theorem dX12_s1_1 : decode cX12_s1 1 = .ok (.iload_n 1, 1) := by decide +kernel
theorem dX12_s1_2 : decode cX12_s1 2 = .ok (.invokevirtual 209, 3) := by decide +kernel
theorem dX12_s1_5 : decode cX12_s1 5 = .ok (.i2b, 1) := by decide +kernel
theorem dX12_s1_6 : decode cX12_s1 6 = .ok (.ireturn, 1) := by decide +kernel
def F_X12_s1 (l1 : Int32) (V : sv_V) : Option (Int32 × sv_V) := (F_X12_u1 l1 V).bind (fun (x3, V1) => some (x3.toInt8.toInt32, V1))
set_option maxRecDepth 20000 in
theorem t_X12_s1 {g : sx_G} (hG : sx_Go g) {P : Option Value → sv_V → Prop} {r : Int32} {Vr : sv_V} (hP : P (some (.int r)) Vr) {l1 : Int32} {V : sv_V} (h : F_X12_s1 l1 V = some (r, Vr)) : sv_N g qX12_s1 1 0 [(0, .ref 146), (1, .int l1)] [] V P := by
  unfold F_X12_s1 at h
  refine sx_aload_n (pc := 0) dX12_s1_0 sx_m0 ?_
  refine sx_iload_n (pc := 1) dX12_s1_1 sx_m1 ?_
  obtain ⟨⟨x3, V1⟩, g2, h⟩ := sx_bnd h
  refine sv_cV (pc := 2) (y := qX12_u1) (o := (some (.int x3))) (as := [.int l1]) (V1 := V1) hG dX12_s1_2 l_X12_209 y0X12_u1 yvX12_u1 rfl (Nat.le_of_ble_eq_true rfl) lay_146 kr_12 (by decide) (Nat.le_of_ble_eq_true rfl) rfl rfl rfl (t_X12_u1 hG ⟨rfl, rfl⟩ g2) ?_
  refine sx_i2b (pc := 5) dX12_s1_5 ?_
  exact sv_iret (pc := 6) dX12_s1_6 rfl h hP
theorem dX12_u4_0 : decode cX12_u4 0 = .ok (.aload_n 0, 1) := by decide +kernel
theorem dX12_u4_1 : decode cX12_u4 1 = .ok (.iload_n 1, 1) := by decide +kernel
theorem dX12_u4_2 : decode cX12_u4 2 = .ok (.invokevirtual 213, 3) := by decide +kernel
theorem dX12_u4_5 : decode cX12_u4 5 = .ok (.i2l, 1) := by decide +kernel
theorem dX12_u4_6 : decode cX12_u4 6 = .ok (.bipush 16, 2) := by decide +kernel
theorem dX12_u4_8 : decode cX12_u4 8 = .ok (.lshl, 1) := by decide +kernel
theorem dX12_u4_9 : decode cX12_u4 9 = .ok (.aload_n 0, 1) := by decide +kernel
theorem dX12_u4_10 : decode cX12_u4 10 = .ok (.iload_n 1, 1) := by decide +kernel
theorem dX12_u4_11 : decode cX12_u4 11 = .ok (.iconst 2, 1) := by decide +kernel
theorem dX12_u4_12 : decode cX12_u4 12 = .ok (.iadd, 1) := by decide +kernel
theorem dX12_u4_13 : decode cX12_u4 13 = .ok (.invokevirtual 213, 3) := by decide +kernel
theorem dX12_u4_16 : decode cX12_u4 16 = .ok (.i2l, 1) := by decide +kernel
theorem dX12_u4_17 : decode cX12_u4 17 = .ok (.lor, 1) := by decide +kernel
theorem dX12_u4_18 : decode cX12_u4 18 = .ok (.lreturn, 1) := by decide +kernel
def F_X12_u4 (l1 : Int32) (V : sv_V) : Option (Int64 × sv_V) := (F_X12_u2 l1 V).bind (fun (x3, V1) => (F_X12_u2 (l1 + (2 : Int32)) V1).bind (fun (x6, V4) => some ((x3.toInt64 <<< ((16 : Int32).toInt64 &&& 63)) ||| x6.toInt64, V4)))
set_option maxRecDepth 20000 in
theorem t_X12_u4 {g : sx_G} (hG : sx_Go g) {P : Option Value → sv_V → Prop} {r : Int64} {Vr : sv_V} (hP : P (some (.long r)) Vr) {l1 : Int32} {V : sv_V} (h : F_X12_u4 l1 V = some (r, Vr)) : sv_N g qX12_u4 2 0 [(0, .ref 146), (1, .int l1)] [] V P := by
  unfold F_X12_u4 at h
  refine sx_aload_n (pc := 0) dX12_u4_0 sx_m0 ?_
  refine sx_iload_n (pc := 1) dX12_u4_1 sx_m1 ?_
  obtain ⟨⟨x3, V1⟩, g2, h⟩ := sx_bnd h
  refine sv_cV (pc := 2) (y := qX12_u2) (o := (some (.int x3))) (as := [.int l1]) (V1 := V1) hG dX12_u4_2 l_X12_213 y0X12_u2 yvX12_u2 rfl (Nat.le_of_ble_eq_true rfl) lay_146 kr_12 (by decide) (Nat.le_of_ble_eq_true rfl) rfl rfl rfl (t_X12_u2 hG ⟨rfl, rfl⟩ g2) ?_
  refine sx_i2l (pc := 5) dX12_u4_5 ?_
  refine sx_bipush (pc := 6) (v := 16) dX12_u4_6 (by decide) ?_
  refine sx_lshl (pc := 8) dX12_u4_8 ?_
  refine sx_aload_n (pc := 9) dX12_u4_9 sx_m0 ?_
  refine sx_iload_n (pc := 10) dX12_u4_10 sx_m1 ?_
  refine sx_iconst (pc := 11) (v := 2) dX12_u4_11 (by decide) ?_
  refine sx_iadd (pc := 12) dX12_u4_12 ?_
  obtain ⟨⟨x6, V4⟩, g5, h⟩ := sx_bnd h
  refine sv_cV (pc := 13) (y := qX12_u2) (o := (some (.int x6))) (as := [.int (l1 + (2 : Int32))]) (V1 := V4) hG dX12_u4_13 l_X12_213 y0X12_u2 yvX12_u2 rfl (Nat.le_of_ble_eq_true rfl) lay_146 kr_12 (by decide) (Nat.le_of_ble_eq_true rfl) rfl rfl rfl (t_X12_u2 hG ⟨rfl, rfl⟩ g5) ?_
  refine sx_i2l (pc := 16) dX12_u4_16 ?_
  refine sx_lor (pc := 17) dX12_u4_17 ?_
  exact sv_lret (pc := 18) dX12_u4_18 rfl h hP
theorem dX12_tableOf_0 : decode cX12_tableOf 0 = .ok (.iconst 0, 1) := by decide +kernel
theorem dX12_tableOf_1 : decode cX12_tableOf 1 = .ok (.istore_n 2, 1) := by decide +kernel
theorem dX12_tableOf_2 : decode cX12_tableOf 2 = .ok (.iload_n 2, 1) := by decide +kernel
theorem dX12_tableOf_3 : decode cX12_tableOf 3 = .ok (.aload_n 0, 1) := by decide +kernel
theorem dX12_tableOf_4 : decode cX12_tableOf 4 = .ok (.getfield 216, 3) := by decide +kernel
theorem dX12_tableOf_7 : decode cX12_tableOf 7 = .ok (.if_icmp .ge 21, 3) := by decide +kernel
theorem dX12_tableOf_10 : decode cX12_tableOf 10 = .ok (.aload_n 0, 1) := by decide +kernel
theorem dX12_tableOf_11 : decode cX12_tableOf 11 = .ok (.getfield 16, 3) := by decide +kernel
theorem dX12_tableOf_14 : decode cX12_tableOf 14 = .ok (.iload_n 2, 1) := by decide +kernel
theorem dX12_tableOf_15 : decode cX12_tableOf 15 = .ok (.iaload, 1) := by decide +kernel
theorem dX12_tableOf_16 : decode cX12_tableOf 16 = .ok (.iload_n 1, 1) := by decide +kernel
theorem dX12_tableOf_17 : decode cX12_tableOf 17 = .ok (.if_icmp .ne 5, 3) := by decide +kernel
theorem dX12_tableOf_20 : decode cX12_tableOf 20 = .ok (.iload_n 2, 1) := by decide +kernel
theorem dX12_tableOf_21 : decode cX12_tableOf 21 = .ok (.ireturn, 1) := by decide +kernel
theorem dX12_tableOf_22 : decode cX12_tableOf 22 = .ok (.iinc 2 1, 3) := by decide +kernel
theorem dX12_tableOf_25 : decode cX12_tableOf 25 = .ok (.goto (-23), 3) := by decide +kernel
theorem dX12_tableOf_28 : decode cX12_tableOf 28 = .ok (.iconst (-1), 1) := by decide +kernel
theorem dX12_tableOf_29 : decode cX12_tableOf 29 = .ok (.ireturn, 1) := by decide +kernel
def B_X12_tableOf_2 (N : Nat) (k2 : Int32 → Int32 → sv_V → Option (Int32 × sv_V)) (l1 : Int32) (l2 : Int32) (V : sv_V) : Option (Int32 × sv_V) := if (V.1 146 5) ≤ l2 then (some ((-1 : Int32), V)) else (if sx_in l2 16 = true then if (V.1 149 l2.toNatClampNeg) = l1 then (some (l2, V)) else (sx_let (l2 + 1) (fun x4 => k2 l1 x4 V)) else none)
set_option maxRecDepth 20000 in
theorem tB_X12_tableOf_2 {g : sx_G} (hG : sx_Go g) {P : Option Value → sv_V → Prop} {r : Int32} {Vr : sv_V} (hP : P (some (.int r)) Vr) {N : Nat} {k2 : Int32 → Int32 → sv_V → Option (Int32 × sv_V)} (hk2 : ∀ (l1 : Int32) (l2 : Int32) (V : sv_V), k2 l1 l2 V = some (r, Vr) → sv_N g qX12_tableOf 0 2 [(0, .ref 146), (1, .int l1), (2, .int l2)] [] V P) {l1 : Int32} {l2 : Int32} {V : sv_V} (h : B_X12_tableOf_2 N k2 l1 l2 V = some (r, Vr)) : sv_N g qX12_tableOf 0 2 [(0, .ref 146), (1, .int l1), (2, .int l2)] [] V P := by
  unfold B_X12_tableOf_2 at h
  refine sx_iload_n (pc := 2) dX12_tableOf_2 sx_m2 ?_
  refine sx_aload_n (pc := 3) dX12_tableOf_3 sx_m0 ?_
  refine sv_getI (pc := 4) hG dX12_tableOf_4 f_12_216 lay_146 rfl ?_
  refine sx_icmp_ge (pc := 7) (tgt := 28) dX12_tableOf_7 (by decide) (fun c1 => ?_) (fun c1 => ?_)
  · have h := sx_pos c1 h
    refine sx_iconst (pc := 28) (v := (-1)) dX12_tableOf_28 (by decide) ?_
    exact sv_iret (pc := 29) dX12_tableOf_29 rfl h hP
  · have h := sx_neg c1 h
    refine sx_aload_n (pc := 10) dX12_tableOf_10 sx_m0 ?_
    refine sv_getA (pc := 11) hG dX12_tableOf_11 f_12_16 lay_146 rfl cr_146_6 ?_
    refine sx_iload_n (pc := 14) dX12_tableOf_14 sx_m2 ?_
    obtain ⟨g2, h⟩ := sx_grd h
    refine sv_iald (pc := 15) hG dX12_tableOf_15 lay_149 g2 ?_
    refine sx_iload_n (pc := 16) dX12_tableOf_16 sx_m1 ?_
    refine sx_icmp_ne (pc := 17) (tgt := 22) dX12_tableOf_17 (by decide) (fun c3 => ?_) (fun c3 => ?_)
    · have h := sx_neg c3 h
      obtain ⟨x4, hx4⟩ : ∃ z : Int32, z = l2 + 1 := ⟨_, rfl⟩
      have h := sx_letE hx4 h
      refine sx_iinc (pc := 22) (v := x4) (lo' := [(2, .int x4), (0, .ref 146), (1, .int l1)]) dX12_tableOf_22 sx_m2 (by rw [hx4]; rfl) (by decide) rfl ?_
      refine sx_goto (pc := 25) (tgt := 2) dX12_tableOf_25 (by decide) ?_
      refine sx_wk (sx_s1 sx_m1 (sx_s1 sx_m2 (sx_s1 sx_m0 sx_s0))) ?_
      exact hk2 _ _ _ h
    · have h := sx_pos c3 h
      refine sx_iload_n (pc := 20) dX12_tableOf_20 sx_m2 ?_
      exact sv_iret (pc := 21) dX12_tableOf_21 rfl h hP
theorem tL_X12_tableOf_2 {g : sx_G} (hG : sx_Go g) {P : Option Value → sv_V → Prop} {r : Int32} {Vr : sv_V} (hP : P (some (.int r)) Vr) {N : Nat}   : ∀ (n : Nat) (l1 : Int32) (l2 : Int32) (V : sv_V), sx_lp3 (B_X12_tableOf_2 N ) n l1 l2 V = some (r, Vr) → sv_N g qX12_tableOf 0 2 [(0, .ref 146), (1, .int l1), (2, .int l2)] [] V P :=
  sx_lp3_ind (fun k0 ih _ _ V h => tB_X12_tableOf_2 hG hP ih h)
def F_X12_tableOf (N : Nat) (l1 : Int32) (V : sv_V) : Option (Int32 × sv_V) := sx_lp3 (B_X12_tableOf_2 N ) N l1 (0 : Int32) V
set_option maxRecDepth 20000 in
theorem t_X12_tableOf {g : sx_G} (hG : sx_Go g) {P : Option Value → sv_V → Prop} {r : Int32} {Vr : sv_V} (hP : P (some (.int r)) Vr) {N : Nat} {l1 : Int32} {V : sv_V} (h : F_X12_tableOf N l1 V = some (r, Vr)) : sv_N g qX12_tableOf 0 0 [(0, .ref 146), (1, .int l1)] [] V P := by
  unfold F_X12_tableOf at h
  refine sx_iconst (pc := 0) (v := 0) dX12_tableOf_0 (by decide) ?_
  refine sx_istore_n (pc := 1) (lo' := [(2, .int (0 : Int32)), (0, .ref 146), (1, .int l1)]) dX12_tableOf_1 (by decide) rfl ?_
  refine sx_wk (sx_s1 sx_m1 (sx_s1 sx_m2 (sx_s1 sx_m0 sx_s0))) ?_
  exact tL_X12_tableOf_2 hG hP  N _ _ _ h
theorem dX12_beginOf_0 : decode cX12_beginOf 0 = .ok (.aload_n 0, 1) := by decide +kernel
theorem dX12_beginOf_1 : decode cX12_beginOf 1 = .ok (.iload_n 1, 1) := by decide +kernel
theorem dX12_beginOf_2 : decode cX12_beginOf 2 = .ok (.invokevirtual 219, 3) := by decide +kernel
theorem dX12_beginOf_5 : decode cX12_beginOf 5 = .ok (.istore_n 2, 1) := by decide +kernel
theorem dX12_beginOf_6 : decode cX12_beginOf 6 = .ok (.iload_n 2, 1) := by decide +kernel
theorem dX12_beginOf_7 : decode cX12_beginOf 7 = .ok (.iconst (-1), 1) := by decide +kernel
theorem dX12_beginOf_8 : decode cX12_beginOf 8 = .ok (.if_icmp .ne 7, 3) := by decide +kernel
theorem dX12_beginOf_11 : decode cX12_beginOf 11 = .ok (.iconst 0, 1) := by decide +kernel
theorem dX12_beginOf_12 : decode cX12_beginOf 12 = .ok (.goto 10, 3) := by decide +kernel
theorem dX12_beginOf_15 : decode cX12_beginOf 15 = .ok (.aload_n 0, 1) := by decide +kernel
theorem dX12_beginOf_16 : decode cX12_beginOf 16 = .ok (.getfield 24, 3) := by decide +kernel
theorem dX12_beginOf_19 : decode cX12_beginOf 19 = .ok (.iload_n 2, 1) := by decide +kernel
theorem dX12_beginOf_20 : decode cX12_beginOf 20 = .ok (.laload, 1) := by decide +kernel
theorem dX12_beginOf_21 : decode cX12_beginOf 21 = .ok (.l2i, 1) := by decide +kernel
theorem dX12_beginOf_22 : decode cX12_beginOf 22 = .ok (.ireturn, 1) := by decide +kernel
def F_X12_beginOf (N : Nat) (l1 : Int32) (V : sv_V) : Option (Int32 × sv_V) := (F_X12_tableOf N l1 V).bind (fun (x3, V1) => if x3 = (-1 : Int32) then (some ((0 : Int32), V1)) else (if sx_in x3 16 = true then some ((V1.2.1 151 x3.toNatClampNeg).toInt32, V1) else none))
set_option maxRecDepth 20000 in
theorem t_X12_beginOf {g : sx_G} (hG : sx_Go g) {P : Option Value → sv_V → Prop} {r : Int32} {Vr : sv_V} (hP : P (some (.int r)) Vr) {N : Nat} {l1 : Int32} {V : sv_V} (h : F_X12_beginOf N l1 V = some (r, Vr)) : sv_N g qX12_beginOf 1 0 [(0, .ref 146), (1, .int l1)] [] V P := by
  unfold F_X12_beginOf at h
  refine sx_aload_n (pc := 0) dX12_beginOf_0 sx_m0 ?_
  refine sx_iload_n (pc := 1) dX12_beginOf_1 sx_m1 ?_
  obtain ⟨⟨x3, V1⟩, g2, h⟩ := sx_bnd h
  refine sv_cV (pc := 2) (y := qX12_tableOf) (o := (some (.int x3))) (as := [.int l1]) (V1 := V1) hG dX12_beginOf_2 l_X12_219 y0X12_tableOf yvX12_tableOf rfl (Nat.le_of_ble_eq_true rfl) lay_146 kr_12 (by decide) (Nat.le_of_ble_eq_true rfl) rfl rfl rfl (t_X12_tableOf hG ⟨rfl, rfl⟩ g2) ?_
  refine sx_istore_n (pc := 5) (lo' := [(2, .int x3), (0, .ref 146), (1, .int l1)]) dX12_beginOf_5 (by decide) rfl ?_
  refine sx_iload_n (pc := 6) dX12_beginOf_6 sx_m0 ?_
  refine sx_iconst (pc := 7) (v := (-1)) dX12_beginOf_7 (by decide) ?_
  refine sx_icmp_ne (pc := 8) (tgt := 15) dX12_beginOf_8 (by decide) (fun c4 => ?_) (fun c4 => ?_)
  · have h := sx_neg c4 h
    refine sx_aload_n (pc := 15) dX12_beginOf_15 sx_m1 ?_
    refine sv_getA (pc := 16) hG dX12_beginOf_16 f_12_24 lay_146 rfl cr_146_8 ?_
    refine sx_iload_n (pc := 19) dX12_beginOf_19 sx_m0 ?_
    obtain ⟨g5, h⟩ := sx_grd h
    refine sv_lald (pc := 20) hG dX12_beginOf_20 lay_151 g5 ?_
    refine sx_l2i (pc := 21) dX12_beginOf_21 ?_
    exact sv_iret (pc := 22) dX12_beginOf_22 rfl h hP
  · have h := sx_pos c4 h
    refine sx_iconst (pc := 11) (v := 0) dX12_beginOf_11 (by decide) ?_
    refine sx_goto (pc := 12) (tgt := 22) dX12_beginOf_12 (by decide) ?_
    exact sv_iret (pc := 22) dX12_beginOf_22 rfl h hP
theorem dX12_lengthOf_0 : decode cX12_lengthOf 0 = .ok (.aload_n 0, 1) := by decide +kernel
theorem dX12_lengthOf_1 : decode cX12_lengthOf 1 = .ok (.iload_n 1, 1) := by decide +kernel
theorem dX12_lengthOf_2 : decode cX12_lengthOf 2 = .ok (.invokevirtual 219, 3) := by decide +kernel
theorem dX12_lengthOf_5 : decode cX12_lengthOf 5 = .ok (.istore_n 2, 1) := by decide +kernel
theorem dX12_lengthOf_6 : decode cX12_lengthOf 6 = .ok (.iload_n 2, 1) := by decide +kernel
theorem dX12_lengthOf_7 : decode cX12_lengthOf 7 = .ok (.iconst (-1), 1) := by decide +kernel
theorem dX12_lengthOf_8 : decode cX12_lengthOf 8 = .ok (.if_icmp .ne 7, 3) := by decide +kernel
theorem dX12_lengthOf_11 : decode cX12_lengthOf 11 = .ok (.iconst 0, 1) := by decide +kernel
theorem dX12_lengthOf_12 : decode cX12_lengthOf 12 = .ok (.goto 10, 3) := by decide +kernel
theorem dX12_lengthOf_15 : decode cX12_lengthOf 15 = .ok (.aload_n 0, 1) := by decide +kernel
theorem dX12_lengthOf_16 : decode cX12_lengthOf 16 = .ok (.getfield 27, 3) := by decide +kernel
theorem dX12_lengthOf_19 : decode cX12_lengthOf 19 = .ok (.iload_n 2, 1) := by decide +kernel
theorem dX12_lengthOf_20 : decode cX12_lengthOf 20 = .ok (.laload, 1) := by decide +kernel
theorem dX12_lengthOf_21 : decode cX12_lengthOf 21 = .ok (.l2i, 1) := by decide +kernel
theorem dX12_lengthOf_22 : decode cX12_lengthOf 22 = .ok (.ireturn, 1) := by decide +kernel
def F_X12_lengthOf (N : Nat) (l1 : Int32) (V : sv_V) : Option (Int32 × sv_V) := (F_X12_tableOf N l1 V).bind (fun (x3, V1) => if x3 = (-1 : Int32) then (some ((0 : Int32), V1)) else (if sx_in x3 16 = true then some ((V1.2.1 152 x3.toNatClampNeg).toInt32, V1) else none))
set_option maxRecDepth 20000 in
theorem t_X12_lengthOf {g : sx_G} (hG : sx_Go g) {P : Option Value → sv_V → Prop} {r : Int32} {Vr : sv_V} (hP : P (some (.int r)) Vr) {N : Nat} {l1 : Int32} {V : sv_V} (h : F_X12_lengthOf N l1 V = some (r, Vr)) : sv_N g qX12_lengthOf 1 0 [(0, .ref 146), (1, .int l1)] [] V P := by
  unfold F_X12_lengthOf at h
  refine sx_aload_n (pc := 0) dX12_lengthOf_0 sx_m0 ?_
  refine sx_iload_n (pc := 1) dX12_lengthOf_1 sx_m1 ?_
  obtain ⟨⟨x3, V1⟩, g2, h⟩ := sx_bnd h
  refine sv_cV (pc := 2) (y := qX12_tableOf) (o := (some (.int x3))) (as := [.int l1]) (V1 := V1) hG dX12_lengthOf_2 l_X12_219 y0X12_tableOf yvX12_tableOf rfl (Nat.le_of_ble_eq_true rfl) lay_146 kr_12 (by decide) (Nat.le_of_ble_eq_true rfl) rfl rfl rfl (t_X12_tableOf hG ⟨rfl, rfl⟩ g2) ?_
  refine sx_istore_n (pc := 5) (lo' := [(2, .int x3), (0, .ref 146), (1, .int l1)]) dX12_lengthOf_5 (by decide) rfl ?_
  refine sx_iload_n (pc := 6) dX12_lengthOf_6 sx_m0 ?_
  refine sx_iconst (pc := 7) (v := (-1)) dX12_lengthOf_7 (by decide) ?_
  refine sx_icmp_ne (pc := 8) (tgt := 15) dX12_lengthOf_8 (by decide) (fun c4 => ?_) (fun c4 => ?_)
  · have h := sx_neg c4 h
    refine sx_aload_n (pc := 15) dX12_lengthOf_15 sx_m1 ?_
    refine sv_getA (pc := 16) hG dX12_lengthOf_16 f_12_27 lay_146 rfl cr_146_9 ?_
    refine sx_iload_n (pc := 19) dX12_lengthOf_19 sx_m0 ?_
    obtain ⟨g5, h⟩ := sx_grd h
    refine sv_lald (pc := 20) hG dX12_lengthOf_20 lay_152 g5 ?_
    refine sx_l2i (pc := 21) dX12_lengthOf_21 ?_
    exact sv_iret (pc := 22) dX12_lengthOf_22 rfl h hP
  · have h := sx_pos c4 h
    refine sx_iconst (pc := 11) (v := 0) dX12_lengthOf_11 (by decide) ?_
    refine sx_goto (pc := 12) (tgt := 22) dX12_lengthOf_12 (by decide) ?_
    exact sv_iret (pc := 22) dX12_lengthOf_22 rfl h hP
theorem dX12_sumOf_0 : decode cX12_sumOf 0 = .ok (.iconst 0, 1) := by decide +kernel
theorem dX12_sumOf_1 : decode cX12_sumOf 1 = .ok (.istore 4, 2) := by decide +kernel
theorem dX12_sumOf_3 : decode cX12_sumOf 3 = .ok (.iload_n 1, 1) := by decide +kernel
theorem dX12_sumOf_4 : decode cX12_sumOf 4 = .ok (.istore 5, 2) := by decide +kernel
theorem dX12_sumOf_6 : decode cX12_sumOf 6 = .ok (.iload 5, 2) := by decide +kernel
theorem dX12_sumOf_8 : decode cX12_sumOf 8 = .ok (.iload_n 2, 1) := by decide +kernel
theorem dX12_sumOf_9 : decode cX12_sumOf 9 = .ok (.if_icmp .ge 84, 3) := by decide +kernel
theorem dX12_sumOf_12 : decode cX12_sumOf 12 = .ok (.iconst 0, 1) := by decide +kernel
theorem dX12_sumOf_13 : decode cX12_sumOf 13 = .ok (.istore 6, 2) := by decide +kernel
theorem dX12_sumOf_15 : decode cX12_sumOf 15 = .ok (.iload 6, 2) := by decide +kernel
theorem dX12_sumOf_17 : decode cX12_sumOf 17 = .ok (.iconst 4, 1) := by decide +kernel
theorem dX12_sumOf_18 : decode cX12_sumOf 18 = .ok (.if_icmp .ge 69, 3) := by decide +kernel
theorem dX12_sumOf_21 : decode cX12_sumOf 21 = .ok (.iload 5, 2) := by decide +kernel
theorem dX12_sumOf_23 : decode cX12_sumOf 23 = .ok (.iload 6, 2) := by decide +kernel
theorem dX12_sumOf_25 : decode cX12_sumOf 25 = .ok (.iadd, 1) := by decide +kernel
theorem dX12_sumOf_26 : decode cX12_sumOf 26 = .ok (.istore 7, 2) := by decide +kernel
theorem dX12_sumOf_28 : decode cX12_sumOf 28 = .ok (.iload 7, 2) := by decide +kernel
theorem dX12_sumOf_30 : decode cX12_sumOf 30 = .ok (.iload_n 2, 1) := by decide +kernel
theorem dX12_sumOf_31 : decode cX12_sumOf 31 = .ok (.if_icmp .ge 31, 3) := by decide +kernel
theorem dX12_sumOf_34 : decode cX12_sumOf 34 = .ok (.iload_n 3, 1) := by decide +kernel
theorem dX12_sumOf_35 : decode cX12_sumOf 35 = .ok (.iconst (-1), 1) := by decide +kernel
theorem dX12_sumOf_36 : decode cX12_sumOf 36 = .ok (.if_icmp .eq 17, 3) := by decide +kernel
theorem dX12_sumOf_39 : decode cX12_sumOf 39 = .ok (.iload 7, 2) := by decide +kernel
theorem dX12_sumOf_41 : decode cX12_sumOf 41 = .ok (.iload_n 3, 1) := by decide +kernel
theorem dX12_sumOf_42 : decode cX12_sumOf 42 = .ok (.if_icmp .lt 11, 3) := by decide +kernel
theorem dX12_sumOf_45 : decode cX12_sumOf 45 = .ok (.iload 7, 2) := by decide +kernel
theorem dX12_sumOf_47 : decode cX12_sumOf 47 = .ok (.iload_n 3, 1) := by decide +kernel
theorem dX12_sumOf_48 : decode cX12_sumOf 48 = .ok (.iconst 4, 1) := by decide +kernel
theorem dX12_sumOf_49 : decode cX12_sumOf 49 = .ok (.iadd, 1) := by decide +kernel
theorem dX12_sumOf_50 : decode cX12_sumOf 50 = .ok (.if_icmp .lt 12, 3) := by decide +kernel
theorem dX12_sumOf_53 : decode cX12_sumOf 53 = .ok (.aload_n 0, 1) := by decide +kernel
theorem dX12_sumOf_54 : decode cX12_sumOf 54 = .ok (.iload 7, 2) := by decide +kernel
theorem dX12_sumOf_56 : decode cX12_sumOf 56 = .ok (.invokevirtual 209, 3) := by decide +kernel
theorem dX12_sumOf_59 : decode cX12_sumOf 59 = .ok (.goto 4, 3) := by decide +kernel
theorem dX12_sumOf_62 : decode cX12_sumOf 62 = .ok (.iconst 0, 1) := by decide +kernel
theorem dX12_sumOf_63 : decode cX12_sumOf 63 = .ok (.istore 8, 2) := by decide +kernel
theorem dX12_sumOf_65 : decode cX12_sumOf 65 = .ok (.iload 4, 2) := by decide +kernel
theorem dX12_sumOf_67 : decode cX12_sumOf 67 = .ok (.iload 8, 2) := by decide +kernel
theorem dX12_sumOf_69 : decode cX12_sumOf 69 = .ok (.bipush 24, 2) := by decide +kernel
theorem dX12_sumOf_71 : decode cX12_sumOf 71 = .ok (.bipush 8, 2) := by decide +kernel
theorem dX12_sumOf_73 : decode cX12_sumOf 73 = .ok (.iload 6, 2) := by decide +kernel
theorem dX12_sumOf_75 : decode cX12_sumOf 75 = .ok (.imul, 1) := by decide +kernel
theorem dX12_sumOf_76 : decode cX12_sumOf 76 = .ok (.isub, 1) := by decide +kernel
theorem dX12_sumOf_77 : decode cX12_sumOf 77 = .ok (.ishl, 1) := by decide +kernel
theorem dX12_sumOf_78 : decode cX12_sumOf 78 = .ok (.iadd, 1) := by decide +kernel
theorem dX12_sumOf_79 : decode cX12_sumOf 79 = .ok (.istore 4, 2) := by decide +kernel
theorem dX12_sumOf_81 : decode cX12_sumOf 81 = .ok (.iinc 6 1, 3) := by decide +kernel
theorem dX12_sumOf_84 : decode cX12_sumOf 84 = .ok (.goto (-69), 3) := by decide +kernel
theorem dX12_sumOf_87 : decode cX12_sumOf 87 = .ok (.iinc 5 4, 3) := by decide +kernel
theorem dX12_sumOf_90 : decode cX12_sumOf 90 = .ok (.goto (-84), 3) := by decide +kernel
theorem dX12_sumOf_93 : decode cX12_sumOf 93 = .ok (.iload 4, 2) := by decide +kernel
theorem dX12_sumOf_95 : decode cX12_sumOf 95 = .ok (.ireturn, 1) := by decide +kernel
def B_X12_sumOf_63 (N : Nat) (k6 : Int32 → Int32 → Int32 → Int32 → sv_V → Option (Int32 × sv_V)) (k15 : Int32 → Int32 → Int32 → Int32 → Int32 → sv_V → Option (Int32 × sv_V)) (l2 : Int32) (l3 : Int32) (l4 : Int32) (l5 : Int32) (l6 : Int32) (s0 : Int32) (V : sv_V) : Option (Int32 × sv_V) := sx_let (l4 + (s0 <<< ((24 : Int32) - ((8 : Int32) * l6) &&& 31))) (fun x1 => sx_let (l6 + 1) (fun x2 => k15 l2 l3 x1 l5 x2 V))
set_option maxRecDepth 20000 in
theorem tB_X12_sumOf_63 {g : sx_G} (hG : sx_Go g) {P : Option Value → sv_V → Prop} {r : Int32} {Vr : sv_V} (hP : P (some (.int r)) Vr) {N : Nat} {k6 : Int32 → Int32 → Int32 → Int32 → sv_V → Option (Int32 × sv_V)} {k15 : Int32 → Int32 → Int32 → Int32 → Int32 → sv_V → Option (Int32 × sv_V)} (hk6 : ∀ (l2 : Int32) (l3 : Int32) (l4 : Int32) (l5 : Int32) (V : sv_V), k6 l2 l3 l4 l5 V = some (r, Vr) → sv_N g qX12_sumOf 1 6 [(0, .ref 146), (2, .int l2), (3, .int l3), (4, .int l4), (5, .int l5)] [] V P) (hk15 : ∀ (l2 : Int32) (l3 : Int32) (l4 : Int32) (l5 : Int32) (l6 : Int32) (V : sv_V), k15 l2 l3 l4 l5 l6 V = some (r, Vr) → sv_N g qX12_sumOf 1 15 [(0, .ref 146), (2, .int l2), (3, .int l3), (4, .int l4), (5, .int l5), (6, .int l6)] [] V P) {l2 : Int32} {l3 : Int32} {l4 : Int32} {l5 : Int32} {l6 : Int32} {s0 : Int32} {V : sv_V} (h : B_X12_sumOf_63 N k6 k15 l2 l3 l4 l5 l6 s0 V = some (r, Vr)) : sv_N g qX12_sumOf 1 63 [(0, .ref 146), (2, .int l2), (3, .int l3), (4, .int l4), (5, .int l5), (6, .int l6)] [.int s0] V P := by
  unfold B_X12_sumOf_63 at h
  refine sx_istore (pc := 63) (lo' := [(8, .int s0), (0, .ref 146), (2, .int l2), (3, .int l3), (4, .int l4), (5, .int l5), (6, .int l6)]) dX12_sumOf_63 (by decide) rfl ?_
  refine sx_iload (pc := 65) dX12_sumOf_65 sx_m4 ?_
  refine sx_iload (pc := 67) dX12_sumOf_67 sx_m0 ?_
  refine sx_bipush (pc := 69) (v := 24) dX12_sumOf_69 (by decide) ?_
  refine sx_bipush (pc := 71) (v := 8) dX12_sumOf_71 (by decide) ?_
  refine sx_iload (pc := 73) dX12_sumOf_73 sx_m6 ?_
  refine sx_imul (pc := 75) dX12_sumOf_75 ?_
  refine sx_isub (pc := 76) dX12_sumOf_76 ?_
  refine sx_ishl (pc := 77) dX12_sumOf_77 ?_
  refine sx_iadd (pc := 78) dX12_sumOf_78 ?_
  refine sv_tI (fun x1 hx1 => ?_)
  have h := sx_letE hx1 h
  refine sx_istore (pc := 79) (lo' := [(4, .int x1), (8, .int s0), (0, .ref 146), (2, .int l2), (3, .int l3), (5, .int l5), (6, .int l6)]) dX12_sumOf_79 (by decide) rfl ?_
  obtain ⟨x2, hx2⟩ : ∃ z : Int32, z = l6 + 1 := ⟨_, rfl⟩
  have h := sx_letE hx2 h
  refine sx_iinc (pc := 81) (v := x2) (lo' := [(6, .int x2), (4, .int x1), (8, .int s0), (0, .ref 146), (2, .int l2), (3, .int l3), (5, .int l5)]) dX12_sumOf_81 sx_m6 (by rw [hx2]; rfl) (by decide) rfl ?_
  refine sx_goto (pc := 84) (tgt := 15) dX12_sumOf_84 (by decide) ?_
  refine sx_wk (sx_s1 sx_m3 (sx_s1 sx_m4 (sx_s1 sx_m5 (sx_s1 sx_m1 (sx_s1 sx_m6 (sx_s1 sx_m0 sx_s0)))))) ?_
  exact hk15 _ _ _ _ _ _ h
def B_X12_sumOf_53 (N : Nat) (k6 : Int32 → Int32 → Int32 → Int32 → sv_V → Option (Int32 × sv_V)) (k15 : Int32 → Int32 → Int32 → Int32 → Int32 → sv_V → Option (Int32 × sv_V)) (l2 : Int32) (l3 : Int32) (l4 : Int32) (l5 : Int32) (l6 : Int32) (l7 : Int32) (V : sv_V) : Option (Int32 × sv_V) := (F_X12_u1 l7 V).bind (fun (x5, V3) => B_X12_sumOf_63 N k6 k15 l2 l3 l4 l5 l6 x5 V3)
set_option maxRecDepth 20000 in
theorem tB_X12_sumOf_53 {g : sx_G} (hG : sx_Go g) {P : Option Value → sv_V → Prop} {r : Int32} {Vr : sv_V} (hP : P (some (.int r)) Vr) {N : Nat} {k6 : Int32 → Int32 → Int32 → Int32 → sv_V → Option (Int32 × sv_V)} {k15 : Int32 → Int32 → Int32 → Int32 → Int32 → sv_V → Option (Int32 × sv_V)} (hk6 : ∀ (l2 : Int32) (l3 : Int32) (l4 : Int32) (l5 : Int32) (V : sv_V), k6 l2 l3 l4 l5 V = some (r, Vr) → sv_N g qX12_sumOf 1 6 [(0, .ref 146), (2, .int l2), (3, .int l3), (4, .int l4), (5, .int l5)] [] V P) (hk15 : ∀ (l2 : Int32) (l3 : Int32) (l4 : Int32) (l5 : Int32) (l6 : Int32) (V : sv_V), k15 l2 l3 l4 l5 l6 V = some (r, Vr) → sv_N g qX12_sumOf 1 15 [(0, .ref 146), (2, .int l2), (3, .int l3), (4, .int l4), (5, .int l5), (6, .int l6)] [] V P) {l2 : Int32} {l3 : Int32} {l4 : Int32} {l5 : Int32} {l6 : Int32} {l7 : Int32} {V : sv_V} (h : B_X12_sumOf_53 N k6 k15 l2 l3 l4 l5 l6 l7 V = some (r, Vr)) : sv_N g qX12_sumOf 1 53 [(0, .ref 146), (2, .int l2), (3, .int l3), (4, .int l4), (5, .int l5), (6, .int l6), (7, .int l7)] [] V P := by
  unfold B_X12_sumOf_53 at h
  refine sx_aload_n (pc := 53) dX12_sumOf_53 sx_m0 ?_
  refine sx_iload (pc := 54) dX12_sumOf_54 sx_m6 ?_
  obtain ⟨⟨x5, V3⟩, g4, h⟩ := sx_bnd h
  refine sv_cV (pc := 56) (y := qX12_u1) (o := (some (.int x5))) (as := [.int l7]) (V1 := V3) hG dX12_sumOf_56 l_X12_209 y0X12_u1 yvX12_u1 rfl (Nat.le_of_ble_eq_true rfl) lay_146 kr_12 (by decide) (Nat.le_of_ble_eq_true rfl) rfl rfl rfl (t_X12_u1 hG ⟨rfl, rfl⟩ g4) ?_
  refine sx_goto (pc := 59) (tgt := 63) dX12_sumOf_59 (by decide) ?_
  refine sx_wk (sx_s1 sx_m0 (sx_s1 sx_m1 (sx_s1 sx_m2 (sx_s1 sx_m3 (sx_s1 sx_m4 (sx_s1 sx_m5 sx_s0)))))) ?_
  exact tB_X12_sumOf_63 hG hP hk6 hk15 h
def B_X12_sumOf_62 (N : Nat) (k6 : Int32 → Int32 → Int32 → Int32 → sv_V → Option (Int32 × sv_V)) (k15 : Int32 → Int32 → Int32 → Int32 → Int32 → sv_V → Option (Int32 × sv_V)) (l2 : Int32) (l3 : Int32) (l4 : Int32) (l5 : Int32) (l6 : Int32) (V : sv_V) : Option (Int32 × sv_V) := B_X12_sumOf_63 N k6 k15 l2 l3 l4 l5 l6 (0 : Int32) V
set_option maxRecDepth 20000 in
theorem tB_X12_sumOf_62 {g : sx_G} (hG : sx_Go g) {P : Option Value → sv_V → Prop} {r : Int32} {Vr : sv_V} (hP : P (some (.int r)) Vr) {N : Nat} {k6 : Int32 → Int32 → Int32 → Int32 → sv_V → Option (Int32 × sv_V)} {k15 : Int32 → Int32 → Int32 → Int32 → Int32 → sv_V → Option (Int32 × sv_V)} (hk6 : ∀ (l2 : Int32) (l3 : Int32) (l4 : Int32) (l5 : Int32) (V : sv_V), k6 l2 l3 l4 l5 V = some (r, Vr) → sv_N g qX12_sumOf 1 6 [(0, .ref 146), (2, .int l2), (3, .int l3), (4, .int l4), (5, .int l5)] [] V P) (hk15 : ∀ (l2 : Int32) (l3 : Int32) (l4 : Int32) (l5 : Int32) (l6 : Int32) (V : sv_V), k15 l2 l3 l4 l5 l6 V = some (r, Vr) → sv_N g qX12_sumOf 1 15 [(0, .ref 146), (2, .int l2), (3, .int l3), (4, .int l4), (5, .int l5), (6, .int l6)] [] V P) {l2 : Int32} {l3 : Int32} {l4 : Int32} {l5 : Int32} {l6 : Int32} {V : sv_V} (h : B_X12_sumOf_62 N k6 k15 l2 l3 l4 l5 l6 V = some (r, Vr)) : sv_N g qX12_sumOf 1 62 [(0, .ref 146), (2, .int l2), (3, .int l3), (4, .int l4), (5, .int l5), (6, .int l6)] [] V P := by
  unfold B_X12_sumOf_62 at h
  refine sx_iconst (pc := 62) (v := 0) dX12_sumOf_62 (by decide) ?_
  refine sx_wk (sx_s1 sx_m0 (sx_s1 sx_m1 (sx_s1 sx_m2 (sx_s1 sx_m3 (sx_s1 sx_m4 (sx_s1 sx_m5 sx_s0)))))) ?_
  exact tB_X12_sumOf_63 hG hP hk6 hk15 h
def B_X12_sumOf_15 (N : Nat) (k6 : Int32 → Int32 → Int32 → Int32 → sv_V → Option (Int32 × sv_V)) (k15 : Int32 → Int32 → Int32 → Int32 → Int32 → sv_V → Option (Int32 × sv_V)) (l2 : Int32) (l3 : Int32) (l4 : Int32) (l5 : Int32) (l6 : Int32) (V : sv_V) : Option (Int32 × sv_V) := if (4 : Int32) ≤ l6 then (sx_let (l5 + 4) (fun x7 => k6 l2 l3 l4 x7 V)) else (sx_let (l5 + l6) (fun x8 => if l2 ≤ x8 then (B_X12_sumOf_62 N k6 k15 l2 l3 l4 l5 l6 V) else (if l3 = (-1 : Int32) then (B_X12_sumOf_53 N k6 k15 l2 l3 l4 l5 l6 x8 V) else (if x8 < l3 then (B_X12_sumOf_53 N k6 k15 l2 l3 l4 l5 l6 x8 V) else (if x8 < (l3 + (4 : Int32)) then (B_X12_sumOf_62 N k6 k15 l2 l3 l4 l5 l6 V) else (B_X12_sumOf_53 N k6 k15 l2 l3 l4 l5 l6 x8 V))))))
set_option maxRecDepth 20000 in
theorem tB_X12_sumOf_15 {g : sx_G} (hG : sx_Go g) {P : Option Value → sv_V → Prop} {r : Int32} {Vr : sv_V} (hP : P (some (.int r)) Vr) {N : Nat} {k6 : Int32 → Int32 → Int32 → Int32 → sv_V → Option (Int32 × sv_V)} {k15 : Int32 → Int32 → Int32 → Int32 → Int32 → sv_V → Option (Int32 × sv_V)} (hk6 : ∀ (l2 : Int32) (l3 : Int32) (l4 : Int32) (l5 : Int32) (V : sv_V), k6 l2 l3 l4 l5 V = some (r, Vr) → sv_N g qX12_sumOf 1 6 [(0, .ref 146), (2, .int l2), (3, .int l3), (4, .int l4), (5, .int l5)] [] V P) (hk15 : ∀ (l2 : Int32) (l3 : Int32) (l4 : Int32) (l5 : Int32) (l6 : Int32) (V : sv_V), k15 l2 l3 l4 l5 l6 V = some (r, Vr) → sv_N g qX12_sumOf 1 15 [(0, .ref 146), (2, .int l2), (3, .int l3), (4, .int l4), (5, .int l5), (6, .int l6)] [] V P) {l2 : Int32} {l3 : Int32} {l4 : Int32} {l5 : Int32} {l6 : Int32} {V : sv_V} (h : B_X12_sumOf_15 N k6 k15 l2 l3 l4 l5 l6 V = some (r, Vr)) : sv_N g qX12_sumOf 1 15 [(0, .ref 146), (2, .int l2), (3, .int l3), (4, .int l4), (5, .int l5), (6, .int l6)] [] V P := by
  unfold B_X12_sumOf_15 at h
  refine sx_iload (pc := 15) dX12_sumOf_15 sx_m5 ?_
  refine sx_iconst (pc := 17) (v := 4) dX12_sumOf_17 (by decide) ?_
  refine sx_icmp_ge (pc := 18) (tgt := 87) dX12_sumOf_18 (by decide) (fun c6 => ?_) (fun c6 => ?_)
  · have h := sx_pos c6 h
    obtain ⟨x7, hx7⟩ : ∃ z : Int32, z = l5 + 4 := ⟨_, rfl⟩
    have h := sx_letE hx7 h
    refine sx_iinc (pc := 87) (v := x7) (lo' := [(5, .int x7), (0, .ref 146), (2, .int l2), (3, .int l3), (4, .int l4), (6, .int l6)]) dX12_sumOf_87 sx_m4 (by rw [hx7]; rfl) (by decide) rfl ?_
    refine sx_goto (pc := 90) (tgt := 6) dX12_sumOf_90 (by decide) ?_
    refine sx_wk (sx_s1 sx_m1 (sx_s1 sx_m2 (sx_s1 sx_m3 (sx_s1 sx_m4 (sx_s1 sx_m0 sx_s0))))) ?_
    exact hk6 _ _ _ _ _ h
  · have h := sx_neg c6 h
    refine sx_iload (pc := 21) dX12_sumOf_21 sx_m4 ?_
    refine sx_iload (pc := 23) dX12_sumOf_23 sx_m5 ?_
    refine sx_iadd (pc := 25) dX12_sumOf_25 ?_
    refine sv_tI (fun x8 hx8 => ?_)
    have h := sx_letE hx8 h
    refine sx_istore (pc := 26) (lo' := [(7, .int x8), (0, .ref 146), (2, .int l2), (3, .int l3), (4, .int l4), (5, .int l5), (6, .int l6)]) dX12_sumOf_26 (by decide) rfl ?_
    refine sx_iload (pc := 28) dX12_sumOf_28 sx_m0 ?_
    refine sx_iload_n (pc := 30) dX12_sumOf_30 sx_m2 ?_
    refine sx_icmp_ge (pc := 31) (tgt := 62) dX12_sumOf_31 (by decide) (fun c9 => ?_) (fun c9 => ?_)
    · have h := sx_pos c9 h
      refine sx_wk (sx_s1 sx_m1 (sx_s1 sx_m2 (sx_s1 sx_m3 (sx_s1 sx_m4 (sx_s1 sx_m5 (sx_s1 sx_m6 sx_s0)))))) ?_
      exact tB_X12_sumOf_62 hG hP hk6 hk15 h
    · have h := sx_neg c9 h
      refine sx_iload_n (pc := 34) dX12_sumOf_34 sx_m3 ?_
      refine sx_iconst (pc := 35) (v := (-1)) dX12_sumOf_35 (by decide) ?_
      refine sx_icmp_eq (pc := 36) (tgt := 53) dX12_sumOf_36 (by decide) (fun c10 => ?_) (fun c10 => ?_)
      · have h := sx_pos c10 h
        refine sx_wk (sx_s1 sx_m1 (sx_s1 sx_m2 (sx_s1 sx_m3 (sx_s1 sx_m4 (sx_s1 sx_m5 (sx_s1 sx_m6 (sx_s1 sx_m0 sx_s0))))))) ?_
        exact tB_X12_sumOf_53 hG hP hk6 hk15 h
      · have h := sx_neg c10 h
        refine sx_iload (pc := 39) dX12_sumOf_39 sx_m0 ?_
        refine sx_iload_n (pc := 41) dX12_sumOf_41 sx_m3 ?_
        refine sx_icmp_lt (pc := 42) (tgt := 53) dX12_sumOf_42 (by decide) (fun c11 => ?_) (fun c11 => ?_)
        · have h := sx_pos c11 h
          refine sx_wk (sx_s1 sx_m1 (sx_s1 sx_m2 (sx_s1 sx_m3 (sx_s1 sx_m4 (sx_s1 sx_m5 (sx_s1 sx_m6 (sx_s1 sx_m0 sx_s0))))))) ?_
          exact tB_X12_sumOf_53 hG hP hk6 hk15 h
        · have h := sx_neg c11 h
          refine sx_iload (pc := 45) dX12_sumOf_45 sx_m0 ?_
          refine sx_iload_n (pc := 47) dX12_sumOf_47 sx_m3 ?_
          refine sx_iconst (pc := 48) (v := 4) dX12_sumOf_48 (by decide) ?_
          refine sx_iadd (pc := 49) dX12_sumOf_49 ?_
          refine sx_icmp_lt (pc := 50) (tgt := 62) dX12_sumOf_50 (by decide) (fun c12 => ?_) (fun c12 => ?_)
          · have h := sx_pos c12 h
            refine sx_wk (sx_s1 sx_m1 (sx_s1 sx_m2 (sx_s1 sx_m3 (sx_s1 sx_m4 (sx_s1 sx_m5 (sx_s1 sx_m6 sx_s0)))))) ?_
            exact tB_X12_sumOf_62 hG hP hk6 hk15 h
          · have h := sx_neg c12 h
            refine sx_wk (sx_s1 sx_m1 (sx_s1 sx_m2 (sx_s1 sx_m3 (sx_s1 sx_m4 (sx_s1 sx_m5 (sx_s1 sx_m6 (sx_s1 sx_m0 sx_s0))))))) ?_
            exact tB_X12_sumOf_53 hG hP hk6 hk15 h
theorem tL_X12_sumOf_15 {g : sx_G} (hG : sx_Go g) {P : Option Value → sv_V → Prop} {r : Int32} {Vr : sv_V} (hP : P (some (.int r)) Vr) {N : Nat} {k6 : Int32 → Int32 → Int32 → Int32 → sv_V → Option (Int32 × sv_V)} (hk6 : ∀ (l2 : Int32) (l3 : Int32) (l4 : Int32) (l5 : Int32) (V : sv_V), k6 l2 l3 l4 l5 V = some (r, Vr) → sv_N g qX12_sumOf 1 6 [(0, .ref 146), (2, .int l2), (3, .int l3), (4, .int l4), (5, .int l5)] [] V P) : ∀ (n : Nat) (l2 : Int32) (l3 : Int32) (l4 : Int32) (l5 : Int32) (l6 : Int32) (V : sv_V), sx_lp6 (B_X12_sumOf_15 N k6) n l2 l3 l4 l5 l6 V = some (r, Vr) → sv_N g qX12_sumOf 1 15 [(0, .ref 146), (2, .int l2), (3, .int l3), (4, .int l4), (5, .int l5), (6, .int l6)] [] V P :=
  sx_lp6_ind (fun k0 ih _ _ _ _ _ V h => tB_X12_sumOf_15 hG hP hk6 ih h)
def B_X12_sumOf_6 (N : Nat) (k6 : Int32 → Int32 → Int32 → Int32 → sv_V → Option (Int32 × sv_V)) (l2 : Int32) (l3 : Int32) (l4 : Int32) (l5 : Int32) (V : sv_V) : Option (Int32 × sv_V) := if l2 ≤ l5 then (some (l4, V)) else (sx_lp6 (B_X12_sumOf_15 N k6) N l2 l3 l4 l5 (0 : Int32) V)
set_option maxRecDepth 20000 in
theorem tB_X12_sumOf_6 {g : sx_G} (hG : sx_Go g) {P : Option Value → sv_V → Prop} {r : Int32} {Vr : sv_V} (hP : P (some (.int r)) Vr) {N : Nat} {k6 : Int32 → Int32 → Int32 → Int32 → sv_V → Option (Int32 × sv_V)} (hk6 : ∀ (l2 : Int32) (l3 : Int32) (l4 : Int32) (l5 : Int32) (V : sv_V), k6 l2 l3 l4 l5 V = some (r, Vr) → sv_N g qX12_sumOf 1 6 [(0, .ref 146), (2, .int l2), (3, .int l3), (4, .int l4), (5, .int l5)] [] V P) {l2 : Int32} {l3 : Int32} {l4 : Int32} {l5 : Int32} {V : sv_V} (h : B_X12_sumOf_6 N k6 l2 l3 l4 l5 V = some (r, Vr)) : sv_N g qX12_sumOf 1 6 [(0, .ref 146), (2, .int l2), (3, .int l3), (4, .int l4), (5, .int l5)] [] V P := by
  unfold B_X12_sumOf_6 at h
  refine sx_iload (pc := 6) dX12_sumOf_6 sx_m4 ?_
  refine sx_iload_n (pc := 8) dX12_sumOf_8 sx_m1 ?_
  refine sx_icmp_ge (pc := 9) (tgt := 93) dX12_sumOf_9 (by decide) (fun c13 => ?_) (fun c13 => ?_)
  · have h := sx_pos c13 h
    refine sx_iload (pc := 93) dX12_sumOf_93 sx_m3 ?_
    exact sv_iret (pc := 95) dX12_sumOf_95 rfl h hP
  · have h := sx_neg c13 h
    refine sx_iconst (pc := 12) (v := 0) dX12_sumOf_12 (by decide) ?_
    refine sx_istore (pc := 13) (lo' := [(6, .int (0 : Int32)), (0, .ref 146), (2, .int l2), (3, .int l3), (4, .int l4), (5, .int l5)]) dX12_sumOf_13 (by decide) rfl ?_
    refine sx_wk (sx_s1 sx_m1 (sx_s1 sx_m2 (sx_s1 sx_m3 (sx_s1 sx_m4 (sx_s1 sx_m5 (sx_s1 sx_m0 sx_s0)))))) ?_
    exact tL_X12_sumOf_15 hG hP hk6 N _ _ _ _ _ _ h
theorem tL_X12_sumOf_6 {g : sx_G} (hG : sx_Go g) {P : Option Value → sv_V → Prop} {r : Int32} {Vr : sv_V} (hP : P (some (.int r)) Vr) {N : Nat}   : ∀ (n : Nat) (l2 : Int32) (l3 : Int32) (l4 : Int32) (l5 : Int32) (V : sv_V), sx_lp5 (B_X12_sumOf_6 N ) n l2 l3 l4 l5 V = some (r, Vr) → sv_N g qX12_sumOf 1 6 [(0, .ref 146), (2, .int l2), (3, .int l3), (4, .int l4), (5, .int l5)] [] V P :=
  sx_lp5_ind (fun k0 ih _ _ _ _ V h => tB_X12_sumOf_6 hG hP ih h)
def F_X12_sumOf (N : Nat) (l1 : Int32) (l2 : Int32) (l3 : Int32) (V : sv_V) : Option (Int32 × sv_V) := sx_lp5 (B_X12_sumOf_6 N ) N l2 l3 (0 : Int32) l1 V
set_option maxRecDepth 20000 in
theorem t_X12_sumOf {g : sx_G} (hG : sx_Go g) {P : Option Value → sv_V → Prop} {r : Int32} {Vr : sv_V} (hP : P (some (.int r)) Vr) {N : Nat} {l1 : Int32} {l2 : Int32} {l3 : Int32} {V : sv_V} (h : F_X12_sumOf N l1 l2 l3 V = some (r, Vr)) : sv_N g qX12_sumOf 1 0 [(0, .ref 146), (1, .int l1), (2, .int l2), (3, .int l3)] [] V P := by
  unfold F_X12_sumOf at h
  refine sx_iconst (pc := 0) (v := 0) dX12_sumOf_0 (by decide) ?_
  refine sx_istore (pc := 1) (lo' := [(4, .int (0 : Int32)), (0, .ref 146), (1, .int l1), (2, .int l2), (3, .int l3)]) dX12_sumOf_1 (by decide) rfl ?_
  refine sx_iload_n (pc := 3) dX12_sumOf_3 sx_m2 ?_
  refine sx_istore (pc := 4) (lo' := [(5, .int l1), (4, .int (0 : Int32)), (0, .ref 146), (1, .int l1), (2, .int l2), (3, .int l3)]) dX12_sumOf_4 (by decide) rfl ?_
  refine sx_wk (sx_s1 sx_m2 (sx_s1 sx_m4 (sx_s1 sx_m5 (sx_s1 sx_m1 (sx_s1 sx_m0 sx_s0))))) ?_
  exact tL_X12_sumOf_6 hG hP  N _ _ _ _ _ h
theorem dX12_directory_0 : decode cX12_directory 0 = .ok (.aload_n 0, 1) := by decide +kernel
theorem dX12_directory_1 : decode cX12_directory 1 = .ok (.iconst 4, 1) := by decide +kernel
theorem dX12_directory_2 : decode cX12_directory 2 = .ok (.invokevirtual 213, 3) := by decide +kernel
theorem dX12_directory_5 : decode cX12_directory 5 = .ok (.istore_n 1, 1) := by decide +kernel
theorem dX12_directory_6 : decode cX12_directory 6 = .ok (.aload_n 0, 1) := by decide +kernel
theorem dX12_directory_7 : decode cX12_directory 7 = .ok (.getfield 206, 3) := by decide +kernel
theorem dX12_directory_10 : decode cX12_directory 10 = .ok (.bipush 12, 2) := by decide +kernel
theorem dX12_directory_12 : decode cX12_directory 12 = .ok (.if_icmp .lt 41, 3) := by decide +kernel
theorem dX12_directory_15 : decode cX12_directory 15 = .ok (.aload_n 0, 1) := by decide +kernel
theorem dX12_directory_16 : decode cX12_directory 16 = .ok (.iconst 0, 1) := by decide +kernel
theorem dX12_directory_17 : decode cX12_directory 17 = .ok (.invokevirtual 297, 3) := by decide +kernel
theorem dX12_directory_20 : decode cX12_directory 20 = .ok (.ldc2_w 300, 3) := by decide +kernel
theorem dX12_directory_23 : decode cX12_directory 23 = .ok (.lcmp, 1) := by decide +kernel
theorem dX12_directory_24 : decode cX12_directory 24 = .ok (.ifCond .ne 29, 3) := by decide +kernel
theorem dX12_directory_27 : decode cX12_directory 27 = .ok (.iload_n 1, 1) := by decide +kernel
theorem dX12_directory_28 : decode cX12_directory 28 = .ok (.i2l, 1) := by decide +kernel
theorem dX12_directory_29 : decode cX12_directory 29 = .ok (.lconst 1, 1) := by decide +kernel
theorem dX12_directory_30 : decode cX12_directory 30 = .ok (.ldc2_w 232, 3) := by decide +kernel
theorem dX12_directory_33 : decode cX12_directory 33 = .ok (.invokestatic 263, 3) := by decide +kernel
theorem dX12_directory_36 : decode cX12_directory 36 = .ok (.ifCond .eq 17, 3) := by decide +kernel
theorem dX12_directory_39 : decode cX12_directory 39 = .ok (.aload_n 0, 1) := by decide +kernel
theorem dX12_directory_40 : decode cX12_directory 40 = .ok (.getfield 206, 3) := by decide +kernel
theorem dX12_directory_43 : decode cX12_directory 43 = .ok (.bipush 12, 2) := by decide +kernel
theorem dX12_directory_45 : decode cX12_directory 45 = .ok (.bipush 16, 2) := by decide +kernel
theorem dX12_directory_47 : decode cX12_directory 47 = .ok (.iload_n 1, 1) := by decide +kernel
theorem dX12_directory_48 : decode cX12_directory 48 = .ok (.imul, 1) := by decide +kernel
theorem dX12_directory_49 : decode cX12_directory 49 = .ok (.iadd, 1) := by decide +kernel
theorem dX12_directory_50 : decode cX12_directory 50 = .ok (.if_icmp .ge 5, 3) := by decide +kernel
theorem dX12_directory_53 : decode cX12_directory 53 = .ok (.iconst 0, 1) := by decide +kernel
theorem dX12_directory_54 : decode cX12_directory 54 = .ok (.ireturn, 1) := by decide +kernel
theorem dX12_directory_55 : decode cX12_directory 55 = .ok (.iconst 0, 1) := by decide +kernel
theorem dX12_directory_56 : decode cX12_directory 56 = .ok (.istore_n 2, 1) := by decide +kernel
theorem dX12_directory_57 : decode cX12_directory 57 = .ok (.iconst 2, 1) := by decide +kernel
theorem dX12_directory_58 : decode cX12_directory 58 = .ok (.iload_n 2, 1) := by decide +kernel
theorem dX12_directory_59 : decode cX12_directory 59 = .ok (.ishl, 1) := by decide +kernel
theorem dX12_directory_60 : decode cX12_directory 60 = .ok (.iload_n 1, 1) := by decide +kernel
theorem dX12_directory_61 : decode cX12_directory 61 = .ok (.if_icmp .gt 9, 3) := by decide +kernel
theorem dX12_directory_64 : decode cX12_directory 64 = .ok (.iinc 2 1, 3) := by decide +kernel
theorem dX12_directory_67 : decode cX12_directory 67 = .ok (.goto (-10), 3) := by decide +kernel
theorem dX12_directory_70 : decode cX12_directory 70 = .ok (.aload_n 0, 1) := by decide +kernel
theorem dX12_directory_71 : decode cX12_directory 71 = .ok (.bipush 6, 2) := by decide +kernel
theorem dX12_directory_73 : decode cX12_directory 73 = .ok (.invokevirtual 213, 3) := by decide +kernel
theorem dX12_directory_76 : decode cX12_directory 76 = .ok (.bipush 16, 2) := by decide +kernel
theorem dX12_directory_78 : decode cX12_directory 78 = .ok (.iload_n 2, 1) := by decide +kernel
theorem dX12_directory_79 : decode cX12_directory 79 = .ok (.ishl, 1) := by decide +kernel
theorem dX12_directory_80 : decode cX12_directory 80 = .ok (.if_icmp .ne 31, 3) := by decide +kernel
theorem dX12_directory_83 : decode cX12_directory 83 = .ok (.aload_n 0, 1) := by decide +kernel
theorem dX12_directory_84 : decode cX12_directory 84 = .ok (.bipush 8, 2) := by decide +kernel
theorem dX12_directory_86 : decode cX12_directory 86 = .ok (.invokevirtual 213, 3) := by decide +kernel
theorem dX12_directory_89 : decode cX12_directory 89 = .ok (.iload_n 2, 1) := by decide +kernel
theorem dX12_directory_90 : decode cX12_directory 90 = .ok (.if_icmp .ne 21, 3) := by decide +kernel
theorem dX12_directory_93 : decode cX12_directory 93 = .ok (.aload_n 0, 1) := by decide +kernel
theorem dX12_directory_94 : decode cX12_directory 94 = .ok (.bipush 10, 2) := by decide +kernel
theorem dX12_directory_96 : decode cX12_directory 96 = .ok (.invokevirtual 213, 3) := by decide +kernel
theorem dX12_directory_99 : decode cX12_directory 99 = .ok (.bipush 16, 2) := by decide +kernel
theorem dX12_directory_101 : decode cX12_directory 101 = .ok (.iload_n 1, 1) := by decide +kernel
theorem dX12_directory_102 : decode cX12_directory 102 = .ok (.imul, 1) := by decide +kernel
theorem dX12_directory_103 : decode cX12_directory 103 = .ok (.bipush 16, 2) := by decide +kernel
theorem dX12_directory_105 : decode cX12_directory 105 = .ok (.iload_n 2, 1) := by decide +kernel
theorem dX12_directory_106 : decode cX12_directory 106 = .ok (.ishl, 1) := by decide +kernel
theorem dX12_directory_107 : decode cX12_directory 107 = .ok (.isub, 1) := by decide +kernel
theorem dX12_directory_108 : decode cX12_directory 108 = .ok (.if_icmp .eq 5, 3) := by decide +kernel
theorem dX12_directory_111 : decode cX12_directory 111 = .ok (.iconst 0, 1) := by decide +kernel
theorem dX12_directory_112 : decode cX12_directory 112 = .ok (.ireturn, 1) := by decide +kernel
theorem dX12_directory_113 : decode cX12_directory 113 = .ok (.aload_n 0, 1) := by decide +kernel
theorem dX12_directory_114 : decode cX12_directory 114 = .ok (.iload_n 1, 1) := by decide +kernel
theorem dX12_directory_115 : decode cX12_directory 115 = .ok (.putfield 216, 3) := by decide +kernel
theorem dX12_directory_118 : decode cX12_directory 118 = .ok (.iconst 0, 1) := by decide +kernel
theorem dX12_directory_119 : decode cX12_directory 119 = .ok (.istore_n 3, 1) := by decide +kernel
theorem dX12_directory_120 : decode cX12_directory 120 = .ok (.iload_n 3, 1) := by decide +kernel
theorem dX12_directory_121 : decode cX12_directory 121 = .ok (.iload_n 1, 1) := by decide +kernel
theorem dX12_directory_122 : decode cX12_directory 122 = .ok (.if_icmp .ge 75, 3) := by decide +kernel
theorem dX12_directory_125 : decode cX12_directory 125 = .ok (.bipush 12, 2) := by decide +kernel
theorem dX12_directory_127 : decode cX12_directory 127 = .ok (.bipush 16, 2) := by decide +kernel
theorem dX12_directory_129 : decode cX12_directory 129 = .ok (.iload_n 3, 1) := by decide +kernel
theorem dX12_directory_130 : decode cX12_directory 130 = .ok (.imul, 1) := by decide +kernel
theorem dX12_directory_131 : decode cX12_directory 131 = .ok (.iadd, 1) := by decide +kernel
theorem dX12_directory_132 : decode cX12_directory 132 = .ok (.istore 4, 2) := by decide +kernel
theorem dX12_directory_134 : decode cX12_directory 134 = .ok (.aload_n 0, 1) := by decide +kernel
theorem dX12_directory_135 : decode cX12_directory 135 = .ok (.getfield 16, 3) := by decide +kernel
theorem dX12_directory_138 : decode cX12_directory 138 = .ok (.iload_n 3, 1) := by decide +kernel
theorem dX12_directory_139 : decode cX12_directory 139 = .ok (.aload_n 0, 1) := by decide +kernel
theorem dX12_directory_140 : decode cX12_directory 140 = .ok (.iload 4, 2) := by decide +kernel
theorem dX12_directory_142 : decode cX12_directory 142 = .ok (.invokevirtual 297, 3) := by decide +kernel
theorem dX12_directory_145 : decode cX12_directory 145 = .ok (.l2i, 1) := by decide +kernel
theorem dX12_directory_146 : decode cX12_directory 146 = .ok (.iastore, 1) := by decide +kernel
theorem dX12_directory_147 : decode cX12_directory 147 = .ok (.aload_n 0, 1) := by decide +kernel
theorem dX12_directory_148 : decode cX12_directory 148 = .ok (.getfield 20, 3) := by decide +kernel
theorem dX12_directory_151 : decode cX12_directory 151 = .ok (.iload_n 3, 1) := by decide +kernel
theorem dX12_directory_152 : decode cX12_directory 152 = .ok (.aload_n 0, 1) := by decide +kernel
theorem dX12_directory_153 : decode cX12_directory 153 = .ok (.iload 4, 2) := by decide +kernel
theorem dX12_directory_155 : decode cX12_directory 155 = .ok (.iconst 4, 1) := by decide +kernel
theorem dX12_directory_156 : decode cX12_directory 156 = .ok (.iadd, 1) := by decide +kernel
theorem dX12_directory_157 : decode cX12_directory 157 = .ok (.invokevirtual 297, 3) := by decide +kernel
theorem dX12_directory_160 : decode cX12_directory 160 = .ok (.lastore, 1) := by decide +kernel
theorem dX12_directory_161 : decode cX12_directory 161 = .ok (.aload_n 0, 1) := by decide +kernel
theorem dX12_directory_162 : decode cX12_directory 162 = .ok (.getfield 24, 3) := by decide +kernel
theorem dX12_directory_165 : decode cX12_directory 165 = .ok (.iload_n 3, 1) := by decide +kernel
theorem dX12_directory_166 : decode cX12_directory 166 = .ok (.aload_n 0, 1) := by decide +kernel
theorem dX12_directory_167 : decode cX12_directory 167 = .ok (.iload 4, 2) := by decide +kernel
theorem dX12_directory_169 : decode cX12_directory 169 = .ok (.bipush 8, 2) := by decide +kernel
theorem dX12_directory_171 : decode cX12_directory 171 = .ok (.iadd, 1) := by decide +kernel
theorem dX12_directory_172 : decode cX12_directory 172 = .ok (.invokevirtual 297, 3) := by decide +kernel
theorem dX12_directory_175 : decode cX12_directory 175 = .ok (.lastore, 1) := by decide +kernel
theorem dX12_directory_176 : decode cX12_directory 176 = .ok (.aload_n 0, 1) := by decide +kernel
theorem dX12_directory_177 : decode cX12_directory 177 = .ok (.getfield 27, 3) := by decide +kernel
theorem dX12_directory_180 : decode cX12_directory 180 = .ok (.iload_n 3, 1) := by decide +kernel
theorem dX12_directory_181 : decode cX12_directory 181 = .ok (.aload_n 0, 1) := by decide +kernel
theorem dX12_directory_182 : decode cX12_directory 182 = .ok (.iload 4, 2) := by decide +kernel
theorem dX12_directory_184 : decode cX12_directory 184 = .ok (.bipush 12, 2) := by decide +kernel
theorem dX12_directory_186 : decode cX12_directory 186 = .ok (.iadd, 1) := by decide +kernel
theorem dX12_directory_187 : decode cX12_directory 187 = .ok (.invokevirtual 297, 3) := by decide +kernel
theorem dX12_directory_190 : decode cX12_directory 190 = .ok (.lastore, 1) := by decide +kernel
theorem dX12_directory_191 : decode cX12_directory 191 = .ok (.iinc 3 1, 3) := by decide +kernel
theorem dX12_directory_194 : decode cX12_directory 194 = .ok (.goto (-74), 3) := by decide +kernel
theorem dX12_directory_197 : decode cX12_directory 197 = .ok (.iconst 1, 1) := by decide +kernel
theorem dX12_directory_198 : decode cX12_directory 198 = .ok (.ireturn, 1) := by decide +kernel
def B_X12_directory_120 (N : Nat) (k120 : Int32 → Int32 → sv_V → Option (Int32 × sv_V)) (l1 : Int32) (l3 : Int32) (V : sv_V) : Option (Int32 × sv_V) := if l1 ≤ l3 then (some ((1 : Int32), V)) else (sx_let ((12 : Int32) + ((16 : Int32) * l3)) (fun x2 => (F_X12_u4 x2 V).bind (fun (x5, V3) => if sx_in l3 16 = true then sx_let (sv_I V3 149 l3.toNatClampNeg x5.toInt32) (fun V7 => (F_X12_u4 (x2 + (4 : Int32)) V7).bind (fun (x10, V8) => if sx_in l3 16 = true then sx_let (sv_L V8 150 l3.toNatClampNeg x10) (fun V12 => (F_X12_u4 (x2 + (8 : Int32)) V12).bind (fun (x15, V13) => if sx_in l3 16 = true then sx_let (sv_L V13 151 l3.toNatClampNeg x15) (fun V17 => (F_X12_u4 (x2 + (12 : Int32)) V17).bind (fun (x20, V18) => if sx_in l3 16 = true then sx_let (sv_L V18 152 l3.toNatClampNeg x20) (fun V22 => sx_let (l3 + 1) (fun x23 => k120 l1 x23 V22)) else none)) else none)) else none)) else none)))
set_option maxRecDepth 20000 in
theorem tB_X12_directory_120 {g : sx_G} (hG : sx_Go g) {P : Option Value → sv_V → Prop} {r : Int32} {Vr : sv_V} (hP : P (some (.int r)) Vr) {N : Nat} {k120 : Int32 → Int32 → sv_V → Option (Int32 × sv_V)} (hk120 : ∀ (l1 : Int32) (l3 : Int32) (V : sv_V), k120 l1 l3 V = some (r, Vr) → sv_N g qX12_directory 3 120 [(0, .ref 146), (1, .int l1), (3, .int l3)] [] V P) {l1 : Int32} {l3 : Int32} {V : sv_V} (h : B_X12_directory_120 N k120 l1 l3 V = some (r, Vr)) : sv_N g qX12_directory 3 120 [(0, .ref 146), (1, .int l1), (3, .int l3)] [] V P := by
  unfold B_X12_directory_120 at h
  refine sx_iload_n (pc := 120) dX12_directory_120 sx_m2 ?_
  refine sx_iload_n (pc := 121) dX12_directory_121 sx_m1 ?_
  refine sx_icmp_ge (pc := 122) (tgt := 197) dX12_directory_122 (by decide) (fun c1 => ?_) (fun c1 => ?_)
  · have h := sx_pos c1 h
    refine sx_iconst (pc := 197) (v := 1) dX12_directory_197 (by decide) ?_
    exact sv_zret (pc := 198) dX12_directory_198 rfl rfl h hP
  · have h := sx_neg c1 h
    refine sx_bipush (pc := 125) (v := 12) dX12_directory_125 (by decide) ?_
    refine sx_bipush (pc := 127) (v := 16) dX12_directory_127 (by decide) ?_
    refine sx_iload_n (pc := 129) dX12_directory_129 sx_m2 ?_
    refine sx_imul (pc := 130) dX12_directory_130 ?_
    refine sx_iadd (pc := 131) dX12_directory_131 ?_
    refine sv_tI (fun x2 hx2 => ?_)
    have h := sx_letE hx2 h
    refine sx_istore (pc := 132) (lo' := [(4, .int x2), (0, .ref 146), (1, .int l1), (3, .int l3)]) dX12_directory_132 (by decide) rfl ?_
    refine sx_aload_n (pc := 134) dX12_directory_134 sx_m1 ?_
    refine sv_getA (pc := 135) hG dX12_directory_135 f_12_16 lay_146 rfl cr_146_6 ?_
    refine sx_iload_n (pc := 138) dX12_directory_138 sx_m3 ?_
    refine sx_aload_n (pc := 139) dX12_directory_139 sx_m1 ?_
    refine sx_iload (pc := 140) dX12_directory_140 sx_m0 ?_
    obtain ⟨⟨x5, V3⟩, g4, h⟩ := sx_bnd h
    refine sv_cV (pc := 142) (y := qX12_u4) (o := (some (.long x5))) (as := [.int x2]) (V1 := V3) hG dX12_directory_142 l_X12_297 y0X12_u4 yvX12_u4 rfl (Nat.le_of_ble_eq_true rfl) lay_146 kr_12 (by decide) (Nat.le_of_ble_eq_true rfl) rfl rfl rfl (t_X12_u4 hG ⟨rfl, rfl⟩ g4) ?_
    refine sx_l2i (pc := 145) dX12_directory_145 ?_
    obtain ⟨g6, h⟩ := sx_grd h
    obtain ⟨V7, hV7⟩ : ∃ z : sv_V, z = sv_I V3 149 l3.toNatClampNeg x5.toInt32 := ⟨_, rfl⟩
    have h := sx_letE hV7 h
    refine sv_iast (pc := 146) hG dX12_directory_146 lay_149 g6 hV7 ?_
    refine sx_aload_n (pc := 147) dX12_directory_147 sx_m1 ?_
    refine sv_getA (pc := 148) hG dX12_directory_148 f_12_20 lay_146 rfl cr_146_7 ?_
    refine sx_iload_n (pc := 151) dX12_directory_151 sx_m3 ?_
    refine sx_aload_n (pc := 152) dX12_directory_152 sx_m1 ?_
    refine sx_iload (pc := 153) dX12_directory_153 sx_m0 ?_
    refine sx_iconst (pc := 155) (v := 4) dX12_directory_155 (by decide) ?_
    refine sx_iadd (pc := 156) dX12_directory_156 ?_
    obtain ⟨⟨x10, V8⟩, g9, h⟩ := sx_bnd h
    refine sv_cV (pc := 157) (y := qX12_u4) (o := (some (.long x10))) (as := [.int (x2 + (4 : Int32))]) (V1 := V8) hG dX12_directory_157 l_X12_297 y0X12_u4 yvX12_u4 rfl (Nat.le_of_ble_eq_true rfl) lay_146 kr_12 (by decide) (Nat.le_of_ble_eq_true rfl) rfl rfl rfl (t_X12_u4 hG ⟨rfl, rfl⟩ g9) ?_
    obtain ⟨g11, h⟩ := sx_grd h
    obtain ⟨V12, hV12⟩ : ∃ z : sv_V, z = sv_L V8 150 l3.toNatClampNeg x10 := ⟨_, rfl⟩
    have h := sx_letE hV12 h
    refine sv_last (pc := 160) hG dX12_directory_160 lay_150 g11 hV12 ?_
    refine sx_aload_n (pc := 161) dX12_directory_161 sx_m1 ?_
    refine sv_getA (pc := 162) hG dX12_directory_162 f_12_24 lay_146 rfl cr_146_8 ?_
    refine sx_iload_n (pc := 165) dX12_directory_165 sx_m3 ?_
    refine sx_aload_n (pc := 166) dX12_directory_166 sx_m1 ?_
    refine sx_iload (pc := 167) dX12_directory_167 sx_m0 ?_
    refine sx_bipush (pc := 169) (v := 8) dX12_directory_169 (by decide) ?_
    refine sx_iadd (pc := 171) dX12_directory_171 ?_
    obtain ⟨⟨x15, V13⟩, g14, h⟩ := sx_bnd h
    refine sv_cV (pc := 172) (y := qX12_u4) (o := (some (.long x15))) (as := [.int (x2 + (8 : Int32))]) (V1 := V13) hG dX12_directory_172 l_X12_297 y0X12_u4 yvX12_u4 rfl (Nat.le_of_ble_eq_true rfl) lay_146 kr_12 (by decide) (Nat.le_of_ble_eq_true rfl) rfl rfl rfl (t_X12_u4 hG ⟨rfl, rfl⟩ g14) ?_
    obtain ⟨g16, h⟩ := sx_grd h
    obtain ⟨V17, hV17⟩ : ∃ z : sv_V, z = sv_L V13 151 l3.toNatClampNeg x15 := ⟨_, rfl⟩
    have h := sx_letE hV17 h
    refine sv_last (pc := 175) hG dX12_directory_175 lay_151 g16 hV17 ?_
    refine sx_aload_n (pc := 176) dX12_directory_176 sx_m1 ?_
    refine sv_getA (pc := 177) hG dX12_directory_177 f_12_27 lay_146 rfl cr_146_9 ?_
    refine sx_iload_n (pc := 180) dX12_directory_180 sx_m3 ?_
    refine sx_aload_n (pc := 181) dX12_directory_181 sx_m1 ?_
    refine sx_iload (pc := 182) dX12_directory_182 sx_m0 ?_
    refine sx_bipush (pc := 184) (v := 12) dX12_directory_184 (by decide) ?_
    refine sx_iadd (pc := 186) dX12_directory_186 ?_
    obtain ⟨⟨x20, V18⟩, g19, h⟩ := sx_bnd h
    refine sv_cV (pc := 187) (y := qX12_u4) (o := (some (.long x20))) (as := [.int (x2 + (12 : Int32))]) (V1 := V18) hG dX12_directory_187 l_X12_297 y0X12_u4 yvX12_u4 rfl (Nat.le_of_ble_eq_true rfl) lay_146 kr_12 (by decide) (Nat.le_of_ble_eq_true rfl) rfl rfl rfl (t_X12_u4 hG ⟨rfl, rfl⟩ g19) ?_
    obtain ⟨g21, h⟩ := sx_grd h
    obtain ⟨V22, hV22⟩ : ∃ z : sv_V, z = sv_L V18 152 l3.toNatClampNeg x20 := ⟨_, rfl⟩
    have h := sx_letE hV22 h
    refine sv_last (pc := 190) hG dX12_directory_190 lay_152 g21 hV22 ?_
    obtain ⟨x23, hx23⟩ : ∃ z : Int32, z = l3 + 1 := ⟨_, rfl⟩
    have h := sx_letE hx23 h
    refine sx_iinc (pc := 191) (v := x23) (lo' := [(3, .int x23), (4, .int x2), (0, .ref 146), (1, .int l1)]) dX12_directory_191 sx_m3 (by rw [hx23]; rfl) (by decide) rfl ?_
    refine sx_goto (pc := 194) (tgt := 120) dX12_directory_194 (by decide) ?_
    refine sx_wk (sx_s1 sx_m2 (sx_s1 sx_m3 (sx_s1 sx_m0 sx_s0))) ?_
    exact hk120 _ _ _ h
theorem tL_X12_directory_120 {g : sx_G} (hG : sx_Go g) {P : Option Value → sv_V → Prop} {r : Int32} {Vr : sv_V} (hP : P (some (.int r)) Vr) {N : Nat}   : ∀ (n : Nat) (l1 : Int32) (l3 : Int32) (V : sv_V), sx_lp3 (B_X12_directory_120 N ) n l1 l3 V = some (r, Vr) → sv_N g qX12_directory 3 120 [(0, .ref 146), (1, .int l1), (3, .int l3)] [] V P :=
  sx_lp3_ind (fun k0 ih _ _ V h => tB_X12_directory_120 hG hP ih h)
def B_X12_directory_57 (N : Nat) (k57 : Int32 → Int32 → sv_V → Option (Int32 × sv_V)) (l1 : Int32) (l2 : Int32) (V : sv_V) : Option (Int32 × sv_V) := if l1 < ((2 : Int32) <<< (l2 &&& 31)) then ((F_X12_u2 (6 : Int32) V).bind (fun (x27, V25) => if x27 = ((16 : Int32) <<< (l2 &&& 31)) then ((F_X12_u2 (8 : Int32) V25).bind (fun (x31, V29) => if x31 = l2 then ((F_X12_u2 (10 : Int32) V29).bind (fun (x35, V33) => if x35 = (((16 : Int32) * l1) - ((16 : Int32) <<< (l2 &&& 31))) then (sx_let (sv_I V33 146 5 l1) (fun V37 => sx_lp3 (B_X12_directory_120 N ) N l1 (0 : Int32) V37)) else (some ((0 : Int32), V33)))) else (some ((0 : Int32), V29)))) else (some ((0 : Int32), V25)))) else (sx_let (l2 + 1) (fun x38 => k57 l1 x38 V))
set_option maxRecDepth 20000 in
theorem tB_X12_directory_57 {g : sx_G} (hG : sx_Go g) {P : Option Value → sv_V → Prop} {r : Int32} {Vr : sv_V} (hP : P (some (.int r)) Vr) {N : Nat} {k57 : Int32 → Int32 → sv_V → Option (Int32 × sv_V)} (hk57 : ∀ (l1 : Int32) (l2 : Int32) (V : sv_V), k57 l1 l2 V = some (r, Vr) → sv_N g qX12_directory 3 57 [(0, .ref 146), (1, .int l1), (2, .int l2)] [] V P) {l1 : Int32} {l2 : Int32} {V : sv_V} (h : B_X12_directory_57 N k57 l1 l2 V = some (r, Vr)) : sv_N g qX12_directory 3 57 [(0, .ref 146), (1, .int l1), (2, .int l2)] [] V P := by
  unfold B_X12_directory_57 at h
  refine sx_iconst (pc := 57) (v := 2) dX12_directory_57 (by decide) ?_
  refine sx_iload_n (pc := 58) dX12_directory_58 sx_m2 ?_
  refine sx_ishl (pc := 59) dX12_directory_59 ?_
  refine sx_iload_n (pc := 60) dX12_directory_60 sx_m1 ?_
  refine sx_icmp_gt (pc := 61) (tgt := 70) dX12_directory_61 (by decide) (fun c24 => ?_) (fun c24 => ?_)
  · have h := sx_pos c24 h
    refine sx_aload_n (pc := 70) dX12_directory_70 sx_m0 ?_
    refine sx_bipush (pc := 71) (v := 6) dX12_directory_71 (by decide) ?_
    obtain ⟨⟨x27, V25⟩, g26, h⟩ := sx_bnd h
    refine sv_cV (pc := 73) (y := qX12_u2) (o := (some (.int x27))) (as := [.int (6 : Int32)]) (V1 := V25) hG dX12_directory_73 l_X12_213 y0X12_u2 yvX12_u2 rfl (Nat.le_of_ble_eq_true rfl) lay_146 kr_12 (by decide) (Nat.le_of_ble_eq_true rfl) rfl rfl rfl (t_X12_u2 hG ⟨rfl, rfl⟩ g26) ?_
    refine sx_bipush (pc := 76) (v := 16) dX12_directory_76 (by decide) ?_
    refine sx_iload_n (pc := 78) dX12_directory_78 sx_m2 ?_
    refine sx_ishl (pc := 79) dX12_directory_79 ?_
    refine sx_icmp_ne (pc := 80) (tgt := 111) dX12_directory_80 (by decide) (fun c28 => ?_) (fun c28 => ?_)
    · have h := sx_neg c28 h
      refine sx_iconst (pc := 111) (v := 0) dX12_directory_111 (by decide) ?_
      exact sv_zret (pc := 112) dX12_directory_112 rfl rfl h hP
    · have h := sx_pos c28 h
      refine sx_aload_n (pc := 83) dX12_directory_83 sx_m0 ?_
      refine sx_bipush (pc := 84) (v := 8) dX12_directory_84 (by decide) ?_
      obtain ⟨⟨x31, V29⟩, g30, h⟩ := sx_bnd h
      refine sv_cV (pc := 86) (y := qX12_u2) (o := (some (.int x31))) (as := [.int (8 : Int32)]) (V1 := V29) hG dX12_directory_86 l_X12_213 y0X12_u2 yvX12_u2 rfl (Nat.le_of_ble_eq_true rfl) lay_146 kr_12 (by decide) (Nat.le_of_ble_eq_true rfl) rfl rfl rfl (t_X12_u2 hG ⟨rfl, rfl⟩ g30) ?_
      refine sx_iload_n (pc := 89) dX12_directory_89 sx_m2 ?_
      refine sx_icmp_ne (pc := 90) (tgt := 111) dX12_directory_90 (by decide) (fun c32 => ?_) (fun c32 => ?_)
      · have h := sx_neg c32 h
        refine sx_iconst (pc := 111) (v := 0) dX12_directory_111 (by decide) ?_
        exact sv_zret (pc := 112) dX12_directory_112 rfl rfl h hP
      · have h := sx_pos c32 h
        refine sx_aload_n (pc := 93) dX12_directory_93 sx_m0 ?_
        refine sx_bipush (pc := 94) (v := 10) dX12_directory_94 (by decide) ?_
        obtain ⟨⟨x35, V33⟩, g34, h⟩ := sx_bnd h
        refine sv_cV (pc := 96) (y := qX12_u2) (o := (some (.int x35))) (as := [.int (10 : Int32)]) (V1 := V33) hG dX12_directory_96 l_X12_213 y0X12_u2 yvX12_u2 rfl (Nat.le_of_ble_eq_true rfl) lay_146 kr_12 (by decide) (Nat.le_of_ble_eq_true rfl) rfl rfl rfl (t_X12_u2 hG ⟨rfl, rfl⟩ g34) ?_
        refine sx_bipush (pc := 99) (v := 16) dX12_directory_99 (by decide) ?_
        refine sx_iload_n (pc := 101) dX12_directory_101 sx_m1 ?_
        refine sx_imul (pc := 102) dX12_directory_102 ?_
        refine sx_bipush (pc := 103) (v := 16) dX12_directory_103 (by decide) ?_
        refine sx_iload_n (pc := 105) dX12_directory_105 sx_m2 ?_
        refine sx_ishl (pc := 106) dX12_directory_106 ?_
        refine sx_isub (pc := 107) dX12_directory_107 ?_
        refine sx_icmp_eq (pc := 108) (tgt := 113) dX12_directory_108 (by decide) (fun c36 => ?_) (fun c36 => ?_)
        · have h := sx_pos c36 h
          refine sx_aload_n (pc := 113) dX12_directory_113 sx_m0 ?_
          refine sx_iload_n (pc := 114) dX12_directory_114 sx_m1 ?_
          obtain ⟨V37, hV37⟩ : ∃ z : sv_V, z = sv_I V33 146 5 l1 := ⟨_, rfl⟩
          have h := sx_letE hV37 h
          refine sv_putI (pc := 115) hG dX12_directory_115 f_12_216 lay_146 rfl hV37 ?_
          refine sx_iconst (pc := 118) (v := 0) dX12_directory_118 (by decide) ?_
          refine sx_istore_n (pc := 119) (lo' := [(3, .int (0 : Int32)), (0, .ref 146), (1, .int l1), (2, .int l2)]) dX12_directory_119 (by decide) rfl ?_
          refine sx_wk (sx_s1 sx_m1 (sx_s1 sx_m2 (sx_s1 sx_m0 sx_s0))) ?_
          exact tL_X12_directory_120 hG hP  N _ _ _ h
        · have h := sx_neg c36 h
          refine sx_iconst (pc := 111) (v := 0) dX12_directory_111 (by decide) ?_
          exact sv_zret (pc := 112) dX12_directory_112 rfl rfl h hP
  · have h := sx_neg c24 h
    obtain ⟨x38, hx38⟩ : ∃ z : Int32, z = l2 + 1 := ⟨_, rfl⟩
    have h := sx_letE hx38 h
    refine sx_iinc (pc := 64) (v := x38) (lo' := [(2, .int x38), (0, .ref 146), (1, .int l1)]) dX12_directory_64 sx_m2 (by rw [hx38]; rfl) (by decide) rfl ?_
    refine sx_goto (pc := 67) (tgt := 57) dX12_directory_67 (by decide) ?_
    refine sx_wk (sx_s1 sx_m1 (sx_s1 sx_m2 (sx_s1 sx_m0 sx_s0))) ?_
    exact hk57 _ _ _ h
theorem tL_X12_directory_57 {g : sx_G} (hG : sx_Go g) {P : Option Value → sv_V → Prop} {r : Int32} {Vr : sv_V} (hP : P (some (.int r)) Vr) {N : Nat}   : ∀ (n : Nat) (l1 : Int32) (l2 : Int32) (V : sv_V), sx_lp3 (B_X12_directory_57 N ) n l1 l2 V = some (r, Vr) → sv_N g qX12_directory 3 57 [(0, .ref 146), (1, .int l1), (2, .int l2)] [] V P :=
  sx_lp3_ind (fun k0 ih _ _ V h => tB_X12_directory_57 hG hP ih h)
def F_X12_directory (N : Nat)  (V : sv_V) : Option (Int32 × sv_V) := (F_X12_u2 (4 : Int32) V).bind (fun (x41, V39) => if (V39.1 146 3) < (12 : Int32) then (some ((0 : Int32), V39)) else ((F_X12_u4 (0 : Int32) V39).bind (fun (x45, V43) => if (lg_cmp x45 (65536 : Int64)) = 0 then ((F_X12_in x41.toInt64 (1 : Int64) (16 : Int64) V43).bind (fun (x49, V47) => if x49 = 0 then (some ((0 : Int32), V47)) else (if ((12 : Int32) + ((16 : Int32) * x41)) ≤ (V47.1 146 3) then (sx_lp3 (B_X12_directory_57 N ) N x41 (0 : Int32) V47) else (some ((0 : Int32), V47))))) else (some ((0 : Int32), V43)))))
set_option maxRecDepth 20000 in
theorem t_X12_directory {g : sx_G} (hG : sx_Go g) {P : Option Value → sv_V → Prop} {r : Int32} {Vr : sv_V} (hP : P (some (.int r)) Vr) {N : Nat}  {V : sv_V} (h : F_X12_directory N  V = some (r, Vr)) : sv_N g qX12_directory 3 0 [(0, .ref 146)] [] V P := by
  unfold F_X12_directory at h
  refine sx_aload_n (pc := 0) dX12_directory_0 sx_m0 ?_
  refine sx_iconst (pc := 1) (v := 4) dX12_directory_1 (by decide) ?_
  obtain ⟨⟨x41, V39⟩, g40, h⟩ := sx_bnd h
  refine sv_cV (pc := 2) (y := qX12_u2) (o := (some (.int x41))) (as := [.int (4 : Int32)]) (V1 := V39) hG dX12_directory_2 l_X12_213 y0X12_u2 yvX12_u2 rfl (Nat.le_of_ble_eq_true rfl) lay_146 kr_12 (by decide) (Nat.le_of_ble_eq_true rfl) rfl rfl rfl (t_X12_u2 hG ⟨rfl, rfl⟩ g40) ?_
  refine sx_istore_n (pc := 5) (lo' := [(1, .int x41), (0, .ref 146)]) dX12_directory_5 (by decide) rfl ?_
  refine sx_aload_n (pc := 6) dX12_directory_6 sx_m1 ?_
  refine sv_getI (pc := 7) hG dX12_directory_7 f_12_206 lay_146 rfl ?_
  refine sx_bipush (pc := 10) (v := 12) dX12_directory_10 (by decide) ?_
  refine sx_icmp_lt (pc := 12) (tgt := 53) dX12_directory_12 (by decide) (fun c42 => ?_) (fun c42 => ?_)
  · have h := sx_pos c42 h
    refine sx_iconst (pc := 53) (v := 0) dX12_directory_53 (by decide) ?_
    exact sv_zret (pc := 54) dX12_directory_54 rfl rfl h hP
  · have h := sx_neg c42 h
    refine sx_aload_n (pc := 15) dX12_directory_15 sx_m1 ?_
    refine sx_iconst (pc := 16) (v := 0) dX12_directory_16 (by decide) ?_
    obtain ⟨⟨x45, V43⟩, g44, h⟩ := sx_bnd h
    refine sv_cV (pc := 17) (y := qX12_u4) (o := (some (.long x45))) (as := [.int (0 : Int32)]) (V1 := V43) hG dX12_directory_17 l_X12_297 y0X12_u4 yvX12_u4 rfl (Nat.le_of_ble_eq_true rfl) lay_146 kr_12 (by decide) (Nat.le_of_ble_eq_true rfl) rfl rfl rfl (t_X12_u4 hG ⟨rfl, rfl⟩ g44) ?_
    refine sx_ldc2 (pc := 20) dX12_directory_20 k_X12_300 ?_
    refine sx_lcmp (pc := 23) dX12_directory_23 ?_
    refine sx_if_ne (pc := 24) (tgt := 53) dX12_directory_24 (by decide) (fun c46 => ?_) (fun c46 => ?_)
    · have h := sx_neg c46 h
      refine sx_iconst (pc := 53) (v := 0) dX12_directory_53 (by decide) ?_
      exact sv_zret (pc := 54) dX12_directory_54 rfl rfl h hP
    · have h := sx_pos c46 h
      refine sx_iload_n (pc := 27) dX12_directory_27 sx_m0 ?_
      refine sx_i2l (pc := 28) dX12_directory_28 ?_
      refine sx_lconst (pc := 29) (v := 1) dX12_directory_29 rfl ?_
      refine sx_ldc2 (pc := 30) dX12_directory_30 k_X12_232 ?_
      obtain ⟨⟨x49, V47⟩, g48, h⟩ := sx_bnd h
      refine sv_cS (pc := 33) (y := qX12_in) (o := (some (.int x49))) (as := [.long x41.toInt64, .long (1 : Int64), .long (16 : Int64)]) (V1 := V47) dX12_directory_33 l_X12_263 y0X12_in ysX12_in rfl (Nat.le_of_ble_eq_true rfl) (by decide) (Nat.le_of_ble_eq_true rfl) rfl rfl rfl (t_X12_in hG ⟨rfl, rfl⟩ g48) ?_
      refine sx_if_eq (pc := 36) (tgt := 53) dX12_directory_36 (by decide) (fun c50 => ?_) (fun c50 => ?_)
      · have h := sx_pos c50 h
        refine sx_iconst (pc := 53) (v := 0) dX12_directory_53 (by decide) ?_
        exact sv_zret (pc := 54) dX12_directory_54 rfl rfl h hP
      · have h := sx_neg c50 h
        refine sx_aload_n (pc := 39) dX12_directory_39 sx_m1 ?_
        refine sv_getI (pc := 40) hG dX12_directory_40 f_12_206 lay_146 rfl ?_
        refine sx_bipush (pc := 43) (v := 12) dX12_directory_43 (by decide) ?_
        refine sx_bipush (pc := 45) (v := 16) dX12_directory_45 (by decide) ?_
        refine sx_iload_n (pc := 47) dX12_directory_47 sx_m0 ?_
        refine sx_imul (pc := 48) dX12_directory_48 ?_
        refine sx_iadd (pc := 49) dX12_directory_49 ?_
        refine sx_icmp_ge (pc := 50) (tgt := 55) dX12_directory_50 (by decide) (fun c51 => ?_) (fun c51 => ?_)
        · have h := sx_pos c51 h
          refine sx_iconst (pc := 55) (v := 0) dX12_directory_55 (by decide) ?_
          refine sx_istore_n (pc := 56) (lo' := [(2, .int (0 : Int32)), (1, .int x41), (0, .ref 146)]) dX12_directory_56 (by decide) rfl ?_
          refine sx_wk (sx_s1 sx_m2 (sx_s1 sx_m1 (sx_s1 sx_m0 sx_s0))) ?_
          exact tL_X12_directory_57 hG hP  N _ _ _ h
        · have h := sx_neg c51 h
          refine sx_iconst (pc := 53) (v := 0) dX12_directory_53 (by decide) ?_
          exact sv_zret (pc := 54) dX12_directory_54 rfl rfl h hP
theorem dX12_head_0 : decode cX12_head 0 = .ok (.aload_n 0, 1) := by decide +kernel
theorem dX12_head_1 : decode cX12_head 1 = .ok (.ldc 234, 2) := by decide +kernel
theorem dX12_head_3 : decode cX12_head 3 = .ok (.invokevirtual 251, 3) := by decide +kernel
theorem dX12_head_6 : decode cX12_head 6 = .ok (.istore_n 1, 1) := by decide +kernel
theorem dX12_head_7 : decode cX12_head 7 = .ok (.aload_n 0, 1) := by decide +kernel
theorem dX12_head_8 : decode cX12_head 8 = .ok (.aload_n 0, 1) := by decide +kernel
theorem dX12_head_9 : decode cX12_head 9 = .ok (.iload_n 1, 1) := by decide +kernel
theorem dX12_head_10 : decode cX12_head 10 = .ok (.bipush 18, 2) := by decide +kernel
theorem dX12_head_12 : decode cX12_head 12 = .ok (.iadd, 1) := by decide +kernel
theorem dX12_head_13 : decode cX12_head 13 = .ok (.invokevirtual 213, 3) := by decide +kernel
theorem dX12_head_16 : decode cX12_head 16 = .ok (.putfield 302, 3) := by decide +kernel
theorem dX12_head_19 : decode cX12_head 19 = .ok (.aload_n 0, 1) := by decide +kernel
theorem dX12_head_20 : decode cX12_head 20 = .ok (.aload_n 0, 1) := by decide +kernel
theorem dX12_head_21 : decode cX12_head 21 = .ok (.iload_n 1, 1) := by decide +kernel
theorem dX12_head_22 : decode cX12_head 22 = .ok (.bipush 50, 2) := by decide +kernel
theorem dX12_head_24 : decode cX12_head 24 = .ok (.iadd, 1) := by decide +kernel
theorem dX12_head_25 : decode cX12_head 25 = .ok (.invokevirtual 305, 3) := by decide +kernel
theorem dX12_head_28 : decode cX12_head 28 = .ok (.putfield 271, 3) := by decide +kernel
theorem dX12_head_31 : decode cX12_head 31 = .ok (.aload_n 0, 1) := by decide +kernel
theorem dX12_head_32 : decode cX12_head 32 = .ok (.ldc 234, 2) := by decide +kernel
theorem dX12_head_34 : decode cX12_head 34 = .ok (.invokevirtual 257, 3) := by decide +kernel
theorem dX12_head_37 : decode cX12_head 37 = .ok (.bipush 54, 2) := by decide +kernel
theorem dX12_head_39 : decode cX12_head 39 = .ok (.if_icmp .ne 75, 3) := by decide +kernel
theorem dX12_head_42 : decode cX12_head 42 = .ok (.aload_n 0, 1) := by decide +kernel
theorem dX12_head_43 : decode cX12_head 43 = .ok (.iload_n 1, 1) := by decide +kernel
theorem dX12_head_44 : decode cX12_head 44 = .ok (.invokevirtual 297, 3) := by decide +kernel
theorem dX12_head_47 : decode cX12_head 47 = .ok (.ldc2_w 300, 3) := by decide +kernel
theorem dX12_head_50 : decode cX12_head 50 = .ok (.lcmp, 1) := by decide +kernel
theorem dX12_head_51 : decode cX12_head 51 = .ok (.ifCond .ne 63, 3) := by decide +kernel
theorem dX12_head_54 : decode cX12_head 54 = .ok (.aload_n 0, 1) := by decide +kernel
theorem dX12_head_55 : decode cX12_head 55 = .ok (.iload_n 1, 1) := by decide +kernel
theorem dX12_head_56 : decode cX12_head 56 = .ok (.bipush 12, 2) := by decide +kernel
theorem dX12_head_58 : decode cX12_head 58 = .ok (.iadd, 1) := by decide +kernel
theorem dX12_head_59 : decode cX12_head 59 = .ok (.invokevirtual 297, 3) := by decide +kernel
theorem dX12_head_62 : decode cX12_head 62 = .ok (.ldc2_w 308, 3) := by decide +kernel
theorem dX12_head_65 : decode cX12_head 65 = .ok (.lcmp, 1) := by decide +kernel
theorem dX12_head_66 : decode cX12_head 66 = .ok (.ifCond .ne 48, 3) := by decide +kernel
theorem dX12_head_69 : decode cX12_head 69 = .ok (.aload_n 0, 1) := by decide +kernel
theorem dX12_head_70 : decode cX12_head 70 = .ok (.getfield 302, 3) := by decide +kernel
theorem dX12_head_73 : decode cX12_head 73 = .ok (.i2l, 1) := by decide +kernel
theorem dX12_head_74 : decode cX12_head 74 = .ok (.ldc2_w 232, 3) := by decide +kernel
theorem dX12_head_77 : decode cX12_head 77 = .ok (.ldc2_w 310, 3) := by decide +kernel
theorem dX12_head_80 : decode cX12_head 80 = .ok (.invokestatic 263, 3) := by decide +kernel
theorem dX12_head_83 : decode cX12_head 83 = .ok (.ifCond .eq 31, 3) := by decide +kernel
theorem dX12_head_86 : decode cX12_head 86 = .ok (.aload_n 0, 1) := by decide +kernel
theorem dX12_head_87 : decode cX12_head 87 = .ok (.getfield 271, 3) := by decide +kernel
theorem dX12_head_90 : decode cX12_head 90 = .ok (.i2l, 1) := by decide +kernel
theorem dX12_head_91 : decode cX12_head 91 = .ok (.lconst 0, 1) := by decide +kernel
theorem dX12_head_92 : decode cX12_head 92 = .ok (.lconst 1, 1) := by decide +kernel
theorem dX12_head_93 : decode cX12_head 93 = .ok (.invokestatic 263, 3) := by decide +kernel
theorem dX12_head_96 : decode cX12_head 96 = .ok (.ifCond .eq 18, 3) := by decide +kernel
theorem dX12_head_99 : decode cX12_head 99 = .ok (.aload_n 0, 1) := by decide +kernel
theorem dX12_head_100 : decode cX12_head 100 = .ok (.iload_n 1, 1) := by decide +kernel
theorem dX12_head_101 : decode cX12_head 101 = .ok (.bipush 52, 2) := by decide +kernel
theorem dX12_head_103 : decode cX12_head 103 = .ok (.iadd, 1) := by decide +kernel
theorem dX12_head_104 : decode cX12_head 104 = .ok (.invokevirtual 305, 3) := by decide +kernel
theorem dX12_head_107 : decode cX12_head 107 = .ok (.ifCond .ne 7, 3) := by decide +kernel
theorem dX12_head_110 : decode cX12_head 110 = .ok (.iconst 1, 1) := by decide +kernel
theorem dX12_head_111 : decode cX12_head 111 = .ok (.goto 4, 3) := by decide +kernel
theorem dX12_head_114 : decode cX12_head 114 = .ok (.iconst 0, 1) := by decide +kernel
theorem dX12_head_115 : decode cX12_head 115 = .ok (.istore_n 2, 1) := by decide +kernel
theorem dX12_head_116 : decode cX12_head 116 = .ok (.iload_n 2, 1) := by decide +kernel
theorem dX12_head_117 : decode cX12_head 117 = .ok (.ifCond .eq 36, 3) := by decide +kernel
theorem dX12_head_120 : decode cX12_head 120 = .ok (.aload_n 0, 1) := by decide +kernel
theorem dX12_head_121 : decode cX12_head 121 = .ok (.iconst 0, 1) := by decide +kernel
theorem dX12_head_122 : decode cX12_head 122 = .ok (.aload_n 0, 1) := by decide +kernel
theorem dX12_head_123 : decode cX12_head 123 = .ok (.getfield 206, 3) := by decide +kernel
theorem dX12_head_126 : decode cX12_head 126 = .ok (.iload_n 1, 1) := by decide +kernel
theorem dX12_head_127 : decode cX12_head 127 = .ok (.bipush 8, 2) := by decide +kernel
theorem dX12_head_129 : decode cX12_head 129 = .ok (.iadd, 1) := by decide +kernel
theorem dX12_head_130 : decode cX12_head 130 = .ok (.invokevirtual 235, 3) := by decide +kernel
theorem dX12_head_133 : decode cX12_head 133 = .ok (.aload_n 0, 1) := by decide +kernel
theorem dX12_head_134 : decode cX12_head 134 = .ok (.iload_n 1, 1) := by decide +kernel
theorem dX12_head_135 : decode cX12_head 135 = .ok (.bipush 8, 2) := by decide +kernel
theorem dX12_head_137 : decode cX12_head 137 = .ok (.iadd, 1) := by decide +kernel
theorem dX12_head_138 : decode cX12_head 138 = .ok (.invokevirtual 297, 3) := by decide +kernel
theorem dX12_head_141 : decode cX12_head 141 = .ok (.l2i, 1) := by decide +kernel
theorem dX12_head_142 : decode cX12_head 142 = .ok (.iadd, 1) := by decide +kernel
theorem dX12_head_143 : decode cX12_head 143 = .ok (.ldc_w 312, 3) := by decide +kernel
theorem dX12_head_146 : decode cX12_head 146 = .ok (.if_icmp .ne 7, 3) := by decide +kernel
theorem dX12_head_149 : decode cX12_head 149 = .ok (.iconst 1, 1) := by decide +kernel
theorem dX12_head_150 : decode cX12_head 150 = .ok (.goto 4, 3) := by decide +kernel
theorem dX12_head_153 : decode cX12_head 153 = .ok (.iconst 0, 1) := by decide +kernel
theorem dX12_head_154 : decode cX12_head 154 = .ok (.ireturn, 1) := by decide +kernel
def B_X12_head_115 (N : Nat)  (l1 : Int32) (s0 : Int32) (V : sv_V) : Option (Int32 × sv_V) := if s0 = 0 then (some ((0 : Int32), V)) else ((F_X12_sumOf N (0 : Int32) (V.1 146 3) (l1 + (8 : Int32)) V).bind (fun (x4, V2) => (F_X12_u4 (l1 + (8 : Int32)) V2).bind (fun (x7, V5) => if (x4 + x7.toInt32) = (-1313820742 : Int32) then (some ((1 : Int32), V5)) else (some ((0 : Int32), V5)))))
set_option maxRecDepth 20000 in
theorem tB_X12_head_115 {g : sx_G} (hG : sx_Go g) {P : Option Value → sv_V → Prop} {r : Int32} {Vr : sv_V} (hP : P (some (.int r)) Vr) {N : Nat}   {l1 : Int32} {s0 : Int32} {V : sv_V} (h : B_X12_head_115 N  l1 s0 V = some (r, Vr)) : sv_N g qX12_head 3 115 [(0, .ref 146), (1, .int l1)] [.int s0] V P := by
  unfold B_X12_head_115 at h
  refine sx_istore_n (pc := 115) (lo' := [(2, .int s0), (0, .ref 146), (1, .int l1)]) dX12_head_115 (by decide) rfl ?_
  refine sx_iload_n (pc := 116) dX12_head_116 sx_m0 ?_
  refine sx_if_eq (pc := 117) (tgt := 153) dX12_head_117 (by decide) (fun c1 => ?_) (fun c1 => ?_)
  · have h := sx_pos c1 h
    refine sx_iconst (pc := 153) (v := 0) dX12_head_153 (by decide) ?_
    exact sv_zret (pc := 154) dX12_head_154 rfl rfl h hP
  · have h := sx_neg c1 h
    refine sx_aload_n (pc := 120) dX12_head_120 sx_m1 ?_
    refine sx_iconst (pc := 121) (v := 0) dX12_head_121 (by decide) ?_
    refine sx_aload_n (pc := 122) dX12_head_122 sx_m1 ?_
    refine sv_getI (pc := 123) hG dX12_head_123 f_12_206 lay_146 rfl ?_
    refine sx_iload_n (pc := 126) dX12_head_126 sx_m2 ?_
    refine sx_bipush (pc := 127) (v := 8) dX12_head_127 (by decide) ?_
    refine sx_iadd (pc := 129) dX12_head_129 ?_
    obtain ⟨⟨x4, V2⟩, g3, h⟩ := sx_bnd h
    refine sv_cV (pc := 130) (y := qX12_sumOf) (o := (some (.int x4))) (as := [.int (0 : Int32), .int (V.1 146 3), .int (l1 + (8 : Int32))]) (V1 := V2) hG dX12_head_130 l_X12_235 y0X12_sumOf yvX12_sumOf rfl (Nat.le_of_ble_eq_true rfl) lay_146 kr_12 (by decide) (Nat.le_of_ble_eq_true rfl) rfl rfl rfl (t_X12_sumOf hG ⟨rfl, rfl⟩ g3) ?_
    refine sx_aload_n (pc := 133) dX12_head_133 sx_m1 ?_
    refine sx_iload_n (pc := 134) dX12_head_134 sx_m2 ?_
    refine sx_bipush (pc := 135) (v := 8) dX12_head_135 (by decide) ?_
    refine sx_iadd (pc := 137) dX12_head_137 ?_
    obtain ⟨⟨x7, V5⟩, g6, h⟩ := sx_bnd h
    refine sv_cV (pc := 138) (y := qX12_u4) (o := (some (.long x7))) (as := [.int (l1 + (8 : Int32))]) (V1 := V5) hG dX12_head_138 l_X12_297 y0X12_u4 yvX12_u4 rfl (Nat.le_of_ble_eq_true rfl) lay_146 kr_12 (by decide) (Nat.le_of_ble_eq_true rfl) rfl rfl rfl (t_X12_u4 hG ⟨rfl, rfl⟩ g6) ?_
    refine sx_l2i (pc := 141) dX12_head_141 ?_
    refine sx_iadd (pc := 142) dX12_head_142 ?_
    refine sx_ldcw (pc := 143) dX12_head_143 k_X12_312 ?_
    refine sx_icmp_ne (pc := 146) (tgt := 153) dX12_head_146 (by decide) (fun c8 => ?_) (fun c8 => ?_)
    · have h := sx_neg c8 h
      refine sx_iconst (pc := 153) (v := 0) dX12_head_153 (by decide) ?_
      exact sv_zret (pc := 154) dX12_head_154 rfl rfl h hP
    · have h := sx_pos c8 h
      refine sx_iconst (pc := 149) (v := 1) dX12_head_149 (by decide) ?_
      refine sx_goto (pc := 150) (tgt := 154) dX12_head_150 (by decide) ?_
      exact sv_zret (pc := 154) dX12_head_154 rfl rfl h hP
def B_X12_head_114 (N : Nat)  (l1 : Int32) (V : sv_V) : Option (Int32 × sv_V) := B_X12_head_115 N  l1 (0 : Int32) V
set_option maxRecDepth 20000 in
theorem tB_X12_head_114 {g : sx_G} (hG : sx_Go g) {P : Option Value → sv_V → Prop} {r : Int32} {Vr : sv_V} (hP : P (some (.int r)) Vr) {N : Nat}   {l1 : Int32} {V : sv_V} (h : B_X12_head_114 N  l1 V = some (r, Vr)) : sv_N g qX12_head 3 114 [(0, .ref 146), (1, .int l1)] [] V P := by
  unfold B_X12_head_114 at h
  refine sx_iconst (pc := 114) (v := 0) dX12_head_114 (by decide) ?_
  refine sx_wk (sx_s1 sx_m0 (sx_s1 sx_m1 sx_s0)) ?_
  exact tB_X12_head_115 hG hP  h
def F_X12_head (N : Nat)  (V : sv_V) : Option (Int32 × sv_V) := (F_X12_beginOf N (1751474532 : Int32) V).bind (fun (x11, V9) => (F_X12_u2 (x11 + (18 : Int32)) V9).bind (fun (x14, V12) => sx_let (sv_I V12 146 10 x14) (fun V15 => (F_X12_s2 (x11 + (50 : Int32)) V15).bind (fun (x18, V16) => sx_let (sv_I V16 146 11 x18) (fun V19 => (F_X12_lengthOf N (1751474532 : Int32) V19).bind (fun (x22, V20) => if x22 = (54 : Int32) then ((F_X12_u4 x11 V20).bind (fun (x26, V24) => if (lg_cmp x26 (65536 : Int64)) = 0 then ((F_X12_u4 (x11 + (12 : Int32)) V24).bind (fun (x30, V28) => if (lg_cmp x30 (1594834165 : Int64)) = 0 then ((F_X12_in ((V28.1 146 10).toInt64) (16 : Int64) (16384 : Int64) V28).bind (fun (x34, V32) => if x34 = 0 then (B_X12_head_114 N  x11 V32) else ((F_X12_in ((V32.1 146 11).toInt64) (0 : Int64) (1 : Int64) V32).bind (fun (x38, V36) => if x38 = 0 then (B_X12_head_114 N  x11 V36) else ((F_X12_s2 (x11 + (52 : Int32)) V36).bind (fun (x42, V40) => if x42 = 0 then (B_X12_head_115 N  x11 (1 : Int32) V40) else (B_X12_head_114 N  x11 V40))))))) else (B_X12_head_114 N  x11 V28))) else (B_X12_head_114 N  x11 V24))) else (B_X12_head_114 N  x11 V20)))))))
set_option maxRecDepth 20000 in
theorem t_X12_head {g : sx_G} (hG : sx_Go g) {P : Option Value → sv_V → Prop} {r : Int32} {Vr : sv_V} (hP : P (some (.int r)) Vr) {N : Nat}  {V : sv_V} (h : F_X12_head N  V = some (r, Vr)) : sv_N g qX12_head 3 0 [(0, .ref 146)] [] V P := by
  unfold F_X12_head at h
  refine sx_aload_n (pc := 0) dX12_head_0 sx_m0 ?_
  refine sx_ldc (pc := 1) dX12_head_1 k_X12_234 ?_
  obtain ⟨⟨x11, V9⟩, g10, h⟩ := sx_bnd h
  refine sv_cV (pc := 3) (y := qX12_beginOf) (o := (some (.int x11))) (as := [.int (1751474532 : Int32)]) (V1 := V9) hG dX12_head_3 l_X12_251 y0X12_beginOf yvX12_beginOf rfl (Nat.le_of_ble_eq_true rfl) lay_146 kr_12 (by decide) (Nat.le_of_ble_eq_true rfl) rfl rfl rfl (t_X12_beginOf hG ⟨rfl, rfl⟩ g10) ?_
  refine sx_istore_n (pc := 6) (lo' := [(1, .int x11), (0, .ref 146)]) dX12_head_6 (by decide) rfl ?_
  refine sx_aload_n (pc := 7) dX12_head_7 sx_m1 ?_
  refine sx_aload_n (pc := 8) dX12_head_8 sx_m1 ?_
  refine sx_iload_n (pc := 9) dX12_head_9 sx_m0 ?_
  refine sx_bipush (pc := 10) (v := 18) dX12_head_10 (by decide) ?_
  refine sx_iadd (pc := 12) dX12_head_12 ?_
  obtain ⟨⟨x14, V12⟩, g13, h⟩ := sx_bnd h
  refine sv_cV (pc := 13) (y := qX12_u2) (o := (some (.int x14))) (as := [.int (x11 + (18 : Int32))]) (V1 := V12) hG dX12_head_13 l_X12_213 y0X12_u2 yvX12_u2 rfl (Nat.le_of_ble_eq_true rfl) lay_146 kr_12 (by decide) (Nat.le_of_ble_eq_true rfl) rfl rfl rfl (t_X12_u2 hG ⟨rfl, rfl⟩ g13) ?_
  obtain ⟨V15, hV15⟩ : ∃ z : sv_V, z = sv_I V12 146 10 x14 := ⟨_, rfl⟩
  have h := sx_letE hV15 h
  refine sv_putI (pc := 16) hG dX12_head_16 f_12_302 lay_146 rfl hV15 ?_
  refine sx_aload_n (pc := 19) dX12_head_19 sx_m1 ?_
  refine sx_aload_n (pc := 20) dX12_head_20 sx_m1 ?_
  refine sx_iload_n (pc := 21) dX12_head_21 sx_m0 ?_
  refine sx_bipush (pc := 22) (v := 50) dX12_head_22 (by decide) ?_
  refine sx_iadd (pc := 24) dX12_head_24 ?_
  obtain ⟨⟨x18, V16⟩, g17, h⟩ := sx_bnd h
  refine sv_cV (pc := 25) (y := qX12_s2) (o := (some (.int x18))) (as := [.int (x11 + (50 : Int32))]) (V1 := V16) hG dX12_head_25 l_X12_305 y0X12_s2 yvX12_s2 rfl (Nat.le_of_ble_eq_true rfl) lay_146 kr_12 (by decide) (Nat.le_of_ble_eq_true rfl) rfl rfl rfl (t_X12_s2 hG ⟨rfl, rfl⟩ g17) ?_
  obtain ⟨V19, hV19⟩ : ∃ z : sv_V, z = sv_I V16 146 11 x18 := ⟨_, rfl⟩
  have h := sx_letE hV19 h
  refine sv_putI (pc := 28) hG dX12_head_28 f_12_271 lay_146 rfl hV19 ?_
  refine sx_aload_n (pc := 31) dX12_head_31 sx_m1 ?_
  refine sx_ldc (pc := 32) dX12_head_32 k_X12_234 ?_
  obtain ⟨⟨x22, V20⟩, g21, h⟩ := sx_bnd h
  refine sv_cV (pc := 34) (y := qX12_lengthOf) (o := (some (.int x22))) (as := [.int (1751474532 : Int32)]) (V1 := V20) hG dX12_head_34 l_X12_257 y0X12_lengthOf yvX12_lengthOf rfl (Nat.le_of_ble_eq_true rfl) lay_146 kr_12 (by decide) (Nat.le_of_ble_eq_true rfl) rfl rfl rfl (t_X12_lengthOf hG ⟨rfl, rfl⟩ g21) ?_
  refine sx_bipush (pc := 37) (v := 54) dX12_head_37 (by decide) ?_
  refine sx_icmp_ne (pc := 39) (tgt := 114) dX12_head_39 (by decide) (fun c23 => ?_) (fun c23 => ?_)
  · have h := sx_neg c23 h
    refine sx_wk (sx_s1 sx_m1 (sx_s1 sx_m0 sx_s0)) ?_
    exact tB_X12_head_114 hG hP  h
  · have h := sx_pos c23 h
    refine sx_aload_n (pc := 42) dX12_head_42 sx_m1 ?_
    refine sx_iload_n (pc := 43) dX12_head_43 sx_m0 ?_
    obtain ⟨⟨x26, V24⟩, g25, h⟩ := sx_bnd h
    refine sv_cV (pc := 44) (y := qX12_u4) (o := (some (.long x26))) (as := [.int x11]) (V1 := V24) hG dX12_head_44 l_X12_297 y0X12_u4 yvX12_u4 rfl (Nat.le_of_ble_eq_true rfl) lay_146 kr_12 (by decide) (Nat.le_of_ble_eq_true rfl) rfl rfl rfl (t_X12_u4 hG ⟨rfl, rfl⟩ g25) ?_
    refine sx_ldc2 (pc := 47) dX12_head_47 k_X12_300 ?_
    refine sx_lcmp (pc := 50) dX12_head_50 ?_
    refine sx_if_ne (pc := 51) (tgt := 114) dX12_head_51 (by decide) (fun c27 => ?_) (fun c27 => ?_)
    · have h := sx_neg c27 h
      refine sx_wk (sx_s1 sx_m1 (sx_s1 sx_m0 sx_s0)) ?_
      exact tB_X12_head_114 hG hP  h
    · have h := sx_pos c27 h
      refine sx_aload_n (pc := 54) dX12_head_54 sx_m1 ?_
      refine sx_iload_n (pc := 55) dX12_head_55 sx_m0 ?_
      refine sx_bipush (pc := 56) (v := 12) dX12_head_56 (by decide) ?_
      refine sx_iadd (pc := 58) dX12_head_58 ?_
      obtain ⟨⟨x30, V28⟩, g29, h⟩ := sx_bnd h
      refine sv_cV (pc := 59) (y := qX12_u4) (o := (some (.long x30))) (as := [.int (x11 + (12 : Int32))]) (V1 := V28) hG dX12_head_59 l_X12_297 y0X12_u4 yvX12_u4 rfl (Nat.le_of_ble_eq_true rfl) lay_146 kr_12 (by decide) (Nat.le_of_ble_eq_true rfl) rfl rfl rfl (t_X12_u4 hG ⟨rfl, rfl⟩ g29) ?_
      refine sx_ldc2 (pc := 62) dX12_head_62 k_X12_308 ?_
      refine sx_lcmp (pc := 65) dX12_head_65 ?_
      refine sx_if_ne (pc := 66) (tgt := 114) dX12_head_66 (by decide) (fun c31 => ?_) (fun c31 => ?_)
      · have h := sx_neg c31 h
        refine sx_wk (sx_s1 sx_m1 (sx_s1 sx_m0 sx_s0)) ?_
        exact tB_X12_head_114 hG hP  h
      · have h := sx_pos c31 h
        refine sx_aload_n (pc := 69) dX12_head_69 sx_m1 ?_
        refine sv_getI (pc := 70) hG dX12_head_70 f_12_302 lay_146 rfl ?_
        refine sx_i2l (pc := 73) dX12_head_73 ?_
        refine sx_ldc2 (pc := 74) dX12_head_74 k_X12_232 ?_
        refine sx_ldc2 (pc := 77) dX12_head_77 k_X12_310 ?_
        obtain ⟨⟨x34, V32⟩, g33, h⟩ := sx_bnd h
        refine sv_cS (pc := 80) (y := qX12_in) (o := (some (.int x34))) (as := [.long ((V28.1 146 10).toInt64), .long (16 : Int64), .long (16384 : Int64)]) (V1 := V32) dX12_head_80 l_X12_263 y0X12_in ysX12_in rfl (Nat.le_of_ble_eq_true rfl) (by decide) (Nat.le_of_ble_eq_true rfl) rfl rfl rfl (t_X12_in hG ⟨rfl, rfl⟩ g33) ?_
        refine sx_if_eq (pc := 83) (tgt := 114) dX12_head_83 (by decide) (fun c35 => ?_) (fun c35 => ?_)
        · have h := sx_pos c35 h
          refine sx_wk (sx_s1 sx_m1 (sx_s1 sx_m0 sx_s0)) ?_
          exact tB_X12_head_114 hG hP  h
        · have h := sx_neg c35 h
          refine sx_aload_n (pc := 86) dX12_head_86 sx_m1 ?_
          refine sv_getI (pc := 87) hG dX12_head_87 f_12_271 lay_146 rfl ?_
          refine sx_i2l (pc := 90) dX12_head_90 ?_
          refine sx_lconst (pc := 91) (v := 0) dX12_head_91 rfl ?_
          refine sx_lconst (pc := 92) (v := 1) dX12_head_92 rfl ?_
          obtain ⟨⟨x38, V36⟩, g37, h⟩ := sx_bnd h
          refine sv_cS (pc := 93) (y := qX12_in) (o := (some (.int x38))) (as := [.long ((V32.1 146 11).toInt64), .long (0 : Int64), .long (1 : Int64)]) (V1 := V36) dX12_head_93 l_X12_263 y0X12_in ysX12_in rfl (Nat.le_of_ble_eq_true rfl) (by decide) (Nat.le_of_ble_eq_true rfl) rfl rfl rfl (t_X12_in hG ⟨rfl, rfl⟩ g37) ?_
          refine sx_if_eq (pc := 96) (tgt := 114) dX12_head_96 (by decide) (fun c39 => ?_) (fun c39 => ?_)
          · have h := sx_pos c39 h
            refine sx_wk (sx_s1 sx_m1 (sx_s1 sx_m0 sx_s0)) ?_
            exact tB_X12_head_114 hG hP  h
          · have h := sx_neg c39 h
            refine sx_aload_n (pc := 99) dX12_head_99 sx_m1 ?_
            refine sx_iload_n (pc := 100) dX12_head_100 sx_m0 ?_
            refine sx_bipush (pc := 101) (v := 52) dX12_head_101 (by decide) ?_
            refine sx_iadd (pc := 103) dX12_head_103 ?_
            obtain ⟨⟨x42, V40⟩, g41, h⟩ := sx_bnd h
            refine sv_cV (pc := 104) (y := qX12_s2) (o := (some (.int x42))) (as := [.int (x11 + (52 : Int32))]) (V1 := V40) hG dX12_head_104 l_X12_305 y0X12_s2 yvX12_s2 rfl (Nat.le_of_ble_eq_true rfl) lay_146 kr_12 (by decide) (Nat.le_of_ble_eq_true rfl) rfl rfl rfl (t_X12_s2 hG ⟨rfl, rfl⟩ g41) ?_
            refine sx_if_ne (pc := 107) (tgt := 114) dX12_head_107 (by decide) (fun c43 => ?_) (fun c43 => ?_)
            · have h := sx_neg c43 h
              refine sx_wk (sx_s1 sx_m1 (sx_s1 sx_m0 sx_s0)) ?_
              exact tB_X12_head_114 hG hP  h
            · have h := sx_pos c43 h
              refine sx_iconst (pc := 110) (v := 1) dX12_head_110 (by decide) ?_
              refine sx_goto (pc := 111) (tgt := 115) dX12_head_111 (by decide) ?_
              refine sx_wk (sx_s1 sx_m1 (sx_s1 sx_m0 sx_s0)) ?_
              exact tB_X12_head_115 hG hP  h
