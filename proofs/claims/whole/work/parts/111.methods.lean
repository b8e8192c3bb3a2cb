/-! methods: X5_shiftContour, X5_shiftByPixels, X5_interpolate, X5_alignToReference, X5_plant, X5_moveFromReference, X5_applyDelta, X6_append, X6_match, X8_clearTo, X8_liesWithin, X9_goAlong, X9_findWay, X10_traceContour -/
theorem dX5_shiftContour_0 : decode cX5_shiftContour 0 = .ok (.aload_n 0, 1) := by decide +kernel
theorem dX5_shiftContour_1 : decode cX5_shiftContour 1 = .ok (.invokevirtual 242, 3) := by decide +kernel
theorem dX5_shiftContour_4 : decode cX5_shiftContour 4 = .ok (.istore 4, 2) := by decide +kernel
theorem dX5_shiftContour_6 : decode cX5_shiftContour 6 = .ok (.aload_n 0, 1) := by decide +kernel
theorem dX5_shiftContour_7 : decode cX5_shiftContour 7 = .ok (.getfield 12, 3) := by decide +kernel
theorem dX5_shiftContour_10 : decode cX5_shiftContour 10 = .ok (.getfield 172, 3) := by decide +kernel
theorem dX5_shiftContour_13 : decode cX5_shiftContour 13 = .ok (.iconst 2, 1) := by decide +kernel
theorem dX5_shiftContour_14 : decode cX5_shiftContour 14 = .ok (.iaload, 1) := by decide +kernel
theorem dX5_shiftContour_15 : decode cX5_shiftContour 15 = .ok (.iconst 1, 1) := by decide +kernel
theorem dX5_shiftContour_16 : decode cX5_shiftContour 16 = .ok (.if_icmp .ne 20, 3) := by decide +kernel
theorem dX5_shiftContour_19 : decode cX5_shiftContour 19 = .ok (.iload 4, 2) := by decide +kernel
theorem dX5_shiftContour_21 : decode cX5_shiftContour 21 = .ok (.ifCond .lt 15, 3) := by decide +kernel
theorem dX5_shiftContour_24 : decode cX5_shiftContour 24 = .ok (.iload 4, 2) := by decide +kernel
theorem dX5_shiftContour_26 : decode cX5_shiftContour 26 = .ok (.aload_n 0, 1) := by decide +kernel
theorem dX5_shiftContour_27 : decode cX5_shiftContour 27 = .ok (.getfield 38, 3) := by decide +kernel
theorem dX5_shiftContour_30 : decode cX5_shiftContour 30 = .ok (.getfield 480, 3) := by decide +kernel
theorem dX5_shiftContour_33 : decode cX5_shiftContour 33 = .ok (.if_icmp .lt 9, 3) := by decide +kernel
theorem dX5_shiftContour_36 : decode cX5_shiftContour 36 = .ok (.aload_n 0, 1) := by decide +kernel
theorem dX5_shiftContour_37 : decode cX5_shiftContour 37 = .ok (.iconst 5, 1) := by decide +kernel
theorem dX5_shiftContour_38 : decode cX5_shiftContour 38 = .ok (.putfield 56, 3) := by decide +kernel
theorem dX5_shiftContour_41 : decode cX5_shiftContour 41 = .ok (.return_, 1) := by decide +kernel
theorem dX5_shiftContour_42 : decode cX5_shiftContour 42 = .ok (.aload_n 0, 1) := by decide +kernel
theorem dX5_shiftContour_43 : decode cX5_shiftContour 43 = .ok (.getfield 38, 3) := by decide +kernel
theorem dX5_shiftContour_46 : decode cX5_shiftContour 46 = .ok (.iload 4, 2) := by decide +kernel
theorem dX5_shiftContour_48 : decode cX5_shiftContour 48 = .ok (.invokevirtual 483, 3) := by decide +kernel
theorem dX5_shiftContour_51 : decode cX5_shiftContour 51 = .ok (.istore 5, 2) := by decide +kernel
theorem dX5_shiftContour_53 : decode cX5_shiftContour 53 = .ok (.iload 5, 2) := by decide +kernel
theorem dX5_shiftContour_55 : decode cX5_shiftContour 55 = .ok (.aload_n 0, 1) := by decide +kernel
theorem dX5_shiftContour_56 : decode cX5_shiftContour 56 = .ok (.getfield 38, 3) := by decide +kernel
theorem dX5_shiftContour_59 : decode cX5_shiftContour 59 = .ok (.getfield 486, 3) := by decide +kernel
theorem dX5_shiftContour_62 : decode cX5_shiftContour 62 = .ok (.iload 4, 2) := by decide +kernel
theorem dX5_shiftContour_64 : decode cX5_shiftContour 64 = .ok (.iaload, 1) := by decide +kernel
theorem dX5_shiftContour_65 : decode cX5_shiftContour 65 = .ok (.if_icmp .gt 26, 3) := by decide +kernel
theorem dX5_shiftContour_68 : decode cX5_shiftContour 68 = .ok (.iload 5, 2) := by decide +kernel
theorem dX5_shiftContour_70 : decode cX5_shiftContour 70 = .ok (.iload_n 3, 1) := by decide +kernel
theorem dX5_shiftContour_71 : decode cX5_shiftContour 71 = .ok (.if_icmp .eq 14, 3) := by decide +kernel
theorem dX5_shiftContour_74 : decode cX5_shiftContour 74 = .ok (.aload_n 0, 1) := by decide +kernel
theorem dX5_shiftContour_75 : decode cX5_shiftContour 75 = .ok (.aload_n 0, 1) := by decide +kernel
theorem dX5_shiftContour_76 : decode cX5_shiftContour 76 = .ok (.getfield 38, 3) := by decide +kernel
theorem dX5_shiftContour_79 : decode cX5_shiftContour 79 = .ok (.iload 5, 2) := by decide +kernel
theorem dX5_shiftContour_81 : decode cX5_shiftContour 81 = .ok (.lload_n 1, 1) := by decide +kernel
theorem dX5_shiftContour_82 : decode cX5_shiftContour 82 = .ok (.invokevirtual 461, 3) := by decide +kernel
theorem dX5_shiftContour_85 : decode cX5_shiftContour 85 = .ok (.iinc 5 1, 3) := by decide +kernel
theorem dX5_shiftContour_88 : decode cX5_shiftContour 88 = .ok (.goto (-35), 3) := by decide +kernel
theorem dX5_shiftContour_91 : decode cX5_shiftContour 91 = .ok (.return_, 1) := by decide +kernel
def B_X5_shiftContour_85 (N : Nat) (k53 : Int64 → Int32 → Int32 → Int32 → sv_V → Option sv_V) (l1 : Int64) (l3 : Int32) (l4 : Int32) (l5 : Int32) (V : sv_V) : Option sv_V := sx_let (l5 + 1) (fun x1 => k53 l1 l3 l4 x1 V)
set_option maxRecDepth 20000 in
theorem tB_X5_shiftContour_85 {g : sx_G} (hG : sx_Go g) {P : Option Value → sv_V → Prop} {Vr : sv_V} (hP : P none Vr) {N : Nat} {k53 : Int64 → Int32 → Int32 → Int32 → sv_V → Option sv_V} (hk53 : ∀ (l1 : Int64) (l3 : Int32) (l4 : Int32) (l5 : Int32) (V : sv_V), k53 l1 l3 l4 l5 V = some Vr → sv_N g qX5_shiftContour 2 53 [(0, .ref 69), (1, .long l1), (3, .int l3), (4, .int l4), (5, .int l5)] [] V P) {l1 : Int64} {l3 : Int32} {l4 : Int32} {l5 : Int32} {V : sv_V} (h : B_X5_shiftContour_85 N k53 l1 l3 l4 l5 V = some Vr) : sv_N g qX5_shiftContour 2 85 [(0, .ref 69), (1, .long l1), (3, .int l3), (4, .int l4), (5, .int l5)] [] V P := by
  unfold B_X5_shiftContour_85 at h
  obtain ⟨x1, hx1⟩ : ∃ z : Int32, z = l5 + 1 := ⟨_, rfl⟩
  have h := sx_letE hx1 h
  refine sx_iinc (pc := 85) (v := x1) (lo' := [(5, .int x1), (0, .ref 69), (1, .long l1), (3, .int l3), (4, .int l4)]) dX5_shiftContour_85 sx_m4 (by rw [hx1]; rfl) (by decide) rfl ?_
  refine sx_goto (pc := 88) (tgt := 53) dX5_shiftContour_88 (by decide) ?_
  refine sx_wk (sx_s1 sx_m1 (sx_s1 sx_m2 (sx_s1 sx_m3 (sx_s1 sx_m4 (sx_s1 sx_m0 sx_s0))))) ?_
  exact hk53 _ _ _ _ _ h
def B_X5_shiftContour_53 (N : Nat) (k53 : Int64 → Int32 → Int32 → Int32 → sv_V → Option sv_V) (l1 : Int64) (l3 : Int32) (l4 : Int32) (l5 : Int32) (V : sv_V) : Option sv_V := (V.2.2 69 7).bind (fun b2 => if lay b2 = .inl 8 then (cr b2 6).bind (fun b5 => (sv_len 0 b5).bind (fun n7 => if sx_in l4 n7 = true then if (V.1 b5 l4.toNatClampNeg) < l5 then (some V) else (if l5 = l3 then (B_X5_shiftContour_85 N k53 l1 l3 l4 l5 V) else ((V.2.2 69 7).bind (fun b12 => (F_X5_move b12 l5 l1 V).bind (fun V14 => B_X5_shiftContour_85 N k53 l1 l3 l4 l5 V14)))) else none)) else none)
set_option maxRecDepth 20000 in
theorem tB_X5_shiftContour_53 {g : sx_G} (hG : sx_Go g) {P : Option Value → sv_V → Prop} {Vr : sv_V} (hP : P none Vr) {N : Nat} {k53 : Int64 → Int32 → Int32 → Int32 → sv_V → Option sv_V} (hk53 : ∀ (l1 : Int64) (l3 : Int32) (l4 : Int32) (l5 : Int32) (V : sv_V), k53 l1 l3 l4 l5 V = some Vr → sv_N g qX5_shiftContour 2 53 [(0, .ref 69), (1, .long l1), (3, .int l3), (4, .int l4), (5, .int l5)] [] V P) {l1 : Int64} {l3 : Int32} {l4 : Int32} {l5 : Int32} {V : sv_V} (h : B_X5_shiftContour_53 N k53 l1 l3 l4 l5 V = some Vr) : sv_N g qX5_shiftContour 2 53 [(0, .ref 69), (1, .long l1), (3, .int l3), (4, .int l4), (5, .int l5)] [] V P := by
  unfold B_X5_shiftContour_53 at h
  refine sx_iload (pc := 53) dX5_shiftContour_53 sx_m4 ?_
  refine sx_aload_n (pc := 55) dX5_shiftContour_55 sx_m0 ?_
  obtain ⟨b2, g3, h⟩ := sx_bnd h
  refine sv_getV (pc := 56) hG dX5_shiftContour_56 f_5_38 lay_69 rfl rfl g3 ?_
  obtain ⟨g4, h⟩ := sx_grd h
  obtain ⟨b5, g6, h⟩ := sx_bnd h
  refine sv_getA (pc := 59) hG dX5_shiftContour_59 f_5_486 g4 rfl g6 ?_
  refine sx_iload (pc := 62) dX5_shiftContour_62 sx_m3 ?_
  obtain ⟨n7, g8, h⟩ := sx_bnd h
  obtain ⟨g9, h⟩ := sx_grd h
  refine sv_iald (pc := 64) hG dX5_shiftContour_64 (sv_len_e g8) g9 ?_
  refine sx_icmp_gt (pc := 65) (tgt := 91) dX5_shiftContour_65 (by decide) (fun c10 => ?_) (fun c10 => ?_)
  · have h := sx_pos c10 h
    exact sv_vret (pc := 91) dX5_shiftContour_91 rfl h hP
  · have h := sx_neg c10 h
    refine sx_iload (pc := 68) dX5_shiftContour_68 sx_m4 ?_
    refine sx_iload_n (pc := 70) dX5_shiftContour_70 sx_m2 ?_
    refine sx_icmp_eq (pc := 71) (tgt := 85) dX5_shiftContour_71 (by decide) (fun c11 => ?_) (fun c11 => ?_)
    · have h := sx_pos c11 h
      refine sx_wk (sx_s1 sx_m0 (sx_s1 sx_m1 (sx_s1 sx_m2 (sx_s1 sx_m3 (sx_s1 sx_m4 sx_s0))))) ?_
      exact tB_X5_shiftContour_85 hG hP hk53 h
    · have h := sx_neg c11 h
      refine sx_aload_n (pc := 74) dX5_shiftContour_74 sx_m0 ?_
      refine sx_aload_n (pc := 75) dX5_shiftContour_75 sx_m0 ?_
      obtain ⟨b12, g13, h⟩ := sx_bnd h
      refine sv_getV (pc := 76) hG dX5_shiftContour_76 f_5_38 lay_69 rfl rfl g13 ?_
      refine sx_iload (pc := 79) dX5_shiftContour_79 sx_m4 ?_
      refine sx_lload_n (pc := 81) dX5_shiftContour_81 sx_m1 ?_
      obtain ⟨V14, g15, h⟩ := sx_bnd h
      refine sv_cV (pc := 82) (y := qX5_move) (o := none) (as := [.ref b12, .int l5, .long l1]) (V1 := V14) hG dX5_shiftContour_82 l_X5_461 y0X5_move yvX5_move rfl (Nat.le_of_ble_eq_true rfl) lay_69 kr_5 (by decide) (Nat.le_of_ble_eq_true rfl) rfl rfl rfl (t_X5_move hG ⟨rfl, rfl⟩ g15) ?_
      refine sx_wk (sx_s1 sx_m0 (sx_s1 sx_m1 (sx_s1 sx_m2 (sx_s1 sx_m3 (sx_s1 sx_m4 sx_s0))))) ?_
      exact tB_X5_shiftContour_85 hG hP hk53 h
theorem tL_X5_shiftContour_53 {g : sx_G} (hG : sx_Go g) {P : Option Value → sv_V → Prop} {Vr : sv_V} (hP : P none Vr) {N : Nat}   : ∀ (n : Nat) (l1 : Int64) (l3 : Int32) (l4 : Int32) (l5 : Int32) (V : sv_V), sx_lp5 (B_X5_shiftContour_53 N ) n l1 l3 l4 l5 V = some Vr → sv_N g qX5_shiftContour 2 53 [(0, .ref 69), (1, .long l1), (3, .int l3), (4, .int l4), (5, .int l5)] [] V P :=
  sx_lp5_ind (fun k0 ih _ _ _ _ V h => tB_X5_shiftContour_53 hG hP ih h)
def F_X5_shiftContour (N : Nat) (l1 : Int64) (l3 : Int32) (V : sv_V) : Option sv_V := (F_X5_pop  V).bind (fun (x18, V16) => if (V16.1 72 (2 : Int32).toNatClampNeg) = (1 : Int32) then (if x18 < 0 then (sx_let (sv_I V16 69 14 (5 : Int32)) (fun V22 => some V22)) else ((V16.2.2 69 7).bind (fun b23 => if lay b23 = .inl 8 then if x18 < (V16.1 b23 10) then ((V16.2.2 69 7).bind (fun b27 => (F_X8_firstOf b27 x18 V16).bind (fun (x31, V29) => if lay b27 = .inl 8 then sx_lp5 (B_X5_shiftContour_53 N ) N l1 l3 x18 x31 V29 else none))) else (sx_let (sv_I V16 69 14 (5 : Int32)) (fun V33 => some V33)) else none))) else (sx_let (sv_I V16 69 14 (5 : Int32)) (fun V20 => some V20)))
set_option maxRecDepth 20000 in
theorem t_X5_shiftContour {g : sx_G} (hG : sx_Go g) {P : Option Value → sv_V → Prop} {Vr : sv_V} (hP : P none Vr) {N : Nat} {l1 : Int64} {l3 : Int32} {V : sv_V} (h : F_X5_shiftContour N l1 l3 V = some Vr) : sv_N g qX5_shiftContour 2 0 [(0, .ref 69), (1, .long l1), (3, .int l3)] [] V P := by
  unfold F_X5_shiftContour at h
  refine sx_aload_n (pc := 0) dX5_shiftContour_0 sx_m0 ?_
  obtain ⟨⟨x18, V16⟩, g17, h⟩ := sx_bnd h
  refine sv_cV (pc := 1) (y := qX5_pop) (o := (some (.int x18))) (as := []) (V1 := V16) hG dX5_shiftContour_1 l_X5_242 y0X5_pop yvX5_pop rfl (Nat.le_of_ble_eq_true rfl) lay_69 kr_5 (by decide) (Nat.le_of_ble_eq_true rfl) rfl rfl rfl (t_X5_pop hG ⟨rfl, rfl⟩ g17) ?_
  refine sx_istore (pc := 4) (lo' := [(4, .int x18), (0, .ref 69), (1, .long l1), (3, .int l3)]) dX5_shiftContour_4 (by decide) rfl ?_
  refine sx_aload_n (pc := 6) dX5_shiftContour_6 sx_m1 ?_
  refine sv_getO (pc := 7) hG dX5_shiftContour_7 f_5_12 lay_69 rfl cr_69_1 ?_
  refine sv_getA (pc := 10) hG dX5_shiftContour_10 f_5_172 lay_70 rfl cr_70_7 ?_
  refine sx_iconst (pc := 13) (v := 2) dX5_shiftContour_13 (by decide) ?_
  refine sv_iald (pc := 14) hG dX5_shiftContour_14 lay_72 (by decide) ?_
  refine sx_iconst (pc := 15) (v := 1) dX5_shiftContour_15 (by decide) ?_
  refine sx_icmp_ne (pc := 16) (tgt := 36) dX5_shiftContour_16 (by decide) (fun c19 => ?_) (fun c19 => ?_)
  · have h := sx_neg c19 h
    refine sx_aload_n (pc := 36) dX5_shiftContour_36 sx_m1 ?_
    refine sx_iconst (pc := 37) (v := 5) dX5_shiftContour_37 (by decide) ?_
    obtain ⟨V20, hV20⟩ : ∃ z : sv_V, z = sv_I V16 69 14 (5 : Int32) := ⟨_, rfl⟩
    have h := sx_letE hV20 h
    refine sv_putI (pc := 38) hG dX5_shiftContour_38 f_5_56 lay_69 rfl hV20 ?_
    exact sv_vret (pc := 41) dX5_shiftContour_41 rfl h hP
  · have h := sx_pos c19 h
    refine sx_iload (pc := 19) dX5_shiftContour_19 sx_m0 ?_
    refine sx_if_lt (pc := 21) (tgt := 36) dX5_shiftContour_21 (by decide) (fun c21 => ?_) (fun c21 => ?_)
    · have h := sx_pos c21 h
      refine sx_aload_n (pc := 36) dX5_shiftContour_36 sx_m1 ?_
      refine sx_iconst (pc := 37) (v := 5) dX5_shiftContour_37 (by decide) ?_
      obtain ⟨V22, hV22⟩ : ∃ z : sv_V, z = sv_I V16 69 14 (5 : Int32) := ⟨_, rfl⟩
      have h := sx_letE hV22 h
      refine sv_putI (pc := 38) hG dX5_shiftContour_38 f_5_56 lay_69 rfl hV22 ?_
      exact sv_vret (pc := 41) dX5_shiftContour_41 rfl h hP
    · have h := sx_neg c21 h
      refine sx_iload (pc := 24) dX5_shiftContour_24 sx_m0 ?_
      refine sx_aload_n (pc := 26) dX5_shiftContour_26 sx_m1 ?_
      obtain ⟨b23, g24, h⟩ := sx_bnd h
      refine sv_getV (pc := 27) hG dX5_shiftContour_27 f_5_38 lay_69 rfl rfl g24 ?_
      obtain ⟨g25, h⟩ := sx_grd h
      refine sv_getI (pc := 30) hG dX5_shiftContour_30 f_5_480 g25 rfl ?_
      refine sx_icmp_lt (pc := 33) (tgt := 42) dX5_shiftContour_33 (by decide) (fun c26 => ?_) (fun c26 => ?_)
      · have h := sx_pos c26 h
        refine sx_aload_n (pc := 42) dX5_shiftContour_42 sx_m1 ?_
        obtain ⟨b27, g28, h⟩ := sx_bnd h
        refine sv_getV (pc := 43) hG dX5_shiftContour_43 f_5_38 lay_69 rfl rfl g28 ?_
        refine sx_iload (pc := 46) dX5_shiftContour_46 sx_m0 ?_
        obtain ⟨⟨x31, V29⟩, g30, h⟩ := sx_bnd h
        obtain ⟨g32, h⟩ := sx_grd h
        refine sv_cV (pc := 48) (y := qX8_firstOf) (o := (some (.int x31))) (as := [.int x18]) (V1 := V29) hG dX5_shiftContour_48 l_X5_483 y0X8_firstOf yvX8_firstOf rfl (Nat.le_of_ble_eq_true rfl) g32 kr_8 (by decide) (Nat.le_of_ble_eq_true rfl) rfl rfl rfl (t_X8_firstOf hG ⟨rfl, rfl⟩ g30) ?_
        refine sx_istore (pc := 51) (lo' := [(5, .int x31), (4, .int x18), (0, .ref 69), (1, .long l1), (3, .int l3)]) dX5_shiftContour_51 (by decide) rfl ?_
        refine sx_wk (sx_s1 sx_m2 (sx_s1 sx_m3 (sx_s1 sx_m4 (sx_s1 sx_m1 (sx_s1 sx_m0 sx_s0))))) ?_
        exact tL_X5_shiftContour_53 hG hP  N _ _ _ _ _ h
      · have h := sx_neg c26 h
        refine sx_aload_n (pc := 36) dX5_shiftContour_36 sx_m1 ?_
        refine sx_iconst (pc := 37) (v := 5) dX5_shiftContour_37 (by decide) ?_
        obtain ⟨V33, hV33⟩ : ∃ z : sv_V, z = sv_I V16 69 14 (5 : Int32) := ⟨_, rfl⟩
        have h := sx_letE hV33 h
        refine sv_putI (pc := 38) hG dX5_shiftContour_38 f_5_56 lay_69 rfl hV33 ?_
        exact sv_vret (pc := 41) dX5_shiftContour_41 rfl h hP
theorem dX5_shiftByPixels_0 : decode cX5_shiftByPixels 0 = .ok (.aload_n 0, 1) := by decide +kernel
theorem dX5_shiftByPixels_1 : decode cX5_shiftByPixels 1 = .ok (.invokevirtual 242, 3) := by decide +kernel
theorem dX5_shiftByPixels_4 : decode cX5_shiftByPixels 4 = .ok (.i2l, 1) := by decide +kernel
theorem dX5_shiftByPixels_5 : decode cX5_shiftByPixels 5 = .ok (.lstore_n 1, 1) := by decide +kernel
theorem dX5_shiftByPixels_6 : decode cX5_shiftByPixels 6 = .ok (.aload_n 0, 1) := by decide +kernel
theorem dX5_shiftByPixels_7 : decode cX5_shiftByPixels 7 = .ok (.iconst 2, 1) := by decide +kernel
theorem dX5_shiftByPixels_8 : decode cX5_shiftByPixels 8 = .ok (.invokevirtual 255, 3) := by decide +kernel
theorem dX5_shiftByPixels_11 : decode cX5_shiftByPixels 11 = .ok (.astore_n 3, 1) := by decide +kernel
theorem dX5_shiftByPixels_12 : decode cX5_shiftByPixels 12 = .ok (.iconst 0, 1) := by decide +kernel
theorem dX5_shiftByPixels_13 : decode cX5_shiftByPixels 13 = .ok (.istore 4, 2) := by decide +kernel
theorem dX5_shiftByPixels_15 : decode cX5_shiftByPixels 15 = .ok (.iload 4, 2) := by decide +kernel
theorem dX5_shiftByPixels_17 : decode cX5_shiftByPixels 17 = .ok (.aload_n 0, 1) := by decide +kernel
theorem dX5_shiftByPixels_18 : decode cX5_shiftByPixels 18 = .ok (.getfield 12, 3) := by decide +kernel
theorem dX5_shiftByPixels_21 : decode cX5_shiftByPixels 21 = .ok (.getfield 163, 3) := by decide +kernel
theorem dX5_shiftByPixels_24 : decode cX5_shiftByPixels 24 = .ok (.if_icmp .ge 94, 3) := by decide +kernel
theorem dX5_shiftByPixels_27 : decode cX5_shiftByPixels 27 = .ok (.aload_n 0, 1) := by decide +kernel
theorem dX5_shiftByPixels_28 : decode cX5_shiftByPixels 28 = .ok (.invokevirtual 242, 3) := by decide +kernel
theorem dX5_shiftByPixels_31 : decode cX5_shiftByPixels 31 = .ok (.istore 5, 2) := by decide +kernel
theorem dX5_shiftByPixels_33 : decode cX5_shiftByPixels 33 = .ok (.aload_n 0, 1) := by decide +kernel
theorem dX5_shiftByPixels_34 : decode cX5_shiftByPixels 34 = .ok (.aload_n 3, 1) := by decide +kernel
theorem dX5_shiftByPixels_35 : decode cX5_shiftByPixels 35 = .ok (.iload 5, 2) := by decide +kernel
theorem dX5_shiftByPixels_37 : decode cX5_shiftByPixels 37 = .ok (.invokevirtual 259, 3) := by decide +kernel
theorem dX5_shiftByPixels_40 : decode cX5_shiftByPixels 40 = .ok (.ifCond .ne 4, 3) := by decide +kernel
theorem dX5_shiftByPixels_43 : decode cX5_shiftByPixels 43 = .ok (.return_, 1) := by decide +kernel
theorem dX5_shiftByPixels_44 : decode cX5_shiftByPixels 44 = .ok (.aload_n 3, 1) := by decide +kernel
theorem dX5_shiftByPixels_45 : decode cX5_shiftByPixels 45 = .ok (.getfield 198, 3) := by decide +kernel
theorem dX5_shiftByPixels_48 : decode cX5_shiftByPixels 48 = .ok (.iload 5, 2) := by decide +kernel
theorem dX5_shiftByPixels_50 : decode cX5_shiftByPixels 50 = .ok (.dup2, 1) := by decide +kernel
theorem dX5_shiftByPixels_51 : decode cX5_shiftByPixels 51 = .ok (.iaload, 1) := by decide +kernel
theorem dX5_shiftByPixels_52 : decode cX5_shiftByPixels 52 = .ok (.lload_n 1, 1) := by decide +kernel
theorem dX5_shiftByPixels_53 : decode cX5_shiftByPixels 53 = .ok (.aload_n 0, 1) := by decide +kernel
theorem dX5_shiftByPixels_54 : decode cX5_shiftByPixels 54 = .ok (.getfield 12, 3) := by decide +kernel
theorem dX5_shiftByPixels_57 : decode cX5_shiftByPixels 57 = .ok (.getfield 210, 3) := by decide +kernel
theorem dX5_shiftByPixels_60 : decode cX5_shiftByPixels 60 = .ok (.i2l, 1) := by decide +kernel
theorem dX5_shiftByPixels_61 : decode cX5_shiftByPixels 61 = .ok (.lmul, 1) := by decide +kernel
theorem dX5_shiftByPixels_62 : decode cX5_shiftByPixels 62 = .ok (.ldc2_w 190, 3) := by decide +kernel
theorem dX5_shiftByPixels_65 : decode cX5_shiftByPixels 65 = .ok (.invokestatic 75, 3) := by decide +kernel
theorem dX5_shiftByPixels_68 : decode cX5_shiftByPixels 68 = .ok (.l2i, 1) := by decide +kernel
theorem dX5_shiftByPixels_69 : decode cX5_shiftByPixels 69 = .ok (.iadd, 1) := by decide +kernel
theorem dX5_shiftByPixels_70 : decode cX5_shiftByPixels 70 = .ok (.iastore, 1) := by decide +kernel
theorem dX5_shiftByPixels_71 : decode cX5_shiftByPixels 71 = .ok (.aload_n 3, 1) := by decide +kernel
theorem dX5_shiftByPixels_72 : decode cX5_shiftByPixels 72 = .ok (.getfield 201, 3) := by decide +kernel
theorem dX5_shiftByPixels_75 : decode cX5_shiftByPixels 75 = .ok (.iload 5, 2) := by decide +kernel
theorem dX5_shiftByPixels_77 : decode cX5_shiftByPixels 77 = .ok (.dup2, 1) := by decide +kernel
theorem dX5_shiftByPixels_78 : decode cX5_shiftByPixels 78 = .ok (.iaload, 1) := by decide +kernel
theorem dX5_shiftByPixels_79 : decode cX5_shiftByPixels 79 = .ok (.lload_n 1, 1) := by decide +kernel
theorem dX5_shiftByPixels_80 : decode cX5_shiftByPixels 80 = .ok (.aload_n 0, 1) := by decide +kernel
theorem dX5_shiftByPixels_81 : decode cX5_shiftByPixels 81 = .ok (.getfield 12, 3) := by decide +kernel
theorem dX5_shiftByPixels_84 : decode cX5_shiftByPixels 84 = .ok (.getfield 213, 3) := by decide +kernel
theorem dX5_shiftByPixels_87 : decode cX5_shiftByPixels 87 = .ok (.i2l, 1) := by decide +kernel
theorem dX5_shiftByPixels_88 : decode cX5_shiftByPixels 88 = .ok (.lmul, 1) := by decide +kernel
theorem dX5_shiftByPixels_89 : decode cX5_shiftByPixels 89 = .ok (.ldc2_w 190, 3) := by decide +kernel
theorem dX5_shiftByPixels_92 : decode cX5_shiftByPixels 92 = .ok (.invokestatic 75, 3) := by decide +kernel
theorem dX5_shiftByPixels_95 : decode cX5_shiftByPixels 95 = .ok (.l2i, 1) := by decide +kernel
theorem dX5_shiftByPixels_96 : decode cX5_shiftByPixels 96 = .ok (.iadd, 1) := by decide +kernel
theorem dX5_shiftByPixels_97 : decode cX5_shiftByPixels 97 = .ok (.iastore, 1) := by decide +kernel
theorem dX5_shiftByPixels_98 : decode cX5_shiftByPixels 98 = .ok (.aload_n 3, 1) := by decide +kernel
theorem dX5_shiftByPixels_99 : decode cX5_shiftByPixels 99 = .ok (.getfield 220, 3) := by decide +kernel
theorem dX5_shiftByPixels_102 : decode cX5_shiftByPixels 102 = .ok (.iload 5, 2) := by decide +kernel
theorem dX5_shiftByPixels_104 : decode cX5_shiftByPixels 104 = .ok (.dup2, 1) := by decide +kernel
theorem dX5_shiftByPixels_105 : decode cX5_shiftByPixels 105 = .ok (.iaload, 1) := by decide +kernel
theorem dX5_shiftByPixels_106 : decode cX5_shiftByPixels 106 = .ok (.aload_n 0, 1) := by decide +kernel
theorem dX5_shiftByPixels_107 : decode cX5_shiftByPixels 107 = .ok (.invokevirtual 223, 3) := by decide +kernel
theorem dX5_shiftByPixels_110 : decode cX5_shiftByPixels 110 = .ok (.ior, 1) := by decide +kernel
theorem dX5_shiftByPixels_111 : decode cX5_shiftByPixels 111 = .ok (.iastore, 1) := by decide +kernel
theorem dX5_shiftByPixels_112 : decode cX5_shiftByPixels 112 = .ok (.iinc 4 1, 3) := by decide +kernel
theorem dX5_shiftByPixels_115 : decode cX5_shiftByPixels 115 = .ok (.goto (-100), 3) := by decide +kernel
theorem dX5_shiftByPixels_118 : decode cX5_shiftByPixels 118 = .ok (.aload_n 0, 1) := by decide +kernel
theorem dX5_shiftByPixels_119 : decode cX5_shiftByPixels 119 = .ok (.getfield 12, 3) := by decide +kernel
theorem dX5_shiftByPixels_122 : decode cX5_shiftByPixels 122 = .ok (.iconst 1, 1) := by decide +kernel
theorem dX5_shiftByPixels_123 : decode cX5_shiftByPixels 123 = .ok (.putfield 163, 3) := by decide +kernel
theorem dX5_shiftByPixels_126 : decode cX5_shiftByPixels 126 = .ok (.return_, 1) := by decide +kernel
def B_X5_shiftByPixels_15 (N : Nat) (k15 : Int64 → Nat → Int32 → sv_V → Option sv_V) (l1 : Int64) (l3 : Nat) (l4 : Int32) (V : sv_V) : Option sv_V := if (V.1 70 8) ≤ l4 then (sx_let (sv_I V 70 8 (1 : Int32)) (fun V2 => some V2)) else ((F_X5_pop  V).bind (fun (x5, V3) => (F_X5_isThere l3 x5 V3).bind (fun (x8, V6) => if x8 = 0 then (some V6) else (if lay l3 = .inl 8 then (cr l3 0).bind (fun b11 => (sv_len 0 b11).bind (fun n13 => if sx_in x5 n13 = true then (F_X11_nearest (l1 * ((V6.1 70 0).toInt64)) (16384 : Int64) V6).bind (fun (x18, V16) => if sx_in x5 n13 = true then sx_let (sv_I V16 b11 x5.toNatClampNeg ((V6.1 b11 x5.toNatClampNeg) + x18.toInt32)) (fun V20 => (cr l3 1).bind (fun b21 => (sv_len 0 b21).bind (fun n23 => if sx_in x5 n23 = true then (F_X11_nearest (l1 * ((V20.1 70 1).toInt64)) (16384 : Int64) V20).bind (fun (x28, V26) => if sx_in x5 n23 = true then sx_let (sv_I V26 b21 x5.toNatClampNeg ((V20.1 b21 x5.toNatClampNeg) + x28.toInt32)) (fun V30 => (cr l3 4).bind (fun b31 => (sv_len 0 b31).bind (fun n33 => if sx_in x5 n33 = true then (F_X5_touchBits  V30).bind (fun (x38, V36) => if sx_in x5 n33 = true then sx_let (sv_I V36 b31 x5.toNatClampNeg ((V30.1 b31 x5.toNatClampNeg) ||| x38)) (fun V40 => sx_let (l4 + 1) (fun x41 => k15 l1 l3 x41 V40)) else none) else none))) else none) else none))) else none) else none)) else none))))
set_option maxRecDepth 20000 in
theorem tB_X5_shiftByPixels_15 {g : sx_G} (hG : sx_Go g) {P : Option Value → sv_V → Prop} {Vr : sv_V} (hP : P none Vr) {N : Nat} {k15 : Int64 → Nat → Int32 → sv_V → Option sv_V} (hk15 : ∀ (l1 : Int64) (l3 : Nat) (l4 : Int32) (V : sv_V), k15 l1 l3 l4 V = some Vr → sv_N g qX5_shiftByPixels 2 15 [(0, .ref 69), (1, .long l1), (3, .ref l3), (4, .int l4)] [] V P) {l1 : Int64} {l3 : Nat} {l4 : Int32} {V : sv_V} (h : B_X5_shiftByPixels_15 N k15 l1 l3 l4 V = some Vr) : sv_N g qX5_shiftByPixels 2 15 [(0, .ref 69), (1, .long l1), (3, .ref l3), (4, .int l4)] [] V P := by
  unfold B_X5_shiftByPixels_15 at h
  refine sx_iload (pc := 15) dX5_shiftByPixels_15 sx_m3 ?_
  refine sx_aload_n (pc := 17) dX5_shiftByPixels_17 sx_m0 ?_
  refine sv_getO (pc := 18) hG dX5_shiftByPixels_18 f_5_12 lay_69 rfl cr_69_1 ?_
  refine sv_getI (pc := 21) hG dX5_shiftByPixels_21 f_5_163 lay_70 rfl ?_
  refine sx_icmp_ge (pc := 24) (tgt := 118) dX5_shiftByPixels_24 (by decide) (fun c1 => ?_) (fun c1 => ?_)
  · have h := sx_pos c1 h
    refine sx_aload_n (pc := 118) dX5_shiftByPixels_118 sx_m0 ?_
    refine sv_getO (pc := 119) hG dX5_shiftByPixels_119 f_5_12 lay_69 rfl cr_69_1 ?_
    refine sx_iconst (pc := 122) (v := 1) dX5_shiftByPixels_122 (by decide) ?_
    obtain ⟨V2, hV2⟩ : ∃ z : sv_V, z = sv_I V 70 8 (1 : Int32) := ⟨_, rfl⟩
    have h := sx_letE hV2 h
    refine sv_putI (pc := 123) hG dX5_shiftByPixels_123 f_5_163 lay_70 rfl hV2 ?_
    exact sv_vret (pc := 126) dX5_shiftByPixels_126 rfl h hP
  · have h := sx_neg c1 h
    refine sx_aload_n (pc := 27) dX5_shiftByPixels_27 sx_m0 ?_
    obtain ⟨⟨x5, V3⟩, g4, h⟩ := sx_bnd h
    refine sv_cV (pc := 28) (y := qX5_pop) (o := (some (.int x5))) (as := []) (V1 := V3) hG dX5_shiftByPixels_28 l_X5_242 y0X5_pop yvX5_pop rfl (Nat.le_of_ble_eq_true rfl) lay_69 kr_5 (by decide) (Nat.le_of_ble_eq_true rfl) rfl rfl rfl (t_X5_pop hG ⟨rfl, rfl⟩ g4) ?_
    refine sx_istore (pc := 31) (lo' := [(5, .int x5), (0, .ref 69), (1, .long l1), (3, .ref l3), (4, .int l4)]) dX5_shiftByPixels_31 (by decide) rfl ?_
    refine sx_aload_n (pc := 33) dX5_shiftByPixels_33 sx_m1 ?_
    refine sx_aload_n (pc := 34) dX5_shiftByPixels_34 sx_m3 ?_
    refine sx_iload (pc := 35) dX5_shiftByPixels_35 sx_m0 ?_
    obtain ⟨⟨x8, V6⟩, g7, h⟩ := sx_bnd h
    refine sv_cV (pc := 37) (y := qX5_isThere) (o := (some (.int x8))) (as := [.ref l3, .int x5]) (V1 := V6) hG dX5_shiftByPixels_37 l_X5_259 y0X5_isThere yvX5_isThere rfl (Nat.le_of_ble_eq_true rfl) lay_69 kr_5 (by decide) (Nat.le_of_ble_eq_true rfl) rfl rfl rfl (t_X5_isThere hG ⟨rfl, rfl⟩ g7) ?_
    refine sx_if_ne (pc := 40) (tgt := 44) dX5_shiftByPixels_40 (by decide) (fun c9 => ?_) (fun c9 => ?_)
    · have h := sx_neg c9 h
      refine sx_aload_n (pc := 44) dX5_shiftByPixels_44 sx_m3 ?_
      obtain ⟨g10, h⟩ := sx_grd h
      obtain ⟨b11, g12, h⟩ := sx_bnd h
      refine sv_getA (pc := 45) hG dX5_shiftByPixels_45 f_5_198 g10 rfl g12 ?_
      refine sx_iload (pc := 48) dX5_shiftByPixels_48 sx_m0 ?_
      refine sx_dup2 (pc := 50) dX5_shiftByPixels_50 rfl rfl ?_
      obtain ⟨n13, g14, h⟩ := sx_bnd h
      obtain ⟨g15, h⟩ := sx_grd h
      refine sv_iald (pc := 51) hG dX5_shiftByPixels_51 (sv_len_e g14) g15 ?_
      refine sx_lload_n (pc := 52) dX5_shiftByPixels_52 sx_m2 ?_
      refine sx_aload_n (pc := 53) dX5_shiftByPixels_53 sx_m1 ?_
      refine sv_getO (pc := 54) hG dX5_shiftByPixels_54 f_5_12 lay_69 rfl cr_69_1 ?_
      refine sv_getI (pc := 57) hG dX5_shiftByPixels_57 f_5_210 lay_70 rfl ?_
      refine sx_i2l (pc := 60) dX5_shiftByPixels_60 ?_
      refine sx_lmul (pc := 61) dX5_shiftByPixels_61 ?_
      refine sx_ldc2 (pc := 62) dX5_shiftByPixels_62 k_X5_190 ?_
      obtain ⟨⟨x18, V16⟩, g17, h⟩ := sx_bnd h
      refine sv_cN (pc := 65) (y := qX11_nearest) (o := (some (.long x18))) (as := [.long (l1 * ((V6.1 70 0).toInt64)), .long (16384 : Int64)]) (V1 := V16) dX5_shiftByPixels_65 n_X5_75 y0X11_nearest ysX11_nearest rfl (Nat.le_of_ble_eq_true rfl) (by decide) (Nat.le_of_ble_eq_true rfl) rfl rfl rfl (t_X11_nearest hG ⟨rfl, rfl⟩ g17) ?_
      refine sx_l2i (pc := 68) dX5_shiftByPixels_68 ?_
      refine sx_iadd (pc := 69) dX5_shiftByPixels_69 ?_
      obtain ⟨g19, h⟩ := sx_grd h
      obtain ⟨V20, hV20⟩ : ∃ z : sv_V, z = sv_I V16 b11 x5.toNatClampNeg ((V6.1 b11 x5.toNatClampNeg) + x18.toInt32) := ⟨_, rfl⟩
      have h := sx_letE hV20 h
      refine sv_iast (pc := 70) hG dX5_shiftByPixels_70 (sv_len_e g14) g19 hV20 ?_
      refine sx_aload_n (pc := 71) dX5_shiftByPixels_71 sx_m3 ?_
      obtain ⟨b21, g22, h⟩ := sx_bnd h
      refine sv_getA (pc := 72) hG dX5_shiftByPixels_72 f_5_201 g10 rfl g22 ?_
      refine sx_iload (pc := 75) dX5_shiftByPixels_75 sx_m0 ?_
      refine sx_dup2 (pc := 77) dX5_shiftByPixels_77 rfl rfl ?_
      obtain ⟨n23, g24, h⟩ := sx_bnd h
      obtain ⟨g25, h⟩ := sx_grd h
      refine sv_iald (pc := 78) hG dX5_shiftByPixels_78 (sv_len_e g24) g25 ?_
      refine sx_lload_n (pc := 79) dX5_shiftByPixels_79 sx_m2 ?_
      refine sx_aload_n (pc := 80) dX5_shiftByPixels_80 sx_m1 ?_
      refine sv_getO (pc := 81) hG dX5_shiftByPixels_81 f_5_12 lay_69 rfl cr_69_1 ?_
      refine sv_getI (pc := 84) hG dX5_shiftByPixels_84 f_5_213 lay_70 rfl ?_
      refine sx_i2l (pc := 87) dX5_shiftByPixels_87 ?_
      refine sx_lmul (pc := 88) dX5_shiftByPixels_88 ?_
      refine sx_ldc2 (pc := 89) dX5_shiftByPixels_89 k_X5_190 ?_
      obtain ⟨⟨x28, V26⟩, g27, h⟩ := sx_bnd h
      refine sv_cN (pc := 92) (y := qX11_nearest) (o := (some (.long x28))) (as := [.long (l1 * ((V20.1 70 1).toInt64)), .long (16384 : Int64)]) (V1 := V26) dX5_shiftByPixels_92 n_X5_75 y0X11_nearest ysX11_nearest rfl (Nat.le_of_ble_eq_true rfl) (by decide) (Nat.le_of_ble_eq_true rfl) rfl rfl rfl (t_X11_nearest hG ⟨rfl, rfl⟩ g27) ?_
      refine sx_l2i (pc := 95) dX5_shiftByPixels_95 ?_
      refine sx_iadd (pc := 96) dX5_shiftByPixels_96 ?_
      obtain ⟨g29, h⟩ := sx_grd h
      obtain ⟨V30, hV30⟩ : ∃ z : sv_V, z = sv_I V26 b21 x5.toNatClampNeg ((V20.1 b21 x5.toNatClampNeg) + x28.toInt32) := ⟨_, rfl⟩
      have h := sx_letE hV30 h
      refine sv_iast (pc := 97) hG dX5_shiftByPixels_97 (sv_len_e g24) g29 hV30 ?_
      refine sx_aload_n (pc := 98) dX5_shiftByPixels_98 sx_m3 ?_
      obtain ⟨b31, g32, h⟩ := sx_bnd h
      refine sv_getA (pc := 99) hG dX5_shiftByPixels_99 f_5_220 g10 rfl g32 ?_
      refine sx_iload (pc := 102) dX5_shiftByPixels_102 sx_m0 ?_
      refine sx_dup2 (pc := 104) dX5_shiftByPixels_104 rfl rfl ?_
      obtain ⟨n33, g34, h⟩ := sx_bnd h
      obtain ⟨g35, h⟩ := sx_grd h
      refine sv_iald (pc := 105) hG dX5_shiftByPixels_105 (sv_len_e g34) g35 ?_
      refine sx_aload_n (pc := 106) dX5_shiftByPixels_106 sx_m1 ?_
      obtain ⟨⟨x38, V36⟩, g37, h⟩ := sx_bnd h
      refine sv_cV (pc := 107) (y := qX5_touchBits) (o := (some (.int x38))) (as := []) (V1 := V36) hG dX5_shiftByPixels_107 l_X5_223 y0X5_touchBits yvX5_touchBits rfl (Nat.le_of_ble_eq_true rfl) lay_69 kr_5 (by decide) (Nat.le_of_ble_eq_true rfl) rfl rfl rfl (t_X5_touchBits hG ⟨rfl, rfl⟩ g37) ?_
      refine sx_ior (pc := 110) dX5_shiftByPixels_110 ?_
      obtain ⟨g39, h⟩ := sx_grd h
      obtain ⟨V40, hV40⟩ : ∃ z : sv_V, z = sv_I V36 b31 x5.toNatClampNeg ((V30.1 b31 x5.toNatClampNeg) ||| x38) := ⟨_, rfl⟩
      have h := sx_letE hV40 h
      refine sv_iast (pc := 111) hG dX5_shiftByPixels_111 (sv_len_e g34) g39 hV40 ?_
      obtain ⟨x41, hx41⟩ : ∃ z : Int32, z = l4 + 1 := ⟨_, rfl⟩
      have h := sx_letE hx41 h
      refine sx_iinc (pc := 112) (v := x41) (lo' := [(4, .int x41), (5, .int x5), (0, .ref 69), (1, .long l1), (3, .ref l3)]) dX5_shiftByPixels_112 sx_m4 (by rw [hx41]; rfl) (by decide) rfl ?_
      refine sx_goto (pc := 115) (tgt := 15) dX5_shiftByPixels_115 (by decide) ?_
      refine sx_wk (sx_s1 sx_m2 (sx_s1 sx_m3 (sx_s1 sx_m4 (sx_s1 sx_m0 sx_s0)))) ?_
      exact hk15 _ _ _ _ h
    · have h := sx_pos c9 h
      exact sv_vret (pc := 43) dX5_shiftByPixels_43 rfl h hP
theorem tL_X5_shiftByPixels_15 {g : sx_G} (hG : sx_Go g) {P : Option Value → sv_V → Prop} {Vr : sv_V} (hP : P none Vr) {N : Nat}   : ∀ (n : Nat) (l1 : Int64) (l3 : Nat) (l4 : Int32) (V : sv_V), sx_lp4 (B_X5_shiftByPixels_15 N ) n l1 l3 l4 V = some Vr → sv_N g qX5_shiftByPixels 2 15 [(0, .ref 69), (1, .long l1), (3, .ref l3), (4, .int l4)] [] V P :=
  sx_lp4_ind (fun k0 ih _ _ _ V h => tB_X5_shiftByPixels_15 hG hP ih h)
def F_X5_shiftByPixels (N : Nat)  (V : sv_V) : Option sv_V := (F_X5_pop  V).bind (fun (x44, V42) => sx_let (x44.toInt64) (fun x45 => (F_X5_zone (2 : Int32) V42).bind (fun (x48, V46) => sx_lp4 (B_X5_shiftByPixels_15 N ) N x45 x48 (0 : Int32) V46)))
set_option maxRecDepth 20000 in
theorem t_X5_shiftByPixels {g : sx_G} (hG : sx_Go g) {P : Option Value → sv_V → Prop} {Vr : sv_V} (hP : P none Vr) {N : Nat}  {V : sv_V} (h : F_X5_shiftByPixels N  V = some Vr) : sv_N g qX5_shiftByPixels 2 0 [(0, .ref 69)] [] V P := by
  unfold F_X5_shiftByPixels at h
  refine sx_aload_n (pc := 0) dX5_shiftByPixels_0 sx_m0 ?_
  obtain ⟨⟨x44, V42⟩, g43, h⟩ := sx_bnd h
  refine sv_cV (pc := 1) (y := qX5_pop) (o := (some (.int x44))) (as := []) (V1 := V42) hG dX5_shiftByPixels_1 l_X5_242 y0X5_pop yvX5_pop rfl (Nat.le_of_ble_eq_true rfl) lay_69 kr_5 (by decide) (Nat.le_of_ble_eq_true rfl) rfl rfl rfl (t_X5_pop hG ⟨rfl, rfl⟩ g43) ?_
  refine sx_i2l (pc := 4) dX5_shiftByPixels_4 ?_
  refine sv_tJ (fun x45 hx45 => ?_)
  have h := sx_letE hx45 h
  refine sx_lstore_n (pc := 5) (lo' := [(1, .long x45), (0, .ref 69)]) dX5_shiftByPixels_5 (by decide) rfl ?_
  refine sx_aload_n (pc := 6) dX5_shiftByPixels_6 sx_m1 ?_
  refine sx_iconst (pc := 7) (v := 2) dX5_shiftByPixels_7 (by decide) ?_
  obtain ⟨⟨x48, V46⟩, g47, h⟩ := sx_bnd h
  refine sv_cV (pc := 8) (y := qX5_zone) (o := (some (.ref x48))) (as := [.int (2 : Int32)]) (V1 := V46) hG dX5_shiftByPixels_8 l_X5_255 y0X5_zone yvX5_zone rfl (Nat.le_of_ble_eq_true rfl) lay_69 kr_5 (by decide) (Nat.le_of_ble_eq_true rfl) rfl rfl rfl (t_X5_zone hG ⟨rfl, rfl⟩ g47) ?_
  refine sx_astore_n (pc := 11) (lo' := [(3, .ref x48), (1, .long x45), (0, .ref 69)]) dX5_shiftByPixels_11 (by decide) rfl ?_
  refine sx_iconst (pc := 12) (v := 0) dX5_shiftByPixels_12 (by decide) ?_
  refine sx_istore (pc := 13) (lo' := [(4, .int (0 : Int32)), (3, .ref x48), (1, .long x45), (0, .ref 69)]) dX5_shiftByPixels_13 (by decide) rfl ?_
  refine sx_wk (sx_s1 sx_m3 (sx_s1 sx_m2 (sx_s1 sx_m1 (sx_s1 sx_m0 sx_s0)))) ?_
  exact tL_X5_shiftByPixels_15 hG hP  N _ _ _ _ h
theorem dX5_interpolate_0 : decode cX5_interpolate 0 = .ok (.aload_n 0, 1) := by decide +kernel
theorem dX5_interpolate_1 : decode cX5_interpolate 1 = .ok (.iconst 0, 1) := by decide +kernel
theorem dX5_interpolate_2 : decode cX5_interpolate 2 = .ok (.invokevirtual 255, 3) := by decide +kernel
theorem dX5_interpolate_5 : decode cX5_interpolate 5 = .ok (.astore_n 1, 1) := by decide +kernel
theorem dX5_interpolate_6 : decode cX5_interpolate 6 = .ok (.aload_n 0, 1) := by decide +kernel
theorem dX5_interpolate_7 : decode cX5_interpolate 7 = .ok (.iconst 1, 1) := by decide +kernel
theorem dX5_interpolate_8 : decode cX5_interpolate 8 = .ok (.invokevirtual 255, 3) := by decide +kernel
theorem dX5_interpolate_11 : decode cX5_interpolate 11 = .ok (.astore_n 2, 1) := by decide +kernel
theorem dX5_interpolate_12 : decode cX5_interpolate 12 = .ok (.aload_n 0, 1) := by decide +kernel
theorem dX5_interpolate_13 : decode cX5_interpolate 13 = .ok (.iconst 2, 1) := by decide +kernel
theorem dX5_interpolate_14 : decode cX5_interpolate 14 = .ok (.invokevirtual 255, 3) := by decide +kernel
theorem dX5_interpolate_17 : decode cX5_interpolate 17 = .ok (.astore_n 3, 1) := by decide +kernel
theorem dX5_interpolate_18 : decode cX5_interpolate 18 = .ok (.aload_n 0, 1) := by decide +kernel
theorem dX5_interpolate_19 : decode cX5_interpolate 19 = .ok (.getfield 12, 3) := by decide +kernel
theorem dX5_interpolate_22 : decode cX5_interpolate 22 = .ok (.getfield 275, 3) := by decide +kernel
theorem dX5_interpolate_25 : decode cX5_interpolate 25 = .ok (.iconst 1, 1) := by decide +kernel
theorem dX5_interpolate_26 : decode cX5_interpolate 26 = .ok (.iaload, 1) := by decide +kernel
theorem dX5_interpolate_27 : decode cX5_interpolate 27 = .ok (.istore 4, 2) := by decide +kernel
theorem dX5_interpolate_29 : decode cX5_interpolate 29 = .ok (.aload_n 0, 1) := by decide +kernel
theorem dX5_interpolate_30 : decode cX5_interpolate 30 = .ok (.getfield 12, 3) := by decide +kernel
theorem dX5_interpolate_33 : decode cX5_interpolate 33 = .ok (.getfield 275, 3) := by decide +kernel
theorem dX5_interpolate_36 : decode cX5_interpolate 36 = .ok (.iconst 2, 1) := by decide +kernel
theorem dX5_interpolate_37 : decode cX5_interpolate 37 = .ok (.iaload, 1) := by decide +kernel
theorem dX5_interpolate_38 : decode cX5_interpolate 38 = .ok (.istore 5, 2) := by decide +kernel
theorem dX5_interpolate_40 : decode cX5_interpolate 40 = .ok (.aload_n 0, 1) := by decide +kernel
theorem dX5_interpolate_41 : decode cX5_interpolate 41 = .ok (.aload_n 1, 1) := by decide +kernel
theorem dX5_interpolate_42 : decode cX5_interpolate 42 = .ok (.iload 4, 2) := by decide +kernel
theorem dX5_interpolate_44 : decode cX5_interpolate 44 = .ok (.invokevirtual 259, 3) := by decide +kernel
theorem dX5_interpolate_47 : decode cX5_interpolate 47 = .ok (.ifCond .eq 13, 3) := by decide +kernel
theorem dX5_interpolate_50 : decode cX5_interpolate 50 = .ok (.aload_n 0, 1) := by decide +kernel
theorem dX5_interpolate_51 : decode cX5_interpolate 51 = .ok (.aload_n 2, 1) := by decide +kernel
theorem dX5_interpolate_52 : decode cX5_interpolate 52 = .ok (.iload 5, 2) := by decide +kernel
theorem dX5_interpolate_54 : decode cX5_interpolate 54 = .ok (.invokevirtual 259, 3) := by decide +kernel
theorem dX5_interpolate_57 : decode cX5_interpolate 57 = .ok (.ifCond .ne 4, 3) := by decide +kernel
theorem dX5_interpolate_60 : decode cX5_interpolate 60 = .ok (.return_, 1) := by decide +kernel
theorem dX5_interpolate_61 : decode cX5_interpolate 61 = .ok (.aload_n 0, 1) := by decide +kernel
theorem dX5_interpolate_62 : decode cX5_interpolate 62 = .ok (.aload_n 2, 1) := by decide +kernel
theorem dX5_interpolate_63 : decode cX5_interpolate 63 = .ok (.iload 5, 2) := by decide +kernel
theorem dX5_interpolate_65 : decode cX5_interpolate 65 = .ok (.aload_n 1, 1) := by decide +kernel
theorem dX5_interpolate_66 : decode cX5_interpolate 66 = .ok (.iload 4, 2) := by decide +kernel
theorem dX5_interpolate_68 : decode cX5_interpolate 68 = .ok (.invokevirtual 471, 3) := by decide +kernel
theorem dX5_interpolate_71 : decode cX5_interpolate 71 = .ok (.lstore 6, 2) := by decide +kernel
theorem dX5_interpolate_73 : decode cX5_interpolate 73 = .ok (.aload_n 0, 1) := by decide +kernel
theorem dX5_interpolate_74 : decode cX5_interpolate 74 = .ok (.aload_n 2, 1) := by decide +kernel
theorem dX5_interpolate_75 : decode cX5_interpolate 75 = .ok (.iload 5, 2) := by decide +kernel
theorem dX5_interpolate_77 : decode cX5_interpolate 77 = .ok (.aload_n 1, 1) := by decide +kernel
theorem dX5_interpolate_78 : decode cX5_interpolate 78 = .ok (.iload 4, 2) := by decide +kernel
theorem dX5_interpolate_80 : decode cX5_interpolate 80 = .ok (.invokevirtual 455, 3) := by decide +kernel
theorem dX5_interpolate_83 : decode cX5_interpolate 83 = .ok (.lstore 8, 2) := by decide +kernel
theorem dX5_interpolate_85 : decode cX5_interpolate 85 = .ok (.iconst 0, 1) := by decide +kernel
theorem dX5_interpolate_86 : decode cX5_interpolate 86 = .ok (.istore 10, 2) := by decide +kernel
theorem dX5_interpolate_88 : decode cX5_interpolate 88 = .ok (.iload 10, 2) := by decide +kernel
theorem dX5_interpolate_90 : decode cX5_interpolate 90 = .ok (.aload_n 0, 1) := by decide +kernel
theorem dX5_interpolate_91 : decode cX5_interpolate 91 = .ok (.getfield 12, 3) := by decide +kernel
theorem dX5_interpolate_94 : decode cX5_interpolate 94 = .ok (.getfield 163, 3) := by decide +kernel
theorem dX5_interpolate_97 : decode cX5_interpolate 97 = .ok (.if_icmp .ge 82, 3) := by decide +kernel
theorem dX5_interpolate_100 : decode cX5_interpolate 100 = .ok (.aload_n 0, 1) := by decide +kernel
theorem dX5_interpolate_101 : decode cX5_interpolate 101 = .ok (.invokevirtual 242, 3) := by decide +kernel
theorem dX5_interpolate_104 : decode cX5_interpolate 104 = .ok (.istore 11, 2) := by decide +kernel
theorem dX5_interpolate_106 : decode cX5_interpolate 106 = .ok (.aload_n 0, 1) := by decide +kernel
theorem dX5_interpolate_107 : decode cX5_interpolate 107 = .ok (.aload_n 3, 1) := by decide +kernel
theorem dX5_interpolate_108 : decode cX5_interpolate 108 = .ok (.iload 11, 2) := by decide +kernel
theorem dX5_interpolate_110 : decode cX5_interpolate 110 = .ok (.invokevirtual 259, 3) := by decide +kernel
theorem dX5_interpolate_113 : decode cX5_interpolate 113 = .ok (.ifCond .ne 4, 3) := by decide +kernel
theorem dX5_interpolate_116 : decode cX5_interpolate 116 = .ok (.return_, 1) := by decide +kernel
theorem dX5_interpolate_117 : decode cX5_interpolate 117 = .ok (.aload_n 0, 1) := by decide +kernel
theorem dX5_interpolate_118 : decode cX5_interpolate 118 = .ok (.aload_n 3, 1) := by decide +kernel
theorem dX5_interpolate_119 : decode cX5_interpolate 119 = .ok (.iload 11, 2) := by decide +kernel
theorem dX5_interpolate_121 : decode cX5_interpolate 121 = .ok (.aload_n 1, 1) := by decide +kernel
theorem dX5_interpolate_122 : decode cX5_interpolate 122 = .ok (.iload 4, 2) := by decide +kernel
theorem dX5_interpolate_124 : decode cX5_interpolate 124 = .ok (.invokevirtual 471, 3) := by decide +kernel
theorem dX5_interpolate_127 : decode cX5_interpolate 127 = .ok (.lstore 12, 2) := by decide +kernel
theorem dX5_interpolate_129 : decode cX5_interpolate 129 = .ok (.lload 6, 2) := by decide +kernel
theorem dX5_interpolate_131 : decode cX5_interpolate 131 = .ok (.lconst 0, 1) := by decide +kernel
theorem dX5_interpolate_132 : decode cX5_interpolate 132 = .ok (.lcmp, 1) := by decide +kernel
theorem dX5_interpolate_133 : decode cX5_interpolate 133 = .ok (.ifCond .ne 8, 3) := by decide +kernel
theorem dX5_interpolate_136 : decode cX5_interpolate 136 = .ok (.lload 12, 2) := by decide +kernel
theorem dX5_interpolate_138 : decode cX5_interpolate 138 = .ok (.goto 13, 3) := by decide +kernel
theorem dX5_interpolate_141 : decode cX5_interpolate 141 = .ok (.lload 12, 2) := by decide +kernel
theorem dX5_interpolate_143 : decode cX5_interpolate 143 = .ok (.lload 8, 2) := by decide +kernel
theorem dX5_interpolate_145 : decode cX5_interpolate 145 = .ok (.lmul, 1) := by decide +kernel
theorem dX5_interpolate_146 : decode cX5_interpolate 146 = .ok (.lload 6, 2) := by decide +kernel
theorem dX5_interpolate_148 : decode cX5_interpolate 148 = .ok (.invokestatic 75, 3) := by decide +kernel
theorem dX5_interpolate_151 : decode cX5_interpolate 151 = .ok (.lstore 14, 2) := by decide +kernel
theorem dX5_interpolate_153 : decode cX5_interpolate 153 = .ok (.aload_n 0, 1) := by decide +kernel
theorem dX5_interpolate_154 : decode cX5_interpolate 154 = .ok (.aload_n 3, 1) := by decide +kernel
theorem dX5_interpolate_155 : decode cX5_interpolate 155 = .ok (.iload 11, 2) := by decide +kernel
theorem dX5_interpolate_157 : decode cX5_interpolate 157 = .ok (.lload 14, 2) := by decide +kernel
theorem dX5_interpolate_159 : decode cX5_interpolate 159 = .ok (.aload_n 0, 1) := by decide +kernel
theorem dX5_interpolate_160 : decode cX5_interpolate 160 = .ok (.aload_n 3, 1) := by decide +kernel
theorem dX5_interpolate_161 : decode cX5_interpolate 161 = .ok (.iload 11, 2) := by decide +kernel
theorem dX5_interpolate_163 : decode cX5_interpolate 163 = .ok (.aload_n 1, 1) := by decide +kernel
theorem dX5_interpolate_164 : decode cX5_interpolate 164 = .ok (.iload 4, 2) := by decide +kernel
theorem dX5_interpolate_166 : decode cX5_interpolate 166 = .ok (.invokevirtual 455, 3) := by decide +kernel
theorem dX5_interpolate_169 : decode cX5_interpolate 169 = .ok (.lsub, 1) := by decide +kernel
theorem dX5_interpolate_170 : decode cX5_interpolate 170 = .ok (.invokevirtual 461, 3) := by decide +kernel
theorem dX5_interpolate_173 : decode cX5_interpolate 173 = .ok (.iinc 10 1, 3) := by decide +kernel
theorem dX5_interpolate_176 : decode cX5_interpolate 176 = .ok (.goto (-88), 3) := by decide +kernel
theorem dX5_interpolate_179 : decode cX5_interpolate 179 = .ok (.aload_n 0, 1) := by decide +kernel
theorem dX5_interpolate_180 : decode cX5_interpolate 180 = .ok (.getfield 12, 3) := by decide +kernel
theorem dX5_interpolate_183 : decode cX5_interpolate 183 = .ok (.iconst 1, 1) := by decide +kernel
theorem dX5_interpolate_184 : decode cX5_interpolate 184 = .ok (.putfield 163, 3) := by decide +kernel
theorem dX5_interpolate_187 : decode cX5_interpolate 187 = .ok (.return_, 1) := by decide +kernel
def B_X5_interpolate_151 (N : Nat) (k88 : Nat → Nat → Int32 → Int64 → Int64 → Int32 → sv_V → Option sv_V) (l1 : Nat) (l3 : Nat) (l4 : Int32) (l6 : Int64) (l8 : Int64) (l10 : Int32) (l11 : Int32) (s0 : Int64) (V : sv_V) : Option sv_V := (F_X5_longBetween l3 l11 l1 l4 V).bind (fun (x3, V1) => (F_X5_move l3 l11 (s0 - x3) V1).bind (fun V4 => sx_let (l10 + 1) (fun x6 => k88 l1 l3 l4 l6 l8 x6 V4)))
set_option maxRecDepth 20000 in
theorem tB_X5_interpolate_151 {g : sx_G} (hG : sx_Go g) {P : Option Value → sv_V → Prop} {Vr : sv_V} (hP : P none Vr) {N : Nat} {k88 : Nat → Nat → Int32 → Int64 → Int64 → Int32 → sv_V → Option sv_V} (hk88 : ∀ (l1 : Nat) (l3 : Nat) (l4 : Int32) (l6 : Int64) (l8 : Int64) (l10 : Int32) (V : sv_V), k88 l1 l3 l4 l6 l8 l10 V = some Vr → sv_N g qX5_interpolate 2 88 [(0, .ref 69), (1, .ref l1), (3, .ref l3), (4, .int l4), (6, .long l6), (8, .long l8), (10, .int l10)] [] V P) {l1 : Nat} {l3 : Nat} {l4 : Int32} {l6 : Int64} {l8 : Int64} {l10 : Int32} {l11 : Int32} {s0 : Int64} {V : sv_V} (h : B_X5_interpolate_151 N k88 l1 l3 l4 l6 l8 l10 l11 s0 V = some Vr) : sv_N g qX5_interpolate 2 151 [(0, .ref 69), (1, .ref l1), (3, .ref l3), (4, .int l4), (6, .long l6), (8, .long l8), (10, .int l10), (11, .int l11)] [.long s0] V P := by
  unfold B_X5_interpolate_151 at h
  refine sx_lstore (pc := 151) (lo' := [(14, .long s0), (0, .ref 69), (1, .ref l1), (3, .ref l3), (4, .int l4), (6, .long l6), (8, .long l8), (10, .int l10), (11, .int l11)]) dX5_interpolate_151 (by decide) rfl ?_
  refine sx_aload_n (pc := 153) dX5_interpolate_153 sx_m1 ?_
  refine sx_aload_n (pc := 154) dX5_interpolate_154 sx_m3 ?_
  refine sx_iload (pc := 155) dX5_interpolate_155 sx_m8 ?_
  refine sx_lload (pc := 157) dX5_interpolate_157 sx_m0 ?_
  refine sx_aload_n (pc := 159) dX5_interpolate_159 sx_m1 ?_
  refine sx_aload_n (pc := 160) dX5_interpolate_160 sx_m3 ?_
  refine sx_iload (pc := 161) dX5_interpolate_161 sx_m8 ?_
  refine sx_aload_n (pc := 163) dX5_interpolate_163 sx_m2 ?_
  refine sx_iload (pc := 164) dX5_interpolate_164 sx_m4 ?_
  obtain ⟨⟨x3, V1⟩, g2, h⟩ := sx_bnd h
  refine sv_cV (pc := 166) (y := qX5_longBetween) (o := (some (.long x3))) (as := [.ref l3, .int l11, .ref l1, .int l4]) (V1 := V1) hG dX5_interpolate_166 l_X5_455 y0X5_longBetween yvX5_longBetween rfl (Nat.le_of_ble_eq_true rfl) lay_69 kr_5 (by decide) (Nat.le_of_ble_eq_true rfl) rfl rfl rfl (t_X5_longBetween hG ⟨rfl, rfl⟩ g2) ?_
  refine sx_lsub (pc := 169) dX5_interpolate_169 ?_
  obtain ⟨V4, g5, h⟩ := sx_bnd h
  refine sv_cV (pc := 170) (y := qX5_move) (o := none) (as := [.ref l3, .int l11, .long (s0 - x3)]) (V1 := V4) hG dX5_interpolate_170 l_X5_461 y0X5_move yvX5_move rfl (Nat.le_of_ble_eq_true rfl) lay_69 kr_5 (by decide) (Nat.le_of_ble_eq_true rfl) rfl rfl rfl (t_X5_move hG ⟨rfl, rfl⟩ g5) ?_
  obtain ⟨x6, hx6⟩ : ∃ z : Int32, z = l10 + 1 := ⟨_, rfl⟩
  have h := sx_letE hx6 h
  refine sx_iinc (pc := 173) (v := x6) (lo' := [(10, .int x6), (14, .long s0), (0, .ref 69), (1, .ref l1), (3, .ref l3), (4, .int l4), (6, .long l6), (8, .long l8), (11, .int l11)]) dX5_interpolate_173 sx_m7 (by rw [hx6]; rfl) (by decide) rfl ?_
  refine sx_goto (pc := 176) (tgt := 88) dX5_interpolate_176 (by decide) ?_
  refine sx_wk (sx_s1 sx_m2 (sx_s1 sx_m3 (sx_s1 sx_m4 (sx_s1 sx_m5 (sx_s1 sx_m6 (sx_s1 sx_m7 (sx_s1 sx_m0 sx_s0))))))) ?_
  exact hk88 _ _ _ _ _ _ _ h
def B_X5_interpolate_88 (N : Nat) (k88 : Nat → Nat → Int32 → Int64 → Int64 → Int32 → sv_V → Option sv_V) (l1 : Nat) (l3 : Nat) (l4 : Int32) (l6 : Int64) (l8 : Int64) (l10 : Int32) (V : sv_V) : Option sv_V := if (V.1 70 8) ≤ l10 then (sx_let (sv_I V 70 8 (1 : Int32)) (fun V8 => some V8)) else ((F_X5_pop  V).bind (fun (x11, V9) => (F_X5_isThere l3 x11 V9).bind (fun (x14, V12) => if x14 = 0 then (some V12) else ((F_X5_originalBetween l3 x11 l1 l4 V12).bind (fun (x18, V16) => if (lg_cmp l6 (0 : Int64)) = 0 then (B_X5_interpolate_151 N k88 l1 l3 l4 l6 l8 l10 x11 x18 V16) else ((F_X11_nearest (x18 * l8) l6 V16).bind (fun (x22, V20) => B_X5_interpolate_151 N k88 l1 l3 l4 l6 l8 l10 x11 x22 V20)))))))
set_option maxRecDepth 20000 in
theorem tB_X5_interpolate_88 {g : sx_G} (hG : sx_Go g) {P : Option Value → sv_V → Prop} {Vr : sv_V} (hP : P none Vr) {N : Nat} {k88 : Nat → Nat → Int32 → Int64 → Int64 → Int32 → sv_V → Option sv_V} (hk88 : ∀ (l1 : Nat) (l3 : Nat) (l4 : Int32) (l6 : Int64) (l8 : Int64) (l10 : Int32) (V : sv_V), k88 l1 l3 l4 l6 l8 l10 V = some Vr → sv_N g qX5_interpolate 2 88 [(0, .ref 69), (1, .ref l1), (3, .ref l3), (4, .int l4), (6, .long l6), (8, .long l8), (10, .int l10)] [] V P) {l1 : Nat} {l3 : Nat} {l4 : Int32} {l6 : Int64} {l8 : Int64} {l10 : Int32} {V : sv_V} (h : B_X5_interpolate_88 N k88 l1 l3 l4 l6 l8 l10 V = some Vr) : sv_N g qX5_interpolate 2 88 [(0, .ref 69), (1, .ref l1), (3, .ref l3), (4, .int l4), (6, .long l6), (8, .long l8), (10, .int l10)] [] V P := by
  unfold B_X5_interpolate_88 at h
  refine sx_iload (pc := 88) dX5_interpolate_88 sx_m6 ?_
  refine sx_aload_n (pc := 90) dX5_interpolate_90 sx_m0 ?_
  refine sv_getO (pc := 91) hG dX5_interpolate_91 f_5_12 lay_69 rfl cr_69_1 ?_
  refine sv_getI (pc := 94) hG dX5_interpolate_94 f_5_163 lay_70 rfl ?_
  refine sx_icmp_ge (pc := 97) (tgt := 179) dX5_interpolate_97 (by decide) (fun c7 => ?_) (fun c7 => ?_)
  · have h := sx_pos c7 h
    refine sx_aload_n (pc := 179) dX5_interpolate_179 sx_m0 ?_
    refine sv_getO (pc := 180) hG dX5_interpolate_180 f_5_12 lay_69 rfl cr_69_1 ?_
    refine sx_iconst (pc := 183) (v := 1) dX5_interpolate_183 (by decide) ?_
    obtain ⟨V8, hV8⟩ : ∃ z : sv_V, z = sv_I V 70 8 (1 : Int32) := ⟨_, rfl⟩
    have h := sx_letE hV8 h
    refine sv_putI (pc := 184) hG dX5_interpolate_184 f_5_163 lay_70 rfl hV8 ?_
    exact sv_vret (pc := 187) dX5_interpolate_187 rfl h hP
  · have h := sx_neg c7 h
    refine sx_aload_n (pc := 100) dX5_interpolate_100 sx_m0 ?_
    obtain ⟨⟨x11, V9⟩, g10, h⟩ := sx_bnd h
    refine sv_cV (pc := 101) (y := qX5_pop) (o := (some (.int x11))) (as := []) (V1 := V9) hG dX5_interpolate_101 l_X5_242 y0X5_pop yvX5_pop rfl (Nat.le_of_ble_eq_true rfl) lay_69 kr_5 (by decide) (Nat.le_of_ble_eq_true rfl) rfl rfl rfl (t_X5_pop hG ⟨rfl, rfl⟩ g10) ?_
    refine sx_istore (pc := 104) (lo' := [(11, .int x11), (0, .ref 69), (1, .ref l1), (3, .ref l3), (4, .int l4), (6, .long l6), (8, .long l8), (10, .int l10)]) dX5_interpolate_104 (by decide) rfl ?_
    refine sx_aload_n (pc := 106) dX5_interpolate_106 sx_m1 ?_
    refine sx_aload_n (pc := 107) dX5_interpolate_107 sx_m3 ?_
    refine sx_iload (pc := 108) dX5_interpolate_108 sx_m0 ?_
    obtain ⟨⟨x14, V12⟩, g13, h⟩ := sx_bnd h
    refine sv_cV (pc := 110) (y := qX5_isThere) (o := (some (.int x14))) (as := [.ref l3, .int x11]) (V1 := V12) hG dX5_interpolate_110 l_X5_259 y0X5_isThere yvX5_isThere rfl (Nat.le_of_ble_eq_true rfl) lay_69 kr_5 (by decide) (Nat.le_of_ble_eq_true rfl) rfl rfl rfl (t_X5_isThere hG ⟨rfl, rfl⟩ g13) ?_
    refine sx_if_ne (pc := 113) (tgt := 117) dX5_interpolate_113 (by decide) (fun c15 => ?_) (fun c15 => ?_)
    · have h := sx_neg c15 h
      refine sx_aload_n (pc := 117) dX5_interpolate_117 sx_m1 ?_
      refine sx_aload_n (pc := 118) dX5_interpolate_118 sx_m3 ?_
      refine sx_iload (pc := 119) dX5_interpolate_119 sx_m0 ?_
      refine sx_aload_n (pc := 121) dX5_interpolate_121 sx_m2 ?_
      refine sx_iload (pc := 122) dX5_interpolate_122 sx_m4 ?_
      obtain ⟨⟨x18, V16⟩, g17, h⟩ := sx_bnd h
      refine sv_cV (pc := 124) (y := qX5_originalBetween) (o := (some (.long x18))) (as := [.ref l3, .int x11, .ref l1, .int l4]) (V1 := V16) hG dX5_interpolate_124 l_X5_471 y0X5_originalBetween yvX5_originalBetween rfl (Nat.le_of_ble_eq_true rfl) lay_69 kr_5 (by decide) (Nat.le_of_ble_eq_true rfl) rfl rfl rfl (t_X5_originalBetween hG ⟨rfl, rfl⟩ g17) ?_
      refine sx_lstore (pc := 127) (lo' := [(12, .long x18), (11, .int x11), (0, .ref 69), (1, .ref l1), (3, .ref l3), (4, .int l4), (6, .long l6), (8, .long l8), (10, .int l10)]) dX5_interpolate_127 (by decide) rfl ?_
      refine sx_lload (pc := 129) dX5_interpolate_129 sx_m6 ?_
      refine sx_lconst (pc := 131) (v := 0) dX5_interpolate_131 rfl ?_
      refine sx_lcmp (pc := 132) dX5_interpolate_132 ?_
      refine sx_if_ne (pc := 133) (tgt := 141) dX5_interpolate_133 (by decide) (fun c19 => ?_) (fun c19 => ?_)
      · have h := sx_neg c19 h
        refine sx_lload (pc := 141) dX5_interpolate_141 sx_m0 ?_
        refine sx_lload (pc := 143) dX5_interpolate_143 sx_m7 ?_
        refine sx_lmul (pc := 145) dX5_interpolate_145 ?_
        refine sx_lload (pc := 146) dX5_interpolate_146 sx_m6 ?_
        obtain ⟨⟨x22, V20⟩, g21, h⟩ := sx_bnd h
        refine sv_cN (pc := 148) (y := qX11_nearest) (o := (some (.long x22))) (as := [.long (x18 * l8), .long l6]) (V1 := V20) dX5_interpolate_148 n_X5_75 y0X11_nearest ysX11_nearest rfl (Nat.le_of_ble_eq_true rfl) (by decide) (Nat.le_of_ble_eq_true rfl) rfl rfl rfl (t_X11_nearest hG ⟨rfl, rfl⟩ g21) ?_
        refine sx_wk (sx_s1 sx_m2 (sx_s1 sx_m3 (sx_s1 sx_m4 (sx_s1 sx_m5 (sx_s1 sx_m6 (sx_s1 sx_m7 (sx_s1 sx_m8 (sx_s1 sx_m1 sx_s0)))))))) ?_
        exact tB_X5_interpolate_151 hG hP hk88 h
      · have h := sx_pos c19 h
        refine sx_lload (pc := 136) dX5_interpolate_136 sx_m0 ?_
        refine sx_goto (pc := 138) (tgt := 151) dX5_interpolate_138 (by decide) ?_
        refine sx_wk (sx_s1 sx_m2 (sx_s1 sx_m3 (sx_s1 sx_m4 (sx_s1 sx_m5 (sx_s1 sx_m6 (sx_s1 sx_m7 (sx_s1 sx_m8 (sx_s1 sx_m1 sx_s0)))))))) ?_
        exact tB_X5_interpolate_151 hG hP hk88 h
    · have h := sx_pos c15 h
      exact sv_vret (pc := 116) dX5_interpolate_116 rfl h hP
theorem tL_X5_interpolate_88 {g : sx_G} (hG : sx_Go g) {P : Option Value → sv_V → Prop} {Vr : sv_V} (hP : P none Vr) {N : Nat}   : ∀ (n : Nat) (l1 : Nat) (l3 : Nat) (l4 : Int32) (l6 : Int64) (l8 : Int64) (l10 : Int32) (V : sv_V), sx_lp7 (B_X5_interpolate_88 N ) n l1 l3 l4 l6 l8 l10 V = some Vr → sv_N g qX5_interpolate 2 88 [(0, .ref 69), (1, .ref l1), (3, .ref l3), (4, .int l4), (6, .long l6), (8, .long l8), (10, .int l10)] [] V P :=
  sx_lp7_ind (fun k0 ih _ _ _ _ _ _ V h => tB_X5_interpolate_88 hG hP ih h)
def F_X5_interpolate (N : Nat)  (V : sv_V) : Option sv_V := (F_X5_zone (0 : Int32) V).bind (fun (x25, V23) => (F_X5_zone (1 : Int32) V23).bind (fun (x28, V26) => (F_X5_zone (2 : Int32) V26).bind (fun (x31, V29) => sx_let (V29.1 71 (1 : Int32).toNatClampNeg) (fun x32 => sx_let (V29.1 71 (2 : Int32).toNatClampNeg) (fun x33 => (F_X5_isThere x25 x32 V29).bind (fun (x36, V34) => if x36 = 0 then (some V34) else ((F_X5_isThere x28 x33 V34).bind (fun (x40, V38) => if x40 = 0 then (some V38) else ((F_X5_originalBetween x28 x33 x25 x32 V38).bind (fun (x44, V42) => (F_X5_longBetween x28 x33 x25 x32 V42).bind (fun (x47, V45) => sx_lp7 (B_X5_interpolate_88 N ) N x25 x31 x32 x44 x47 (0 : Int32) V45)))))))))))
set_option maxRecDepth 20000 in
theorem t_X5_interpolate {g : sx_G} (hG : sx_Go g) {P : Option Value → sv_V → Prop} {Vr : sv_V} (hP : P none Vr) {N : Nat}  {V : sv_V} (h : F_X5_interpolate N  V = some Vr) : sv_N g qX5_interpolate 2 0 [(0, .ref 69)] [] V P := by
  unfold F_X5_interpolate at h
  refine sx_aload_n (pc := 0) dX5_interpolate_0 sx_m0 ?_
  refine sx_iconst (pc := 1) (v := 0) dX5_interpolate_1 (by decide) ?_
  obtain ⟨⟨x25, V23⟩, g24, h⟩ := sx_bnd h
  refine sv_cV (pc := 2) (y := qX5_zone) (o := (some (.ref x25))) (as := [.int (0 : Int32)]) (V1 := V23) hG dX5_interpolate_2 l_X5_255 y0X5_zone yvX5_zone rfl (Nat.le_of_ble_eq_true rfl) lay_69 kr_5 (by decide) (Nat.le_of_ble_eq_true rfl) rfl rfl rfl (t_X5_zone hG ⟨rfl, rfl⟩ g24) ?_
  refine sx_astore_n (pc := 5) (lo' := [(1, .ref x25), (0, .ref 69)]) dX5_interpolate_5 (by decide) rfl ?_
  refine sx_aload_n (pc := 6) dX5_interpolate_6 sx_m1 ?_
  refine sx_iconst (pc := 7) (v := 1) dX5_interpolate_7 (by decide) ?_
  obtain ⟨⟨x28, V26⟩, g27, h⟩ := sx_bnd h
  refine sv_cV (pc := 8) (y := qX5_zone) (o := (some (.ref x28))) (as := [.int (1 : Int32)]) (V1 := V26) hG dX5_interpolate_8 l_X5_255 y0X5_zone yvX5_zone rfl (Nat.le_of_ble_eq_true rfl) lay_69 kr_5 (by decide) (Nat.le_of_ble_eq_true rfl) rfl rfl rfl (t_X5_zone hG ⟨rfl, rfl⟩ g27) ?_
  refine sx_astore_n (pc := 11) (lo' := [(2, .ref x28), (1, .ref x25), (0, .ref 69)]) dX5_interpolate_11 (by decide) rfl ?_
  refine sx_aload_n (pc := 12) dX5_interpolate_12 sx_m2 ?_
  refine sx_iconst (pc := 13) (v := 2) dX5_interpolate_13 (by decide) ?_
  obtain ⟨⟨x31, V29⟩, g30, h⟩ := sx_bnd h
  refine sv_cV (pc := 14) (y := qX5_zone) (o := (some (.ref x31))) (as := [.int (2 : Int32)]) (V1 := V29) hG dX5_interpolate_14 l_X5_255 y0X5_zone yvX5_zone rfl (Nat.le_of_ble_eq_true rfl) lay_69 kr_5 (by decide) (Nat.le_of_ble_eq_true rfl) rfl rfl rfl (t_X5_zone hG ⟨rfl, rfl⟩ g30) ?_
  refine sx_astore_n (pc := 17) (lo' := [(3, .ref x31), (2, .ref x28), (1, .ref x25), (0, .ref 69)]) dX5_interpolate_17 (by decide) rfl ?_
  refine sx_aload_n (pc := 18) dX5_interpolate_18 sx_m3 ?_
  refine sv_getO (pc := 19) hG dX5_interpolate_19 f_5_12 lay_69 rfl cr_69_1 ?_
  refine sv_getA (pc := 22) hG dX5_interpolate_22 f_5_275 lay_70 rfl cr_70_6 ?_
  refine sx_iconst (pc := 25) (v := 1) dX5_interpolate_25 (by decide) ?_
  refine sv_iald (pc := 26) hG dX5_interpolate_26 lay_71 (by decide) ?_
  refine sv_tI (fun x32 hx32 => ?_)
  have h := sx_letE hx32 h
  refine sx_istore (pc := 27) (lo' := [(4, .int x32), (3, .ref x31), (2, .ref x28), (1, .ref x25), (0, .ref 69)]) dX5_interpolate_27 (by decide) rfl ?_
  refine sx_aload_n (pc := 29) dX5_interpolate_29 sx_m4 ?_
  refine sv_getO (pc := 30) hG dX5_interpolate_30 f_5_12 lay_69 rfl cr_69_1 ?_
  refine sv_getA (pc := 33) hG dX5_interpolate_33 f_5_275 lay_70 rfl cr_70_6 ?_
  refine sx_iconst (pc := 36) (v := 2) dX5_interpolate_36 (by decide) ?_
  refine sv_iald (pc := 37) hG dX5_interpolate_37 lay_71 (by decide) ?_
  refine sv_tI (fun x33 hx33 => ?_)
  have h := sx_letE hx33 h
  refine sx_istore (pc := 38) (lo' := [(5, .int x33), (4, .int x32), (3, .ref x31), (2, .ref x28), (1, .ref x25), (0, .ref 69)]) dX5_interpolate_38 (by decide) rfl ?_
  refine sx_aload_n (pc := 40) dX5_interpolate_40 sx_m5 ?_
  refine sx_aload_n (pc := 41) dX5_interpolate_41 sx_m4 ?_
  refine sx_iload (pc := 42) dX5_interpolate_42 sx_m1 ?_
  obtain ⟨⟨x36, V34⟩, g35, h⟩ := sx_bnd h
  refine sv_cV (pc := 44) (y := qX5_isThere) (o := (some (.int x36))) (as := [.ref x25, .int x32]) (V1 := V34) hG dX5_interpolate_44 l_X5_259 y0X5_isThere yvX5_isThere rfl (Nat.le_of_ble_eq_true rfl) lay_69 kr_5 (by decide) (Nat.le_of_ble_eq_true rfl) rfl rfl rfl (t_X5_isThere hG ⟨rfl, rfl⟩ g35) ?_
  refine sx_if_eq (pc := 47) (tgt := 60) dX5_interpolate_47 (by decide) (fun c37 => ?_) (fun c37 => ?_)
  · have h := sx_pos c37 h
    exact sv_vret (pc := 60) dX5_interpolate_60 rfl h hP
  · have h := sx_neg c37 h
    refine sx_aload_n (pc := 50) dX5_interpolate_50 sx_m5 ?_
    refine sx_aload_n (pc := 51) dX5_interpolate_51 sx_m3 ?_
    refine sx_iload (pc := 52) dX5_interpolate_52 sx_m0 ?_
    obtain ⟨⟨x40, V38⟩, g39, h⟩ := sx_bnd h
    refine sv_cV (pc := 54) (y := qX5_isThere) (o := (some (.int x40))) (as := [.ref x28, .int x33]) (V1 := V38) hG dX5_interpolate_54 l_X5_259 y0X5_isThere yvX5_isThere rfl (Nat.le_of_ble_eq_true rfl) lay_69 kr_5 (by decide) (Nat.le_of_ble_eq_true rfl) rfl rfl rfl (t_X5_isThere hG ⟨rfl, rfl⟩ g39) ?_
    refine sx_if_ne (pc := 57) (tgt := 61) dX5_interpolate_57 (by decide) (fun c41 => ?_) (fun c41 => ?_)
    · have h := sx_neg c41 h
      refine sx_aload_n (pc := 61) dX5_interpolate_61 sx_m5 ?_
      refine sx_aload_n (pc := 62) dX5_interpolate_62 sx_m3 ?_
      refine sx_iload (pc := 63) dX5_interpolate_63 sx_m0 ?_
      refine sx_aload_n (pc := 65) dX5_interpolate_65 sx_m4 ?_
      refine sx_iload (pc := 66) dX5_interpolate_66 sx_m1 ?_
      obtain ⟨⟨x44, V42⟩, g43, h⟩ := sx_bnd h
      refine sv_cV (pc := 68) (y := qX5_originalBetween) (o := (some (.long x44))) (as := [.ref x28, .int x33, .ref x25, .int x32]) (V1 := V42) hG dX5_interpolate_68 l_X5_471 y0X5_originalBetween yvX5_originalBetween rfl (Nat.le_of_ble_eq_true rfl) lay_69 kr_5 (by decide) (Nat.le_of_ble_eq_true rfl) rfl rfl rfl (t_X5_originalBetween hG ⟨rfl, rfl⟩ g43) ?_
      refine sx_lstore (pc := 71) (lo' := [(6, .long x44), (5, .int x33), (4, .int x32), (3, .ref x31), (2, .ref x28), (1, .ref x25), (0, .ref 69)]) dX5_interpolate_71 (by decide) rfl ?_
      refine sx_aload_n (pc := 73) dX5_interpolate_73 sx_m6 ?_
      refine sx_aload_n (pc := 74) dX5_interpolate_74 sx_m4 ?_
      refine sx_iload (pc := 75) dX5_interpolate_75 sx_m1 ?_
      refine sx_aload_n (pc := 77) dX5_interpolate_77 sx_m5 ?_
      refine sx_iload (pc := 78) dX5_interpolate_78 sx_m2 ?_
      obtain ⟨⟨x47, V45⟩, g46, h⟩ := sx_bnd h
      refine sv_cV (pc := 80) (y := qX5_longBetween) (o := (some (.long x47))) (as := [.ref x28, .int x33, .ref x25, .int x32]) (V1 := V45) hG dX5_interpolate_80 l_X5_455 y0X5_longBetween yvX5_longBetween rfl (Nat.le_of_ble_eq_true rfl) lay_69 kr_5 (by decide) (Nat.le_of_ble_eq_true rfl) rfl rfl rfl (t_X5_longBetween hG ⟨rfl, rfl⟩ g46) ?_
      refine sx_lstore (pc := 83) (lo' := [(8, .long x47), (6, .long x44), (5, .int x33), (4, .int x32), (3, .ref x31), (2, .ref x28), (1, .ref x25), (0, .ref 69)]) dX5_interpolate_83 (by decide) rfl ?_
      refine sx_iconst (pc := 85) (v := 0) dX5_interpolate_85 (by decide) ?_
      refine sx_istore (pc := 86) (lo' := [(10, .int (0 : Int32)), (8, .long x47), (6, .long x44), (5, .int x33), (4, .int x32), (3, .ref x31), (2, .ref x28), (1, .ref x25), (0, .ref 69)]) dX5_interpolate_86 (by decide) rfl ?_
      refine sx_wk (sx_s1 sx_m8 (sx_s1 sx_m7 (sx_s1 sx_m5 (sx_s1 sx_m4 (sx_s1 sx_m2 (sx_s1 sx_m1 (sx_s1 sx_m0 sx_s0))))))) ?_
      exact tL_X5_interpolate_88 hG hP  N _ _ _ _ _ _ _ h
    · have h := sx_pos c41 h
      exact sv_vret (pc := 60) dX5_interpolate_60 rfl h hP
theorem dX5_alignToReference_0 : decode cX5_alignToReference 0 = .ok (.aload_n 0, 1) := by decide +kernel
theorem dX5_alignToReference_1 : decode cX5_alignToReference 1 = .ok (.iconst 1, 1) := by decide +kernel
theorem dX5_alignToReference_2 : decode cX5_alignToReference 2 = .ok (.invokevirtual 255, 3) := by decide +kernel
theorem dX5_alignToReference_5 : decode cX5_alignToReference 5 = .ok (.astore_n 1, 1) := by decide +kernel
theorem dX5_alignToReference_6 : decode cX5_alignToReference 6 = .ok (.aload_n 0, 1) := by decide +kernel
theorem dX5_alignToReference_7 : decode cX5_alignToReference 7 = .ok (.iconst 0, 1) := by decide +kernel
theorem dX5_alignToReference_8 : decode cX5_alignToReference 8 = .ok (.invokevirtual 255, 3) := by decide +kernel
theorem dX5_alignToReference_11 : decode cX5_alignToReference 11 = .ok (.astore_n 2, 1) := by decide +kernel
theorem dX5_alignToReference_12 : decode cX5_alignToReference 12 = .ok (.aload_n 0, 1) := by decide +kernel
theorem dX5_alignToReference_13 : decode cX5_alignToReference 13 = .ok (.getfield 12, 3) := by decide +kernel
theorem dX5_alignToReference_16 : decode cX5_alignToReference 16 = .ok (.getfield 275, 3) := by decide +kernel
theorem dX5_alignToReference_19 : decode cX5_alignToReference 19 = .ok (.iconst 0, 1) := by decide +kernel
theorem dX5_alignToReference_20 : decode cX5_alignToReference 20 = .ok (.iaload, 1) := by decide +kernel
theorem dX5_alignToReference_21 : decode cX5_alignToReference 21 = .ok (.istore_n 3, 1) := by decide +kernel
theorem dX5_alignToReference_22 : decode cX5_alignToReference 22 = .ok (.aload_n 0, 1) := by decide +kernel
theorem dX5_alignToReference_23 : decode cX5_alignToReference 23 = .ok (.aload_n 2, 1) := by decide +kernel
theorem dX5_alignToReference_24 : decode cX5_alignToReference 24 = .ok (.iload_n 3, 1) := by decide +kernel
theorem dX5_alignToReference_25 : decode cX5_alignToReference 25 = .ok (.invokevirtual 259, 3) := by decide +kernel
theorem dX5_alignToReference_28 : decode cX5_alignToReference 28 = .ok (.ifCond .ne 4, 3) := by decide +kernel
theorem dX5_alignToReference_31 : decode cX5_alignToReference 31 = .ok (.return_, 1) := by decide +kernel
theorem dX5_alignToReference_32 : decode cX5_alignToReference 32 = .ok (.iconst 0, 1) := by decide +kernel
theorem dX5_alignToReference_33 : decode cX5_alignToReference 33 = .ok (.istore 4, 2) := by decide +kernel
theorem dX5_alignToReference_35 : decode cX5_alignToReference 35 = .ok (.iload 4, 2) := by decide +kernel
theorem dX5_alignToReference_37 : decode cX5_alignToReference 37 = .ok (.aload_n 0, 1) := by decide +kernel
theorem dX5_alignToReference_38 : decode cX5_alignToReference 38 = .ok (.getfield 12, 3) := by decide +kernel
theorem dX5_alignToReference_41 : decode cX5_alignToReference 41 = .ok (.getfield 163, 3) := by decide +kernel
theorem dX5_alignToReference_44 : decode cX5_alignToReference 44 = .ok (.if_icmp .ge 43, 3) := by decide +kernel
theorem dX5_alignToReference_47 : decode cX5_alignToReference 47 = .ok (.aload_n 0, 1) := by decide +kernel
theorem dX5_alignToReference_48 : decode cX5_alignToReference 48 = .ok (.invokevirtual 242, 3) := by decide +kernel
theorem dX5_alignToReference_51 : decode cX5_alignToReference 51 = .ok (.istore 5, 2) := by decide +kernel
theorem dX5_alignToReference_53 : decode cX5_alignToReference 53 = .ok (.aload_n 0, 1) := by decide +kernel
theorem dX5_alignToReference_54 : decode cX5_alignToReference 54 = .ok (.aload_n 1, 1) := by decide +kernel
theorem dX5_alignToReference_55 : decode cX5_alignToReference 55 = .ok (.iload 5, 2) := by decide +kernel
theorem dX5_alignToReference_57 : decode cX5_alignToReference 57 = .ok (.invokevirtual 259, 3) := by decide +kernel
theorem dX5_alignToReference_60 : decode cX5_alignToReference 60 = .ok (.ifCond .ne 4, 3) := by decide +kernel
theorem dX5_alignToReference_63 : decode cX5_alignToReference 63 = .ok (.return_, 1) := by decide +kernel
theorem dX5_alignToReference_64 : decode cX5_alignToReference 64 = .ok (.aload_n 0, 1) := by decide +kernel
theorem dX5_alignToReference_65 : decode cX5_alignToReference 65 = .ok (.aload_n 1, 1) := by decide +kernel
theorem dX5_alignToReference_66 : decode cX5_alignToReference 66 = .ok (.iload 5, 2) := by decide +kernel
theorem dX5_alignToReference_68 : decode cX5_alignToReference 68 = .ok (.aload_n 0, 1) := by decide +kernel
theorem dX5_alignToReference_69 : decode cX5_alignToReference 69 = .ok (.aload_n 1, 1) := by decide +kernel
theorem dX5_alignToReference_70 : decode cX5_alignToReference 70 = .ok (.iload 5, 2) := by decide +kernel
theorem dX5_alignToReference_72 : decode cX5_alignToReference 72 = .ok (.aload_n 2, 1) := by decide +kernel
theorem dX5_alignToReference_73 : decode cX5_alignToReference 73 = .ok (.iload_n 3, 1) := by decide +kernel
theorem dX5_alignToReference_74 : decode cX5_alignToReference 74 = .ok (.invokevirtual 455, 3) := by decide +kernel
theorem dX5_alignToReference_77 : decode cX5_alignToReference 77 = .ok (.lneg, 1) := by decide +kernel
theorem dX5_alignToReference_78 : decode cX5_alignToReference 78 = .ok (.invokevirtual 461, 3) := by decide +kernel
theorem dX5_alignToReference_81 : decode cX5_alignToReference 81 = .ok (.iinc 4 1, 3) := by decide +kernel
theorem dX5_alignToReference_84 : decode cX5_alignToReference 84 = .ok (.goto (-49), 3) := by decide +kernel
theorem dX5_alignToReference_87 : decode cX5_alignToReference 87 = .ok (.aload_n 0, 1) := by decide +kernel
theorem dX5_alignToReference_88 : decode cX5_alignToReference 88 = .ok (.getfield 12, 3) := by decide +kernel
theorem dX5_alignToReference_91 : decode cX5_alignToReference 91 = .ok (.iconst 1, 1) := by decide +kernel
theorem dX5_alignToReference_92 : decode cX5_alignToReference 92 = .ok (.putfield 163, 3) := by decide +kernel
theorem dX5_alignToReference_95 : decode cX5_alignToReference 95 = .ok (.return_, 1) := by decide +kernel
def B_X5_alignToReference_35 (N : Nat) (k35 : Nat → Nat → Int32 → Int32 → sv_V → Option sv_V) (l1 : Nat) (l2 : Nat) (l3 : Int32) (l4 : Int32) (V : sv_V) : Option sv_V := if (V.1 70 8) ≤ l4 then (sx_let (sv_I V 70 8 (1 : Int32)) (fun V2 => some V2)) else ((F_X5_pop  V).bind (fun (x5, V3) => (F_X5_isThere l1 x5 V3).bind (fun (x8, V6) => if x8 = 0 then (some V6) else ((F_X5_longBetween l1 x5 l2 l3 V6).bind (fun (x12, V10) => (F_X5_move l1 x5 (-x12) V10).bind (fun V13 => sx_let (l4 + 1) (fun x15 => k35 l1 l2 l3 x15 V13)))))))
set_option maxRecDepth 20000 in
theorem tB_X5_alignToReference_35 {g : sx_G} (hG : sx_Go g) {P : Option Value → sv_V → Prop} {Vr : sv_V} (hP : P none Vr) {N : Nat} {k35 : Nat → Nat → Int32 → Int32 → sv_V → Option sv_V} (hk35 : ∀ (l1 : Nat) (l2 : Nat) (l3 : Int32) (l4 : Int32) (V : sv_V), k35 l1 l2 l3 l4 V = some Vr → sv_N g qX5_alignToReference 2 35 [(0, .ref 69), (1, .ref l1), (2, .ref l2), (3, .int l3), (4, .int l4)] [] V P) {l1 : Nat} {l2 : Nat} {l3 : Int32} {l4 : Int32} {V : sv_V} (h : B_X5_alignToReference_35 N k35 l1 l2 l3 l4 V = some Vr) : sv_N g qX5_alignToReference 2 35 [(0, .ref 69), (1, .ref l1), (2, .ref l2), (3, .int l3), (4, .int l4)] [] V P := by
  unfold B_X5_alignToReference_35 at h
  refine sx_iload (pc := 35) dX5_alignToReference_35 sx_m4 ?_
  refine sx_aload_n (pc := 37) dX5_alignToReference_37 sx_m0 ?_
  refine sv_getO (pc := 38) hG dX5_alignToReference_38 f_5_12 lay_69 rfl cr_69_1 ?_
  refine sv_getI (pc := 41) hG dX5_alignToReference_41 f_5_163 lay_70 rfl ?_
  refine sx_icmp_ge (pc := 44) (tgt := 87) dX5_alignToReference_44 (by decide) (fun c1 => ?_) (fun c1 => ?_)
  · have h := sx_pos c1 h
    refine sx_aload_n (pc := 87) dX5_alignToReference_87 sx_m0 ?_
    refine sv_getO (pc := 88) hG dX5_alignToReference_88 f_5_12 lay_69 rfl cr_69_1 ?_
    refine sx_iconst (pc := 91) (v := 1) dX5_alignToReference_91 (by decide) ?_
    obtain ⟨V2, hV2⟩ : ∃ z : sv_V, z = sv_I V 70 8 (1 : Int32) := ⟨_, rfl⟩
    have h := sx_letE hV2 h
    refine sv_putI (pc := 92) hG dX5_alignToReference_92 f_5_163 lay_70 rfl hV2 ?_
    exact sv_vret (pc := 95) dX5_alignToReference_95 rfl h hP
  · have h := sx_neg c1 h
    refine sx_aload_n (pc := 47) dX5_alignToReference_47 sx_m0 ?_
    obtain ⟨⟨x5, V3⟩, g4, h⟩ := sx_bnd h
    refine sv_cV (pc := 48) (y := qX5_pop) (o := (some (.int x5))) (as := []) (V1 := V3) hG dX5_alignToReference_48 l_X5_242 y0X5_pop yvX5_pop rfl (Nat.le_of_ble_eq_true rfl) lay_69 kr_5 (by decide) (Nat.le_of_ble_eq_true rfl) rfl rfl rfl (t_X5_pop hG ⟨rfl, rfl⟩ g4) ?_
    refine sx_istore (pc := 51) (lo' := [(5, .int x5), (0, .ref 69), (1, .ref l1), (2, .ref l2), (3, .int l3), (4, .int l4)]) dX5_alignToReference_51 (by decide) rfl ?_
    refine sx_aload_n (pc := 53) dX5_alignToReference_53 sx_m1 ?_
    refine sx_aload_n (pc := 54) dX5_alignToReference_54 sx_m2 ?_
    refine sx_iload (pc := 55) dX5_alignToReference_55 sx_m0 ?_
    obtain ⟨⟨x8, V6⟩, g7, h⟩ := sx_bnd h
    refine sv_cV (pc := 57) (y := qX5_isThere) (o := (some (.int x8))) (as := [.ref l1, .int x5]) (V1 := V6) hG dX5_alignToReference_57 l_X5_259 y0X5_isThere yvX5_isThere rfl (Nat.le_of_ble_eq_true rfl) lay_69 kr_5 (by decide) (Nat.le_of_ble_eq_true rfl) rfl rfl rfl (t_X5_isThere hG ⟨rfl, rfl⟩ g7) ?_
    refine sx_if_ne (pc := 60) (tgt := 64) dX5_alignToReference_60 (by decide) (fun c9 => ?_) (fun c9 => ?_)
    · have h := sx_neg c9 h
      refine sx_aload_n (pc := 64) dX5_alignToReference_64 sx_m1 ?_
      refine sx_aload_n (pc := 65) dX5_alignToReference_65 sx_m2 ?_
      refine sx_iload (pc := 66) dX5_alignToReference_66 sx_m0 ?_
      refine sx_aload_n (pc := 68) dX5_alignToReference_68 sx_m1 ?_
      refine sx_aload_n (pc := 69) dX5_alignToReference_69 sx_m2 ?_
      refine sx_iload (pc := 70) dX5_alignToReference_70 sx_m0 ?_
      refine sx_aload_n (pc := 72) dX5_alignToReference_72 sx_m3 ?_
      refine sx_iload_n (pc := 73) dX5_alignToReference_73 sx_m4 ?_
      obtain ⟨⟨x12, V10⟩, g11, h⟩ := sx_bnd h
      refine sv_cV (pc := 74) (y := qX5_longBetween) (o := (some (.long x12))) (as := [.ref l1, .int x5, .ref l2, .int l3]) (V1 := V10) hG dX5_alignToReference_74 l_X5_455 y0X5_longBetween yvX5_longBetween rfl (Nat.le_of_ble_eq_true rfl) lay_69 kr_5 (by decide) (Nat.le_of_ble_eq_true rfl) rfl rfl rfl (t_X5_longBetween hG ⟨rfl, rfl⟩ g11) ?_
      refine sx_lneg (pc := 77) dX5_alignToReference_77 ?_
      obtain ⟨V13, g14, h⟩ := sx_bnd h
      refine sv_cV (pc := 78) (y := qX5_move) (o := none) (as := [.ref l1, .int x5, .long (-x12)]) (V1 := V13) hG dX5_alignToReference_78 l_X5_461 y0X5_move yvX5_move rfl (Nat.le_of_ble_eq_true rfl) lay_69 kr_5 (by decide) (Nat.le_of_ble_eq_true rfl) rfl rfl rfl (t_X5_move hG ⟨rfl, rfl⟩ g14) ?_
      obtain ⟨x15, hx15⟩ : ∃ z : Int32, z = l4 + 1 := ⟨_, rfl⟩
      have h := sx_letE hx15 h
      refine sx_iinc (pc := 81) (v := x15) (lo' := [(4, .int x15), (5, .int x5), (0, .ref 69), (1, .ref l1), (2, .ref l2), (3, .int l3)]) dX5_alignToReference_81 sx_m5 (by rw [hx15]; rfl) (by decide) rfl ?_
      refine sx_goto (pc := 84) (tgt := 35) dX5_alignToReference_84 (by decide) ?_
      refine sx_wk (sx_s1 sx_m2 (sx_s1 sx_m3 (sx_s1 sx_m4 (sx_s1 sx_m5 (sx_s1 sx_m0 sx_s0))))) ?_
      exact hk35 _ _ _ _ _ h
    · have h := sx_pos c9 h
      exact sv_vret (pc := 63) dX5_alignToReference_63 rfl h hP
theorem tL_X5_alignToReference_35 {g : sx_G} (hG : sx_Go g) {P : Option Value → sv_V → Prop} {Vr : sv_V} (hP : P none Vr) {N : Nat}   : ∀ (n : Nat) (l1 : Nat) (l2 : Nat) (l3 : Int32) (l4 : Int32) (V : sv_V), sx_lp5 (B_X5_alignToReference_35 N ) n l1 l2 l3 l4 V = some Vr → sv_N g qX5_alignToReference 2 35 [(0, .ref 69), (1, .ref l1), (2, .ref l2), (3, .int l3), (4, .int l4)] [] V P :=
  sx_lp5_ind (fun k0 ih _ _ _ _ V h => tB_X5_alignToReference_35 hG hP ih h)
def F_X5_alignToReference (N : Nat)  (V : sv_V) : Option sv_V := (F_X5_zone (1 : Int32) V).bind (fun (x18, V16) => (F_X5_zone (0 : Int32) V16).bind (fun (x21, V19) => sx_let (V19.1 71 (0 : Int32).toNatClampNeg) (fun x22 => (F_X5_isThere x21 x22 V19).bind (fun (x25, V23) => if x25 = 0 then (some V23) else (sx_lp5 (B_X5_alignToReference_35 N ) N x18 x21 x22 (0 : Int32) V23)))))
set_option maxRecDepth 20000 in
theorem t_X5_alignToReference {g : sx_G} (hG : sx_Go g) {P : Option Value → sv_V → Prop} {Vr : sv_V} (hP : P none Vr) {N : Nat}  {V : sv_V} (h : F_X5_alignToReference N  V = some Vr) : sv_N g qX5_alignToReference 2 0 [(0, .ref 69)] [] V P := by
  unfold F_X5_alignToReference at h
  refine sx_aload_n (pc := 0) dX5_alignToReference_0 sx_m0 ?_
  refine sx_iconst (pc := 1) (v := 1) dX5_alignToReference_1 (by decide) ?_
  obtain ⟨⟨x18, V16⟩, g17, h⟩ := sx_bnd h
  refine sv_cV (pc := 2) (y := qX5_zone) (o := (some (.ref x18))) (as := [.int (1 : Int32)]) (V1 := V16) hG dX5_alignToReference_2 l_X5_255 y0X5_zone yvX5_zone rfl (Nat.le_of_ble_eq_true rfl) lay_69 kr_5 (by decide) (Nat.le_of_ble_eq_true rfl) rfl rfl rfl (t_X5_zone hG ⟨rfl, rfl⟩ g17) ?_
  refine sx_astore_n (pc := 5) (lo' := [(1, .ref x18), (0, .ref 69)]) dX5_alignToReference_5 (by decide) rfl ?_
  refine sx_aload_n (pc := 6) dX5_alignToReference_6 sx_m1 ?_
  refine sx_iconst (pc := 7) (v := 0) dX5_alignToReference_7 (by decide) ?_
  obtain ⟨⟨x21, V19⟩, g20, h⟩ := sx_bnd h
  refine sv_cV (pc := 8) (y := qX5_zone) (o := (some (.ref x21))) (as := [.int (0 : Int32)]) (V1 := V19) hG dX5_alignToReference_8 l_X5_255 y0X5_zone yvX5_zone rfl (Nat.le_of_ble_eq_true rfl) lay_69 kr_5 (by decide) (Nat.le_of_ble_eq_true rfl) rfl rfl rfl (t_X5_zone hG ⟨rfl, rfl⟩ g20) ?_
  refine sx_astore_n (pc := 11) (lo' := [(2, .ref x21), (1, .ref x18), (0, .ref 69)]) dX5_alignToReference_11 (by decide) rfl ?_
  refine sx_aload_n (pc := 12) dX5_alignToReference_12 sx_m2 ?_
  refine sv_getO (pc := 13) hG dX5_alignToReference_13 f_5_12 lay_69 rfl cr_69_1 ?_
  refine sv_getA (pc := 16) hG dX5_alignToReference_16 f_5_275 lay_70 rfl cr_70_6 ?_
  refine sx_iconst (pc := 19) (v := 0) dX5_alignToReference_19 (by decide) ?_
  refine sv_iald (pc := 20) hG dX5_alignToReference_20 lay_71 (by decide) ?_
  refine sv_tI (fun x22 hx22 => ?_)
  have h := sx_letE hx22 h
  refine sx_istore_n (pc := 21) (lo' := [(3, .int x22), (2, .ref x21), (1, .ref x18), (0, .ref 69)]) dX5_alignToReference_21 (by decide) rfl ?_
  refine sx_aload_n (pc := 22) dX5_alignToReference_22 sx_m3 ?_
  refine sx_aload_n (pc := 23) dX5_alignToReference_23 sx_m1 ?_
  refine sx_iload_n (pc := 24) dX5_alignToReference_24 sx_m0 ?_
  obtain ⟨⟨x25, V23⟩, g24, h⟩ := sx_bnd h
  refine sv_cV (pc := 25) (y := qX5_isThere) (o := (some (.int x25))) (as := [.ref x21, .int x22]) (V1 := V23) hG dX5_alignToReference_25 l_X5_259 y0X5_isThere yvX5_isThere rfl (Nat.le_of_ble_eq_true rfl) lay_69 kr_5 (by decide) (Nat.le_of_ble_eq_true rfl) rfl rfl rfl (t_X5_isThere hG ⟨rfl, rfl⟩ g24) ?_
  refine sx_if_ne (pc := 28) (tgt := 32) dX5_alignToReference_28 (by decide) (fun c26 => ?_) (fun c26 => ?_)
  · have h := sx_neg c26 h
    refine sx_iconst (pc := 32) (v := 0) dX5_alignToReference_32 (by decide) ?_
    refine sx_istore (pc := 33) (lo' := [(4, .int (0 : Int32)), (3, .int x22), (2, .ref x21), (1, .ref x18), (0, .ref 69)]) dX5_alignToReference_33 (by decide) rfl ?_
    refine sx_wk (sx_s1 sx_m4 (sx_s1 sx_m3 (sx_s1 sx_m2 (sx_s1 sx_m1 (sx_s1 sx_m0 sx_s0))))) ?_
    exact tL_X5_alignToReference_35 hG hP  N _ _ _ _ _ h
  · have h := sx_pos c26 h
    exact sv_vret (pc := 31) dX5_alignToReference_31 rfl h hP
theorem dX5_plant_0 : decode cX5_plant 0 = .ok (.aload_n 1, 1) := by decide +kernel
theorem dX5_plant_1 : decode cX5_plant 1 = .ok (.getfield 204, 3) := by decide +kernel
theorem dX5_plant_4 : decode cX5_plant 4 = .ok (.iload_n 2, 1) := by decide +kernel
theorem dX5_plant_5 : decode cX5_plant 5 = .ok (.iload_n 3, 1) := by decide +kernel
theorem dX5_plant_6 : decode cX5_plant 6 = .ok (.lload 5, 2) := by decide +kernel
theorem dX5_plant_8 : decode cX5_plant 8 = .ok (.aload_n 0, 1) := by decide +kernel
theorem dX5_plant_9 : decode cX5_plant 9 = .ok (.getfield 12, 3) := by decide +kernel
theorem dX5_plant_12 : decode cX5_plant 12 = .ok (.getfield 210, 3) := by decide +kernel
theorem dX5_plant_15 : decode cX5_plant 15 = .ok (.i2l, 1) := by decide +kernel
theorem dX5_plant_16 : decode cX5_plant 16 = .ok (.lmul, 1) := by decide +kernel
theorem dX5_plant_17 : decode cX5_plant 17 = .ok (.ldc2_w 190, 3) := by decide +kernel
theorem dX5_plant_20 : decode cX5_plant 20 = .ok (.invokestatic 75, 3) := by decide +kernel
theorem dX5_plant_23 : decode cX5_plant 23 = .ok (.l2i, 1) := by decide +kernel
theorem dX5_plant_24 : decode cX5_plant 24 = .ok (.iadd, 1) := by decide +kernel
theorem dX5_plant_25 : decode cX5_plant 25 = .ok (.iastore, 1) := by decide +kernel
theorem dX5_plant_26 : decode cX5_plant 26 = .ok (.aload_n 1, 1) := by decide +kernel
theorem dX5_plant_27 : decode cX5_plant 27 = .ok (.getfield 207, 3) := by decide +kernel
theorem dX5_plant_30 : decode cX5_plant 30 = .ok (.iload_n 2, 1) := by decide +kernel
theorem dX5_plant_31 : decode cX5_plant 31 = .ok (.iload 4, 2) := by decide +kernel
theorem dX5_plant_33 : decode cX5_plant 33 = .ok (.lload 5, 2) := by decide +kernel
theorem dX5_plant_35 : decode cX5_plant 35 = .ok (.aload_n 0, 1) := by decide +kernel
theorem dX5_plant_36 : decode cX5_plant 36 = .ok (.getfield 12, 3) := by decide +kernel
theorem dX5_plant_39 : decode cX5_plant 39 = .ok (.getfield 213, 3) := by decide +kernel
theorem dX5_plant_42 : decode cX5_plant 42 = .ok (.i2l, 1) := by decide +kernel
theorem dX5_plant_43 : decode cX5_plant 43 = .ok (.lmul, 1) := by decide +kernel
theorem dX5_plant_44 : decode cX5_plant 44 = .ok (.ldc2_w 190, 3) := by decide +kernel
theorem dX5_plant_47 : decode cX5_plant 47 = .ok (.invokestatic 75, 3) := by decide +kernel
theorem dX5_plant_50 : decode cX5_plant 50 = .ok (.l2i, 1) := by decide +kernel
theorem dX5_plant_51 : decode cX5_plant 51 = .ok (.iadd, 1) := by decide +kernel
theorem dX5_plant_52 : decode cX5_plant 52 = .ok (.iastore, 1) := by decide +kernel
theorem dX5_plant_53 : decode cX5_plant 53 = .ok (.aload_n 1, 1) := by decide +kernel
theorem dX5_plant_54 : decode cX5_plant 54 = .ok (.getfield 198, 3) := by decide +kernel
theorem dX5_plant_57 : decode cX5_plant 57 = .ok (.iload_n 2, 1) := by decide +kernel
theorem dX5_plant_58 : decode cX5_plant 58 = .ok (.aload_n 1, 1) := by decide +kernel
theorem dX5_plant_59 : decode cX5_plant 59 = .ok (.getfield 204, 3) := by decide +kernel
theorem dX5_plant_62 : decode cX5_plant 62 = .ok (.iload_n 2, 1) := by decide +kernel
theorem dX5_plant_63 : decode cX5_plant 63 = .ok (.iaload, 1) := by decide +kernel
theorem dX5_plant_64 : decode cX5_plant 64 = .ok (.iastore, 1) := by decide +kernel
theorem dX5_plant_65 : decode cX5_plant 65 = .ok (.aload_n 1, 1) := by decide +kernel
theorem dX5_plant_66 : decode cX5_plant 66 = .ok (.getfield 201, 3) := by decide +kernel
theorem dX5_plant_69 : decode cX5_plant 69 = .ok (.iload_n 2, 1) := by decide +kernel
theorem dX5_plant_70 : decode cX5_plant 70 = .ok (.aload_n 1, 1) := by decide +kernel
theorem dX5_plant_71 : decode cX5_plant 71 = .ok (.getfield 207, 3) := by decide +kernel
theorem dX5_plant_74 : decode cX5_plant 74 = .ok (.iload_n 2, 1) := by decide +kernel
theorem dX5_plant_75 : decode cX5_plant 75 = .ok (.iaload, 1) := by decide +kernel
theorem dX5_plant_76 : decode cX5_plant 76 = .ok (.iastore, 1) := by decide +kernel
theorem dX5_plant_77 : decode cX5_plant 77 = .ok (.return_, 1) := by decide +kernel
def F_X5_plant (l1 : Nat) (l2 : Int32) (l3 : Int32) (l4 : Int32) (l5 : Int64) (V : sv_V) : Option sv_V := if lay l1 = .inl 8 then (cr l1 2).bind (fun b2 => (F_X11_nearest (l5 * ((V.1 70 0).toInt64)) (16384 : Int64) V).bind (fun (x6, V4) => (sv_len 0 b2).bind (fun n7 => if sx_in l2 n7 = true then sx_let (sv_I V4 b2 l2.toNatClampNeg (l3 + x6.toInt32)) (fun V10 => (cr l1 3).bind (fun b11 => (F_X11_nearest (l5 * ((V10.1 70 1).toInt64)) (16384 : Int64) V10).bind (fun (x15, V13) => (sv_len 0 b11).bind (fun n16 => if sx_in l2 n16 = true then sx_let (sv_I V13 b11 l2.toNatClampNeg (l4 + x15.toInt32)) (fun V19 => (cr l1 0).bind (fun b20 => if sx_in l2 n7 = true then (sv_len 0 b20).bind (fun n23 => if sx_in l2 n23 = true then sx_let (sv_I V19 b20 l2.toNatClampNeg (V19.1 b2 l2.toNatClampNeg)) (fun V26 => (cr l1 1).bind (fun b27 => if sx_in l2 n16 = true then (sv_len 0 b27).bind (fun n30 => if sx_in l2 n30 = true then sx_let (sv_I V26 b27 l2.toNatClampNeg (V26.1 b11 l2.toNatClampNeg)) (fun V33 => some V33) else none) else none)) else none) else none)) else none)))) else none))) else none
set_option maxRecDepth 20000 in
theorem t_X5_plant {g : sx_G} (hG : sx_Go g) {P : Option Value → sv_V → Prop} {Vr : sv_V} (hP : P none Vr) {l1 : Nat} {l2 : Int32} {l3 : Int32} {l4 : Int32} {l5 : Int64} {V : sv_V} (h : F_X5_plant l1 l2 l3 l4 l5 V = some Vr) : sv_N g qX5_plant 1 0 [(0, .ref 69), (1, .ref l1), (2, .int l2), (3, .int l3), (4, .int l4), (5, .long l5)] [] V P := by
  unfold F_X5_plant at h
  refine sx_aload_n (pc := 0) dX5_plant_0 sx_m1 ?_
  obtain ⟨g1, h⟩ := sx_grd h
  obtain ⟨b2, g3, h⟩ := sx_bnd h
  refine sv_getA (pc := 1) hG dX5_plant_1 f_5_204 g1 rfl g3 ?_
  refine sx_iload_n (pc := 4) dX5_plant_4 sx_m2 ?_
  refine sx_iload_n (pc := 5) dX5_plant_5 sx_m3 ?_
  refine sx_lload (pc := 6) dX5_plant_6 sx_m5 ?_
  refine sx_aload_n (pc := 8) dX5_plant_8 sx_m0 ?_
  refine sv_getO (pc := 9) hG dX5_plant_9 f_5_12 lay_69 rfl cr_69_1 ?_
  refine sv_getI (pc := 12) hG dX5_plant_12 f_5_210 lay_70 rfl ?_
  refine sx_i2l (pc := 15) dX5_plant_15 ?_
  refine sx_lmul (pc := 16) dX5_plant_16 ?_
  refine sx_ldc2 (pc := 17) dX5_plant_17 k_X5_190 ?_
  obtain ⟨⟨x6, V4⟩, g5, h⟩ := sx_bnd h
  refine sv_cN (pc := 20) (y := qX11_nearest) (o := (some (.long x6))) (as := [.long (l5 * ((V.1 70 0).toInt64)), .long (16384 : Int64)]) (V1 := V4) dX5_plant_20 n_X5_75 y0X11_nearest ysX11_nearest rfl (Nat.le_of_ble_eq_true rfl) (by decide) (Nat.le_of_ble_eq_true rfl) rfl rfl rfl (t_X11_nearest hG ⟨rfl, rfl⟩ g5) ?_
  refine sx_l2i (pc := 23) dX5_plant_23 ?_
  refine sx_iadd (pc := 24) dX5_plant_24 ?_
  obtain ⟨n7, g8, h⟩ := sx_bnd h
  obtain ⟨g9, h⟩ := sx_grd h
  obtain ⟨V10, hV10⟩ : ∃ z : sv_V, z = sv_I V4 b2 l2.toNatClampNeg (l3 + x6.toInt32) := ⟨_, rfl⟩
  have h := sx_letE hV10 h
  refine sv_iast (pc := 25) hG dX5_plant_25 (sv_len_e g8) g9 hV10 ?_
  refine sx_aload_n (pc := 26) dX5_plant_26 sx_m1 ?_
  obtain ⟨b11, g12, h⟩ := sx_bnd h
  refine sv_getA (pc := 27) hG dX5_plant_27 f_5_207 g1 rfl g12 ?_
  refine sx_iload_n (pc := 30) dX5_plant_30 sx_m2 ?_
  refine sx_iload (pc := 31) dX5_plant_31 sx_m4 ?_
  refine sx_lload (pc := 33) dX5_plant_33 sx_m5 ?_
  refine sx_aload_n (pc := 35) dX5_plant_35 sx_m0 ?_
  refine sv_getO (pc := 36) hG dX5_plant_36 f_5_12 lay_69 rfl cr_69_1 ?_
  refine sv_getI (pc := 39) hG dX5_plant_39 f_5_213 lay_70 rfl ?_
  refine sx_i2l (pc := 42) dX5_plant_42 ?_
  refine sx_lmul (pc := 43) dX5_plant_43 ?_
  refine sx_ldc2 (pc := 44) dX5_plant_44 k_X5_190 ?_
  obtain ⟨⟨x15, V13⟩, g14, h⟩ := sx_bnd h
  refine sv_cN (pc := 47) (y := qX11_nearest) (o := (some (.long x15))) (as := [.long (l5 * ((V10.1 70 1).toInt64)), .long (16384 : Int64)]) (V1 := V13) dX5_plant_47 n_X5_75 y0X11_nearest ysX11_nearest rfl (Nat.le_of_ble_eq_true rfl) (by decide) (Nat.le_of_ble_eq_true rfl) rfl rfl rfl (t_X11_nearest hG ⟨rfl, rfl⟩ g14) ?_
  refine sx_l2i (pc := 50) dX5_plant_50 ?_
  refine sx_iadd (pc := 51) dX5_plant_51 ?_
  obtain ⟨n16, g17, h⟩ := sx_bnd h
  obtain ⟨g18, h⟩ := sx_grd h
  obtain ⟨V19, hV19⟩ : ∃ z : sv_V, z = sv_I V13 b11 l2.toNatClampNeg (l4 + x15.toInt32) := ⟨_, rfl⟩
  have h := sx_letE hV19 h
  refine sv_iast (pc := 52) hG dX5_plant_52 (sv_len_e g17) g18 hV19 ?_
  refine sx_aload_n (pc := 53) dX5_plant_53 sx_m1 ?_
  obtain ⟨b20, g21, h⟩ := sx_bnd h
  refine sv_getA (pc := 54) hG dX5_plant_54 f_5_198 g1 rfl g21 ?_
  refine sx_iload_n (pc := 57) dX5_plant_57 sx_m2 ?_
  refine sx_aload_n (pc := 58) dX5_plant_58 sx_m1 ?_
  refine sv_getA (pc := 59) hG dX5_plant_59 f_5_204 g1 rfl g3 ?_
  refine sx_iload_n (pc := 62) dX5_plant_62 sx_m2 ?_
  obtain ⟨g22, h⟩ := sx_grd h
  refine sv_iald (pc := 63) hG dX5_plant_63 (sv_len_e g8) g22 ?_
  obtain ⟨n23, g24, h⟩ := sx_bnd h
  obtain ⟨g25, h⟩ := sx_grd h
  obtain ⟨V26, hV26⟩ : ∃ z : sv_V, z = sv_I V19 b20 l2.toNatClampNeg (V19.1 b2 l2.toNatClampNeg) := ⟨_, rfl⟩
  have h := sx_letE hV26 h
  refine sv_iast (pc := 64) hG dX5_plant_64 (sv_len_e g24) g25 hV26 ?_
  refine sx_aload_n (pc := 65) dX5_plant_65 sx_m1 ?_
  obtain ⟨b27, g28, h⟩ := sx_bnd h
  refine sv_getA (pc := 66) hG dX5_plant_66 f_5_201 g1 rfl g28 ?_
  refine sx_iload_n (pc := 69) dX5_plant_69 sx_m2 ?_
  refine sx_aload_n (pc := 70) dX5_plant_70 sx_m1 ?_
  refine sv_getA (pc := 71) hG dX5_plant_71 f_5_207 g1 rfl g12 ?_
  refine sx_iload_n (pc := 74) dX5_plant_74 sx_m2 ?_
  obtain ⟨g29, h⟩ := sx_grd h
  refine sv_iald (pc := 75) hG dX5_plant_75 (sv_len_e g17) g29 ?_
  obtain ⟨n30, g31, h⟩ := sx_bnd h
  obtain ⟨g32, h⟩ := sx_grd h
  obtain ⟨V33, hV33⟩ : ∃ z : sv_V, z = sv_I V26 b27 l2.toNatClampNeg (V26.1 b11 l2.toNatClampNeg) := ⟨_, rfl⟩
  have h := sx_letE hV33 h
  refine sv_iast (pc := 76) hG dX5_plant_76 (sv_len_e g31) g32 hV33 ?_
  exact sv_vret (pc := 77) dX5_plant_77 rfl h hP
theorem dX5_moveFromReference_0 : decode cX5_moveFromReference 0 = .ok (.aload_n 0, 1) := by decide +kernel
theorem dX5_moveFromReference_1 : decode cX5_moveFromReference 1 = .ok (.invokevirtual 242, 3) := by decide +kernel
theorem dX5_moveFromReference_4 : decode cX5_moveFromReference 4 = .ok (.istore_n 2, 1) := by decide +kernel
theorem dX5_moveFromReference_5 : decode cX5_moveFromReference 5 = .ok (.aload_n 0, 1) := by decide +kernel
theorem dX5_moveFromReference_6 : decode cX5_moveFromReference 6 = .ok (.invokevirtual 242, 3) := by decide +kernel
theorem dX5_moveFromReference_9 : decode cX5_moveFromReference 9 = .ok (.istore_n 3, 1) := by decide +kernel
theorem dX5_moveFromReference_10 : decode cX5_moveFromReference 10 = .ok (.aload_n 0, 1) := by decide +kernel
theorem dX5_moveFromReference_11 : decode cX5_moveFromReference 11 = .ok (.iconst 1, 1) := by decide +kernel
theorem dX5_moveFromReference_12 : decode cX5_moveFromReference 12 = .ok (.invokevirtual 255, 3) := by decide +kernel
theorem dX5_moveFromReference_15 : decode cX5_moveFromReference 15 = .ok (.astore 4, 2) := by decide +kernel
theorem dX5_moveFromReference_17 : decode cX5_moveFromReference 17 = .ok (.aload_n 0, 1) := by decide +kernel
theorem dX5_moveFromReference_18 : decode cX5_moveFromReference 18 = .ok (.iconst 0, 1) := by decide +kernel
theorem dX5_moveFromReference_19 : decode cX5_moveFromReference 19 = .ok (.invokevirtual 255, 3) := by decide +kernel
theorem dX5_moveFromReference_22 : decode cX5_moveFromReference 22 = .ok (.astore 5, 2) := by decide +kernel
theorem dX5_moveFromReference_24 : decode cX5_moveFromReference 24 = .ok (.aload_n 0, 1) := by decide +kernel
theorem dX5_moveFromReference_25 : decode cX5_moveFromReference 25 = .ok (.getfield 12, 3) := by decide +kernel
theorem dX5_moveFromReference_28 : decode cX5_moveFromReference 28 = .ok (.getfield 275, 3) := by decide +kernel
theorem dX5_moveFromReference_31 : decode cX5_moveFromReference 31 = .ok (.iconst 0, 1) := by decide +kernel
theorem dX5_moveFromReference_32 : decode cX5_moveFromReference 32 = .ok (.iaload, 1) := by decide +kernel
theorem dX5_moveFromReference_33 : decode cX5_moveFromReference 33 = .ok (.istore 6, 2) := by decide +kernel
theorem dX5_moveFromReference_35 : decode cX5_moveFromReference 35 = .ok (.aload_n 0, 1) := by decide +kernel
theorem dX5_moveFromReference_36 : decode cX5_moveFromReference 36 = .ok (.aload 4, 2) := by decide +kernel
theorem dX5_moveFromReference_38 : decode cX5_moveFromReference 38 = .ok (.iload_n 3, 1) := by decide +kernel
theorem dX5_moveFromReference_39 : decode cX5_moveFromReference 39 = .ok (.invokevirtual 259, 3) := by decide +kernel
theorem dX5_moveFromReference_42 : decode cX5_moveFromReference 42 = .ok (.ifCond .eq 14, 3) := by decide +kernel
theorem dX5_moveFromReference_45 : decode cX5_moveFromReference 45 = .ok (.aload_n 0, 1) := by decide +kernel
theorem dX5_moveFromReference_46 : decode cX5_moveFromReference 46 = .ok (.aload 5, 2) := by decide +kernel
theorem dX5_moveFromReference_48 : decode cX5_moveFromReference 48 = .ok (.iload 6, 2) := by decide +kernel
theorem dX5_moveFromReference_50 : decode cX5_moveFromReference 50 = .ok (.invokevirtual 259, 3) := by decide +kernel
theorem dX5_moveFromReference_53 : decode cX5_moveFromReference 53 = .ok (.ifCond .ne 4, 3) := by decide +kernel
theorem dX5_moveFromReference_56 : decode cX5_moveFromReference 56 = .ok (.return_, 1) := by decide +kernel
theorem dX5_moveFromReference_57 : decode cX5_moveFromReference 57 = .ok (.aload_n 0, 1) := by decide +kernel
theorem dX5_moveFromReference_58 : decode cX5_moveFromReference 58 = .ok (.getfield 12, 3) := by decide +kernel
theorem dX5_moveFromReference_61 : decode cX5_moveFromReference 61 = .ok (.getfield 172, 3) := by decide +kernel
theorem dX5_moveFromReference_64 : decode cX5_moveFromReference 64 = .ok (.iconst 1, 1) := by decide +kernel
theorem dX5_moveFromReference_65 : decode cX5_moveFromReference 65 = .ok (.iaload, 1) := by decide +kernel
theorem dX5_moveFromReference_66 : decode cX5_moveFromReference 66 = .ok (.ifCond .ne 28, 3) := by decide +kernel
theorem dX5_moveFromReference_69 : decode cX5_moveFromReference 69 = .ok (.aload_n 0, 1) := by decide +kernel
theorem dX5_moveFromReference_70 : decode cX5_moveFromReference 70 = .ok (.aload 4, 2) := by decide +kernel
theorem dX5_moveFromReference_72 : decode cX5_moveFromReference 72 = .ok (.iload_n 3, 1) := by decide +kernel
theorem dX5_moveFromReference_73 : decode cX5_moveFromReference 73 = .ok (.aload 5, 2) := by decide +kernel
theorem dX5_moveFromReference_75 : decode cX5_moveFromReference 75 = .ok (.getfield 204, 3) := by decide +kernel
theorem dX5_moveFromReference_78 : decode cX5_moveFromReference 78 = .ok (.iload 6, 2) := by decide +kernel
theorem dX5_moveFromReference_80 : decode cX5_moveFromReference 80 = .ok (.iaload, 1) := by decide +kernel
theorem dX5_moveFromReference_81 : decode cX5_moveFromReference 81 = .ok (.aload 5, 2) := by decide +kernel
theorem dX5_moveFromReference_83 : decode cX5_moveFromReference 83 = .ok (.getfield 207, 3) := by decide +kernel
theorem dX5_moveFromReference_86 : decode cX5_moveFromReference 86 = .ok (.iload 6, 2) := by decide +kernel
theorem dX5_moveFromReference_88 : decode cX5_moveFromReference 88 = .ok (.iaload, 1) := by decide +kernel
theorem dX5_moveFromReference_89 : decode cX5_moveFromReference 89 = .ok (.iload_n 2, 1) := by decide +kernel
theorem dX5_moveFromReference_90 : decode cX5_moveFromReference 90 = .ok (.i2l, 1) := by decide +kernel
theorem dX5_moveFromReference_91 : decode cX5_moveFromReference 91 = .ok (.invokevirtual 530, 3) := by decide +kernel
theorem dX5_moveFromReference_94 : decode cX5_moveFromReference 94 = .ok (.aload_n 0, 1) := by decide +kernel
theorem dX5_moveFromReference_95 : decode cX5_moveFromReference 95 = .ok (.aload 4, 2) := by decide +kernel
theorem dX5_moveFromReference_97 : decode cX5_moveFromReference 97 = .ok (.iload_n 3, 1) := by decide +kernel
theorem dX5_moveFromReference_98 : decode cX5_moveFromReference 98 = .ok (.iload_n 2, 1) := by decide +kernel
theorem dX5_moveFromReference_99 : decode cX5_moveFromReference 99 = .ok (.i2l, 1) := by decide +kernel
theorem dX5_moveFromReference_100 : decode cX5_moveFromReference 100 = .ok (.aload_n 0, 1) := by decide +kernel
theorem dX5_moveFromReference_101 : decode cX5_moveFromReference 101 = .ok (.aload 4, 2) := by decide +kernel
theorem dX5_moveFromReference_103 : decode cX5_moveFromReference 103 = .ok (.iload_n 3, 1) := by decide +kernel
theorem dX5_moveFromReference_104 : decode cX5_moveFromReference 104 = .ok (.aload 5, 2) := by decide +kernel
theorem dX5_moveFromReference_106 : decode cX5_moveFromReference 106 = .ok (.iload 6, 2) := by decide +kernel
theorem dX5_moveFromReference_108 : decode cX5_moveFromReference 108 = .ok (.invokevirtual 455, 3) := by decide +kernel
theorem dX5_moveFromReference_111 : decode cX5_moveFromReference 111 = .ok (.lsub, 1) := by decide +kernel
theorem dX5_moveFromReference_112 : decode cX5_moveFromReference 112 = .ok (.invokevirtual 461, 3) := by decide +kernel
theorem dX5_moveFromReference_115 : decode cX5_moveFromReference 115 = .ok (.aload_n 0, 1) := by decide +kernel
theorem dX5_moveFromReference_116 : decode cX5_moveFromReference 116 = .ok (.iload_n 3, 1) := by decide +kernel
theorem dX5_moveFromReference_117 : decode cX5_moveFromReference 117 = .ok (.iload_n 1, 1) := by decide +kernel
theorem dX5_moveFromReference_118 : decode cX5_moveFromReference 118 = .ok (.bipush 59, 2) := by decide +kernel
theorem dX5_moveFromReference_120 : decode cX5_moveFromReference 120 = .ok (.if_icmp .ne 7, 3) := by decide +kernel
theorem dX5_moveFromReference_123 : decode cX5_moveFromReference 123 = .ok (.iconst 1, 1) := by decide +kernel
theorem dX5_moveFromReference_124 : decode cX5_moveFromReference 124 = .ok (.goto 4, 3) := by decide +kernel
theorem dX5_moveFromReference_127 : decode cX5_moveFromReference 127 = .ok (.iconst 0, 1) := by decide +kernel
theorem dX5_moveFromReference_128 : decode cX5_moveFromReference 128 = .ok (.invokevirtual 534, 3) := by decide +kernel
theorem dX5_moveFromReference_131 : decode cX5_moveFromReference 131 = .ok (.return_, 1) := by decide +kernel
def B_X5_moveFromReference_128  (s1 : Int32) (s2 : Int32) (V : sv_V) : Option sv_V := (F_X5_noteReferences s1 s2 V).bind (fun V1 => some V1)
set_option maxRecDepth 20000 in
theorem tB_X5_moveFromReference_128 {g : sx_G} (hG : sx_Go g) {P : Option Value → sv_V → Prop} {Vr : sv_V} (hP : P none Vr)   {s1 : Int32} {s2 : Int32} {V : sv_V} (h : B_X5_moveFromReference_128  s1 s2 V = some Vr) : sv_N g qX5_moveFromReference 2 128 [] [.int s2, .int s1, .ref 69] V P := by
  unfold B_X5_moveFromReference_128 at h
  obtain ⟨V1, g2, h⟩ := sx_bnd h
  refine sv_cV (pc := 128) (y := qX5_noteReferences) (o := none) (as := [.int s1, .int s2]) (V1 := V1) hG dX5_moveFromReference_128 l_X5_534 y0X5_noteReferences yvX5_noteReferences rfl (Nat.le_of_ble_eq_true rfl) lay_69 kr_5 (by decide) (Nat.le_of_ble_eq_true rfl) rfl rfl rfl (t_X5_noteReferences hG ⟨rfl, rfl⟩ g2) ?_
  exact sv_vret (pc := 131) dX5_moveFromReference_131 rfl h hP
def B_X5_moveFromReference_94  (l1 : Int32) (l2 : Int32) (l3 : Int32) (l4 : Nat) (l5 : Nat) (l6 : Int32) (V : sv_V) : Option sv_V := (F_X5_longBetween l4 l3 l5 l6 V).bind (fun (x5, V3) => (F_X5_move l4 l3 (l2.toInt64 - x5) V3).bind (fun V6 => if l1 = (59 : Int32) then (B_X5_moveFromReference_128  l3 (1 : Int32) V6) else (B_X5_moveFromReference_128  l3 (0 : Int32) V6)))
set_option maxRecDepth 20000 in
theorem tB_X5_moveFromReference_94 {g : sx_G} (hG : sx_Go g) {P : Option Value → sv_V → Prop} {Vr : sv_V} (hP : P none Vr)   {l1 : Int32} {l2 : Int32} {l3 : Int32} {l4 : Nat} {l5 : Nat} {l6 : Int32} {V : sv_V} (h : B_X5_moveFromReference_94  l1 l2 l3 l4 l5 l6 V = some Vr) : sv_N g qX5_moveFromReference 2 94 [(0, .ref 69), (1, .int l1), (2, .int l2), (3, .int l3), (4, .ref l4), (5, .ref l5), (6, .int l6)] [] V P := by
  unfold B_X5_moveFromReference_94 at h
  refine sx_aload_n (pc := 94) dX5_moveFromReference_94 sx_m0 ?_
  refine sx_aload (pc := 95) dX5_moveFromReference_95 sx_m4 ?_
  refine sx_iload_n (pc := 97) dX5_moveFromReference_97 sx_m3 ?_
  refine sx_iload_n (pc := 98) dX5_moveFromReference_98 sx_m2 ?_
  refine sx_i2l (pc := 99) dX5_moveFromReference_99 ?_
  refine sx_aload_n (pc := 100) dX5_moveFromReference_100 sx_m0 ?_
  refine sx_aload (pc := 101) dX5_moveFromReference_101 sx_m4 ?_
  refine sx_iload_n (pc := 103) dX5_moveFromReference_103 sx_m3 ?_
  refine sx_aload (pc := 104) dX5_moveFromReference_104 sx_m5 ?_
  refine sx_iload (pc := 106) dX5_moveFromReference_106 sx_m6 ?_
  obtain ⟨⟨x5, V3⟩, g4, h⟩ := sx_bnd h
  refine sv_cV (pc := 108) (y := qX5_longBetween) (o := (some (.long x5))) (as := [.ref l4, .int l3, .ref l5, .int l6]) (V1 := V3) hG dX5_moveFromReference_108 l_X5_455 y0X5_longBetween yvX5_longBetween rfl (Nat.le_of_ble_eq_true rfl) lay_69 kr_5 (by decide) (Nat.le_of_ble_eq_true rfl) rfl rfl rfl (t_X5_longBetween hG ⟨rfl, rfl⟩ g4) ?_
  refine sx_lsub (pc := 111) dX5_moveFromReference_111 ?_
  obtain ⟨V6, g7, h⟩ := sx_bnd h
  refine sv_cV (pc := 112) (y := qX5_move) (o := none) (as := [.ref l4, .int l3, .long (l2.toInt64 - x5)]) (V1 := V6) hG dX5_moveFromReference_112 l_X5_461 y0X5_move yvX5_move rfl (Nat.le_of_ble_eq_true rfl) lay_69 kr_5 (by decide) (Nat.le_of_ble_eq_true rfl) rfl rfl rfl (t_X5_move hG ⟨rfl, rfl⟩ g7) ?_
  refine sx_aload_n (pc := 115) dX5_moveFromReference_115 sx_m0 ?_
  refine sx_iload_n (pc := 116) dX5_moveFromReference_116 sx_m3 ?_
  refine sx_iload_n (pc := 117) dX5_moveFromReference_117 sx_m1 ?_
  refine sx_bipush (pc := 118) (v := 59) dX5_moveFromReference_118 (by decide) ?_
  refine sx_icmp_ne (pc := 120) (tgt := 127) dX5_moveFromReference_120 (by decide) (fun c8 => ?_) (fun c8 => ?_)
  · have h := sx_neg c8 h
    refine sx_iconst (pc := 127) (v := 0) dX5_moveFromReference_127 (by decide) ?_
    refine sx_wk sx_s0 ?_
    exact tB_X5_moveFromReference_128 hG hP  h
  · have h := sx_pos c8 h
    refine sx_iconst (pc := 123) (v := 1) dX5_moveFromReference_123 (by decide) ?_
    refine sx_goto (pc := 124) (tgt := 128) dX5_moveFromReference_124 (by decide) ?_
    refine sx_wk sx_s0 ?_
    exact tB_X5_moveFromReference_128 hG hP  h
def F_X5_moveFromReference (l1 : Int32) (V : sv_V) : Option sv_V := (F_X5_pop  V).bind (fun (x11, V9) => (F_X5_pop  V9).bind (fun (x14, V12) => (F_X5_zone (1 : Int32) V12).bind (fun (x17, V15) => (F_X5_zone (0 : Int32) V15).bind (fun (x20, V18) => sx_let (V18.1 71 (0 : Int32).toNatClampNeg) (fun x21 => (F_X5_isThere x17 x14 V18).bind (fun (x24, V22) => if x24 = 0 then (some V22) else ((F_X5_isThere x20 x21 V22).bind (fun (x28, V26) => if x28 = 0 then (some V26) else (if (V26.1 72 (1 : Int32).toNatClampNeg) = 0 then (if lay x20 = .inl 8 then (cr x20 2).bind (fun b32 => (sv_len 0 b32).bind (fun n34 => if sx_in x21 n34 = true then (cr x20 3).bind (fun b37 => (sv_len 0 b37).bind (fun n39 => if sx_in x21 n39 = true then (F_X5_plant x17 x14 (V26.1 b32 x21.toNatClampNeg) (V26.1 b37 x21.toNatClampNeg) x11.toInt64 V26).bind (fun V42 => B_X5_moveFromReference_94  l1 x11 x14 x17 x20 x21 V42) else none)) else none)) else none) else (B_X5_moveFromReference_94  l1 x11 x14 x17 x20 x21 V26))))))))))
set_option maxRecDepth 20000 in
theorem t_X5_moveFromReference {g : sx_G} (hG : sx_Go g) {P : Option Value → sv_V → Prop} {Vr : sv_V} (hP : P none Vr) {l1 : Int32} {V : sv_V} (h : F_X5_moveFromReference l1 V = some Vr) : sv_N g qX5_moveFromReference 2 0 [(0, .ref 69), (1, .int l1)] [] V P := by
  unfold F_X5_moveFromReference at h
  refine sx_aload_n (pc := 0) dX5_moveFromReference_0 sx_m0 ?_
  obtain ⟨⟨x11, V9⟩, g10, h⟩ := sx_bnd h
  refine sv_cV (pc := 1) (y := qX5_pop) (o := (some (.int x11))) (as := []) (V1 := V9) hG dX5_moveFromReference_1 l_X5_242 y0X5_pop yvX5_pop rfl (Nat.le_of_ble_eq_true rfl) lay_69 kr_5 (by decide) (Nat.le_of_ble_eq_true rfl) rfl rfl rfl (t_X5_pop hG ⟨rfl, rfl⟩ g10) ?_
  refine sx_istore_n (pc := 4) (lo' := [(2, .int x11), (0, .ref 69), (1, .int l1)]) dX5_moveFromReference_4 (by decide) rfl ?_
  refine sx_aload_n (pc := 5) dX5_moveFromReference_5 sx_m1 ?_
  obtain ⟨⟨x14, V12⟩, g13, h⟩ := sx_bnd h
  refine sv_cV (pc := 6) (y := qX5_pop) (o := (some (.int x14))) (as := []) (V1 := V12) hG dX5_moveFromReference_6 l_X5_242 y0X5_pop yvX5_pop rfl (Nat.le_of_ble_eq_true rfl) lay_69 kr_5 (by decide) (Nat.le_of_ble_eq_true rfl) rfl rfl rfl (t_X5_pop hG ⟨rfl, rfl⟩ g13) ?_
  refine sx_istore_n (pc := 9) (lo' := [(3, .int x14), (2, .int x11), (0, .ref 69), (1, .int l1)]) dX5_moveFromReference_9 (by decide) rfl ?_
  refine sx_aload_n (pc := 10) dX5_moveFromReference_10 sx_m2 ?_
  refine sx_iconst (pc := 11) (v := 1) dX5_moveFromReference_11 (by decide) ?_
  obtain ⟨⟨x17, V15⟩, g16, h⟩ := sx_bnd h
  refine sv_cV (pc := 12) (y := qX5_zone) (o := (some (.ref x17))) (as := [.int (1 : Int32)]) (V1 := V15) hG dX5_moveFromReference_12 l_X5_255 y0X5_zone yvX5_zone rfl (Nat.le_of_ble_eq_true rfl) lay_69 kr_5 (by decide) (Nat.le_of_ble_eq_true rfl) rfl rfl rfl (t_X5_zone hG ⟨rfl, rfl⟩ g16) ?_
  refine sx_astore (pc := 15) (lo' := [(4, .ref x17), (3, .int x14), (2, .int x11), (0, .ref 69), (1, .int l1)]) dX5_moveFromReference_15 (by decide) rfl ?_
  refine sx_aload_n (pc := 17) dX5_moveFromReference_17 sx_m3 ?_
  refine sx_iconst (pc := 18) (v := 0) dX5_moveFromReference_18 (by decide) ?_
  obtain ⟨⟨x20, V18⟩, g19, h⟩ := sx_bnd h
  refine sv_cV (pc := 19) (y := qX5_zone) (o := (some (.ref x20))) (as := [.int (0 : Int32)]) (V1 := V18) hG dX5_moveFromReference_19 l_X5_255 y0X5_zone yvX5_zone rfl (Nat.le_of_ble_eq_true rfl) lay_69 kr_5 (by decide) (Nat.le_of_ble_eq_true rfl) rfl rfl rfl (t_X5_zone hG ⟨rfl, rfl⟩ g19) ?_
  refine sx_astore (pc := 22) (lo' := [(5, .ref x20), (4, .ref x17), (3, .int x14), (2, .int x11), (0, .ref 69), (1, .int l1)]) dX5_moveFromReference_22 (by decide) rfl ?_
  refine sx_aload_n (pc := 24) dX5_moveFromReference_24 sx_m4 ?_
  refine sv_getO (pc := 25) hG dX5_moveFromReference_25 f_5_12 lay_69 rfl cr_69_1 ?_
  refine sv_getA (pc := 28) hG dX5_moveFromReference_28 f_5_275 lay_70 rfl cr_70_6 ?_
  refine sx_iconst (pc := 31) (v := 0) dX5_moveFromReference_31 (by decide) ?_
  refine sv_iald (pc := 32) hG dX5_moveFromReference_32 lay_71 (by decide) ?_
  refine sv_tI (fun x21 hx21 => ?_)
  have h := sx_letE hx21 h
  refine sx_istore (pc := 33) (lo' := [(6, .int x21), (5, .ref x20), (4, .ref x17), (3, .int x14), (2, .int x11), (0, .ref 69), (1, .int l1)]) dX5_moveFromReference_33 (by decide) rfl ?_
  refine sx_aload_n (pc := 35) dX5_moveFromReference_35 sx_m5 ?_
  refine sx_aload (pc := 36) dX5_moveFromReference_36 sx_m2 ?_
  refine sx_iload_n (pc := 38) dX5_moveFromReference_38 sx_m3 ?_
  obtain ⟨⟨x24, V22⟩, g23, h⟩ := sx_bnd h
  refine sv_cV (pc := 39) (y := qX5_isThere) (o := (some (.int x24))) (as := [.ref x17, .int x14]) (V1 := V22) hG dX5_moveFromReference_39 l_X5_259 y0X5_isThere yvX5_isThere rfl (Nat.le_of_ble_eq_true rfl) lay_69 kr_5 (by decide) (Nat.le_of_ble_eq_true rfl) rfl rfl rfl (t_X5_isThere hG ⟨rfl, rfl⟩ g23) ?_
  refine sx_if_eq (pc := 42) (tgt := 56) dX5_moveFromReference_42 (by decide) (fun c25 => ?_) (fun c25 => ?_)
  · have h := sx_pos c25 h
    exact sv_vret (pc := 56) dX5_moveFromReference_56 rfl h hP
  · have h := sx_neg c25 h
    refine sx_aload_n (pc := 45) dX5_moveFromReference_45 sx_m5 ?_
    refine sx_aload (pc := 46) dX5_moveFromReference_46 sx_m1 ?_
    refine sx_iload (pc := 48) dX5_moveFromReference_48 sx_m0 ?_
    obtain ⟨⟨x28, V26⟩, g27, h⟩ := sx_bnd h
    refine sv_cV (pc := 50) (y := qX5_isThere) (o := (some (.int x28))) (as := [.ref x20, .int x21]) (V1 := V26) hG dX5_moveFromReference_50 l_X5_259 y0X5_isThere yvX5_isThere rfl (Nat.le_of_ble_eq_true rfl) lay_69 kr_5 (by decide) (Nat.le_of_ble_eq_true rfl) rfl rfl rfl (t_X5_isThere hG ⟨rfl, rfl⟩ g27) ?_
    refine sx_if_ne (pc := 53) (tgt := 57) dX5_moveFromReference_53 (by decide) (fun c29 => ?_) (fun c29 => ?_)
    · have h := sx_neg c29 h
      refine sx_aload_n (pc := 57) dX5_moveFromReference_57 sx_m5 ?_
      refine sv_getO (pc := 58) hG dX5_moveFromReference_58 f_5_12 lay_69 rfl cr_69_1 ?_
      refine sv_getA (pc := 61) hG dX5_moveFromReference_61 f_5_172 lay_70 rfl cr_70_7 ?_
      refine sx_iconst (pc := 64) (v := 1) dX5_moveFromReference_64 (by decide) ?_
      refine sv_iald (pc := 65) hG dX5_moveFromReference_65 lay_72 (by decide) ?_
      refine sx_if_ne (pc := 66) (tgt := 94) dX5_moveFromReference_66 (by decide) (fun c30 => ?_) (fun c30 => ?_)
      · have h := sx_neg c30 h
        refine sx_wk (sx_s1 sx_m5 (sx_s1 sx_m6 (sx_s1 sx_m4 (sx_s1 sx_m3 (sx_s1 sx_m2 (sx_s1 sx_m1 (sx_s1 sx_m0 sx_s0))))))) ?_
        exact tB_X5_moveFromReference_94 hG hP  h
      · have h := sx_pos c30 h
        refine sx_aload_n (pc := 69) dX5_moveFromReference_69 sx_m5 ?_
        refine sx_aload (pc := 70) dX5_moveFromReference_70 sx_m2 ?_
        refine sx_iload_n (pc := 72) dX5_moveFromReference_72 sx_m3 ?_
        refine sx_aload (pc := 73) dX5_moveFromReference_73 sx_m1 ?_
        obtain ⟨g31, h⟩ := sx_grd h
        obtain ⟨b32, g33, h⟩ := sx_bnd h
        refine sv_getA (pc := 75) hG dX5_moveFromReference_75 f_5_204 g31 rfl g33 ?_
        refine sx_iload (pc := 78) dX5_moveFromReference_78 sx_m0 ?_
        obtain ⟨n34, g35, h⟩ := sx_bnd h
        obtain ⟨g36, h⟩ := sx_grd h
        refine sv_iald (pc := 80) hG dX5_moveFromReference_80 (sv_len_e g35) g36 ?_
        refine sx_aload (pc := 81) dX5_moveFromReference_81 sx_m1 ?_
        obtain ⟨b37, g38, h⟩ := sx_bnd h
        refine sv_getA (pc := 83) hG dX5_moveFromReference_83 f_5_207 g31 rfl g38 ?_
        refine sx_iload (pc := 86) dX5_moveFromReference_86 sx_m0 ?_
        obtain ⟨n39, g40, h⟩ := sx_bnd h
        obtain ⟨g41, h⟩ := sx_grd h
        refine sv_iald (pc := 88) hG dX5_moveFromReference_88 (sv_len_e g40) g41 ?_
        refine sx_iload_n (pc := 89) dX5_moveFromReference_89 sx_m4 ?_
        refine sx_i2l (pc := 90) dX5_moveFromReference_90 ?_
        obtain ⟨V42, g43, h⟩ := sx_bnd h
        refine sv_cV (pc := 91) (y := qX5_plant) (o := none) (as := [.ref x17, .int x14, .int (V26.1 b32 x21.toNatClampNeg), .int (V26.1 b37 x21.toNatClampNeg), .long x11.toInt64]) (V1 := V42) hG dX5_moveFromReference_91 l_X5_530 y0X5_plant yvX5_plant rfl (Nat.le_of_ble_eq_true rfl) lay_69 kr_5 (by decide) (Nat.le_of_ble_eq_true rfl) rfl rfl rfl (t_X5_plant hG ⟨rfl, rfl⟩ g43) ?_
        refine sx_wk (sx_s1 sx_m5 (sx_s1 sx_m6 (sx_s1 sx_m4 (sx_s1 sx_m3 (sx_s1 sx_m2 (sx_s1 sx_m1 (sx_s1 sx_m0 sx_s0))))))) ?_
        exact tB_X5_moveFromReference_94 hG hP  h
    · have h := sx_pos c29 h
      exact sv_vret (pc := 56) dX5_moveFromReference_56 rfl h hP
theorem dX5_applyDelta_0 : decode cX5_applyDelta 0 = .ok (.iload_n 1, 1) := by decide +kernel
theorem dX5_applyDelta_1 : decode cX5_applyDelta 1 = .ok (.ifCond .eq 31, 3) := by decide +kernel
theorem dX5_applyDelta_4 : decode cX5_applyDelta 4 = .ok (.aload_n 0, 1) := by decide +kernel
theorem dX5_applyDelta_5 : decode cX5_applyDelta 5 = .ok (.aload_n 0, 1) := by decide +kernel
theorem dX5_applyDelta_6 : decode cX5_applyDelta 6 = .ok (.iconst 0, 1) := by decide +kernel
theorem dX5_applyDelta_7 : decode cX5_applyDelta 7 = .ok (.invokevirtual 255, 3) := by decide +kernel
theorem dX5_applyDelta_10 : decode cX5_applyDelta 10 = .ok (.iload_n 2, 1) := by decide +kernel
theorem dX5_applyDelta_11 : decode cX5_applyDelta 11 = .ok (.invokevirtual 259, 3) := by decide +kernel
theorem dX5_applyDelta_14 : decode cX5_applyDelta 14 = .ok (.ifCond .eq 51, 3) := by decide +kernel
theorem dX5_applyDelta_17 : decode cX5_applyDelta 17 = .ok (.aload_n 0, 1) := by decide +kernel
theorem dX5_applyDelta_18 : decode cX5_applyDelta 18 = .ok (.aload_n 0, 1) := by decide +kernel
theorem dX5_applyDelta_19 : decode cX5_applyDelta 19 = .ok (.iconst 0, 1) := by decide +kernel
theorem dX5_applyDelta_20 : decode cX5_applyDelta 20 = .ok (.invokevirtual 255, 3) := by decide +kernel
theorem dX5_applyDelta_23 : decode cX5_applyDelta 23 = .ok (.iload_n 2, 1) := by decide +kernel
theorem dX5_applyDelta_24 : decode cX5_applyDelta 24 = .ok (.iload_n 3, 1) := by decide +kernel
theorem dX5_applyDelta_25 : decode cX5_applyDelta 25 = .ok (.i2l, 1) := by decide +kernel
theorem dX5_applyDelta_26 : decode cX5_applyDelta 26 = .ok (.invokevirtual 461, 3) := by decide +kernel
theorem dX5_applyDelta_29 : decode cX5_applyDelta 29 = .ok (.goto 36, 3) := by decide +kernel
theorem dX5_applyDelta_32 : decode cX5_applyDelta 32 = .ok (.aload_n 0, 1) := by decide +kernel
theorem dX5_applyDelta_33 : decode cX5_applyDelta 33 = .ok (.getfield 49, 3) := by decide +kernel
theorem dX5_applyDelta_36 : decode cX5_applyDelta 36 = .ok (.iload_n 2, 1) := by decide +kernel
theorem dX5_applyDelta_37 : decode cX5_applyDelta 37 = .ok (.invokevirtual 405, 3) := by decide +kernel
theorem dX5_applyDelta_40 : decode cX5_applyDelta 40 = .ok (.ifCond .eq 19, 3) := by decide +kernel
theorem dX5_applyDelta_43 : decode cX5_applyDelta 43 = .ok (.aload_n 0, 1) := by decide +kernel
theorem dX5_applyDelta_44 : decode cX5_applyDelta 44 = .ok (.getfield 49, 3) := by decide +kernel
theorem dX5_applyDelta_47 : decode cX5_applyDelta 47 = .ok (.getfield 411, 3) := by decide +kernel
theorem dX5_applyDelta_50 : decode cX5_applyDelta 50 = .ok (.iload_n 2, 1) := by decide +kernel
theorem dX5_applyDelta_51 : decode cX5_applyDelta 51 = .ok (.dup2, 1) := by decide +kernel
theorem dX5_applyDelta_52 : decode cX5_applyDelta 52 = .ok (.iaload, 1) := by decide +kernel
theorem dX5_applyDelta_53 : decode cX5_applyDelta 53 = .ok (.iload_n 3, 1) := by decide +kernel
theorem dX5_applyDelta_54 : decode cX5_applyDelta 54 = .ok (.iadd, 1) := by decide +kernel
theorem dX5_applyDelta_55 : decode cX5_applyDelta 55 = .ok (.iastore, 1) := by decide +kernel
theorem dX5_applyDelta_56 : decode cX5_applyDelta 56 = .ok (.goto 9, 3) := by decide +kernel
theorem dX5_applyDelta_59 : decode cX5_applyDelta 59 = .ok (.aload_n 0, 1) := by decide +kernel
theorem dX5_applyDelta_60 : decode cX5_applyDelta 60 = .ok (.bipush 6, 2) := by decide +kernel
theorem dX5_applyDelta_62 : decode cX5_applyDelta 62 = .ok (.putfield 56, 3) := by decide +kernel
theorem dX5_applyDelta_65 : decode cX5_applyDelta 65 = .ok (.return_, 1) := by decide +kernel
def F_X5_applyDelta (l1 : Int32) (l2 : Int32) (l3 : Int32) (V : sv_V) : Option sv_V := if l1 = 0 then ((V.2.2 69 6).bind (fun b2 => (F_X7_hasCvt b2 l2 V).bind (fun (x6, V4) => if lay b2 = .inl 7 then if x6 = 0 then (sx_let (sv_I V4 69 14 (6 : Int32)) (fun V9 => some V9)) else ((V4.2.2 69 6).bind (fun b10 => if lay b10 = .inl 7 then (cr b10 0).bind (fun b13 => (sv_len 0 b13).bind (fun n15 => if sx_in l2 n15 = true then if sx_in l2 n15 = true then sx_let (sv_I V4 b13 l2.toNatClampNeg ((V4.1 b13 l2.toNatClampNeg) + l3)) (fun V19 => some V19) else none else none)) else none)) else none))) else ((F_X5_zone (0 : Int32) V).bind (fun (x22, V20) => (F_X5_isThere x22 l2 V20).bind (fun (x25, V23) => if x25 = 0 then (some V23) else ((F_X5_zone (0 : Int32) V23).bind (fun (x29, V27) => (F_X5_move x29 l2 l3.toInt64 V27).bind (fun V30 => some V30))))))
set_option maxRecDepth 20000 in
theorem t_X5_applyDelta {g : sx_G} (hG : sx_Go g) {P : Option Value → sv_V → Prop} {Vr : sv_V} (hP : P none Vr) {l1 : Int32} {l2 : Int32} {l3 : Int32} {V : sv_V} (h : F_X5_applyDelta l1 l2 l3 V = some Vr) : sv_N g qX5_applyDelta 2 0 [(0, .ref 69), (1, .int l1), (2, .int l2), (3, .int l3)] [] V P := by
  unfold F_X5_applyDelta at h
  refine sx_iload_n (pc := 0) dX5_applyDelta_0 sx_m1 ?_
  refine sx_if_eq (pc := 1) (tgt := 32) dX5_applyDelta_1 (by decide) (fun c1 => ?_) (fun c1 => ?_)
  · have h := sx_pos c1 h
    refine sx_aload_n (pc := 32) dX5_applyDelta_32 sx_m0 ?_
    obtain ⟨b2, g3, h⟩ := sx_bnd h
    refine sv_getV (pc := 33) hG dX5_applyDelta_33 f_5_49 lay_69 rfl rfl g3 ?_
    refine sx_iload_n (pc := 36) dX5_applyDelta_36 sx_m2 ?_
    obtain ⟨⟨x6, V4⟩, g5, h⟩ := sx_bnd h
    obtain ⟨g7, h⟩ := sx_grd h
    refine sv_cV (pc := 37) (y := qX7_hasCvt) (o := (some (.int x6))) (as := [.int l2]) (V1 := V4) hG dX5_applyDelta_37 l_X5_405 y0X7_hasCvt yvX7_hasCvt rfl (Nat.le_of_ble_eq_true rfl) g7 kr_7 (by decide) (Nat.le_of_ble_eq_true rfl) rfl rfl rfl (t_X7_hasCvt hG ⟨rfl, rfl⟩ g5) ?_
    refine sx_if_eq (pc := 40) (tgt := 59) dX5_applyDelta_40 (by decide) (fun c8 => ?_) (fun c8 => ?_)
    · have h := sx_pos c8 h
      refine sx_aload_n (pc := 59) dX5_applyDelta_59 sx_m0 ?_
      refine sx_bipush (pc := 60) (v := 6) dX5_applyDelta_60 (by decide) ?_
      obtain ⟨V9, hV9⟩ : ∃ z : sv_V, z = sv_I V4 69 14 (6 : Int32) := ⟨_, rfl⟩
      have h := sx_letE hV9 h
      refine sv_putI (pc := 62) hG dX5_applyDelta_62 f_5_56 lay_69 rfl hV9 ?_
      exact sv_vret (pc := 65) dX5_applyDelta_65 rfl h hP
    · have h := sx_neg c8 h
      refine sx_aload_n (pc := 43) dX5_applyDelta_43 sx_m0 ?_
      obtain ⟨b10, g11, h⟩ := sx_bnd h
      refine sv_getV (pc := 44) hG dX5_applyDelta_44 f_5_49 lay_69 rfl rfl g11 ?_
      obtain ⟨g12, h⟩ := sx_grd h
      obtain ⟨b13, g14, h⟩ := sx_bnd h
      refine sv_getA (pc := 47) hG dX5_applyDelta_47 f_5_411 g12 rfl g14 ?_
      refine sx_iload_n (pc := 50) dX5_applyDelta_50 sx_m2 ?_
      refine sx_dup2 (pc := 51) dX5_applyDelta_51 rfl rfl ?_
      obtain ⟨n15, g16, h⟩ := sx_bnd h
      obtain ⟨g17, h⟩ := sx_grd h
      refine sv_iald (pc := 52) hG dX5_applyDelta_52 (sv_len_e g16) g17 ?_
      refine sx_iload_n (pc := 53) dX5_applyDelta_53 sx_m3 ?_
      refine sx_iadd (pc := 54) dX5_applyDelta_54 ?_
      obtain ⟨g18, h⟩ := sx_grd h
      obtain ⟨V19, hV19⟩ : ∃ z : sv_V, z = sv_I V4 b13 l2.toNatClampNeg ((V4.1 b13 l2.toNatClampNeg) + l3) := ⟨_, rfl⟩
      have h := sx_letE hV19 h
      refine sv_iast (pc := 55) hG dX5_applyDelta_55 (sv_len_e g16) g18 hV19 ?_
      refine sx_goto (pc := 56) (tgt := 65) dX5_applyDelta_56 (by decide) ?_
      exact sv_vret (pc := 65) dX5_applyDelta_65 rfl h hP
  · have h := sx_neg c1 h
    refine sx_aload_n (pc := 4) dX5_applyDelta_4 sx_m0 ?_
    refine sx_aload_n (pc := 5) dX5_applyDelta_5 sx_m0 ?_
    refine sx_iconst (pc := 6) (v := 0) dX5_applyDelta_6 (by decide) ?_
    obtain ⟨⟨x22, V20⟩, g21, h⟩ := sx_bnd h
    refine sv_cV (pc := 7) (y := qX5_zone) (o := (some (.ref x22))) (as := [.int (0 : Int32)]) (V1 := V20) hG dX5_applyDelta_7 l_X5_255 y0X5_zone yvX5_zone rfl (Nat.le_of_ble_eq_true rfl) lay_69 kr_5 (by decide) (Nat.le_of_ble_eq_true rfl) rfl rfl rfl (t_X5_zone hG ⟨rfl, rfl⟩ g21) ?_
    refine sx_iload_n (pc := 10) dX5_applyDelta_10 sx_m2 ?_
    obtain ⟨⟨x25, V23⟩, g24, h⟩ := sx_bnd h
    refine sv_cV (pc := 11) (y := qX5_isThere) (o := (some (.int x25))) (as := [.ref x22, .int l2]) (V1 := V23) hG dX5_applyDelta_11 l_X5_259 y0X5_isThere yvX5_isThere rfl (Nat.le_of_ble_eq_true rfl) lay_69 kr_5 (by decide) (Nat.le_of_ble_eq_true rfl) rfl rfl rfl (t_X5_isThere hG ⟨rfl, rfl⟩ g24) ?_
    refine sx_if_eq (pc := 14) (tgt := 65) dX5_applyDelta_14 (by decide) (fun c26 => ?_) (fun c26 => ?_)
    · have h := sx_pos c26 h
      exact sv_vret (pc := 65) dX5_applyDelta_65 rfl h hP
    · have h := sx_neg c26 h
      refine sx_aload_n (pc := 17) dX5_applyDelta_17 sx_m0 ?_
      refine sx_aload_n (pc := 18) dX5_applyDelta_18 sx_m0 ?_
      refine sx_iconst (pc := 19) (v := 0) dX5_applyDelta_19 (by decide) ?_
      obtain ⟨⟨x29, V27⟩, g28, h⟩ := sx_bnd h
      refine sv_cV (pc := 20) (y := qX5_zone) (o := (some (.ref x29))) (as := [.int (0 : Int32)]) (V1 := V27) hG dX5_applyDelta_20 l_X5_255 y0X5_zone yvX5_zone rfl (Nat.le_of_ble_eq_true rfl) lay_69 kr_5 (by decide) (Nat.le_of_ble_eq_true rfl) rfl rfl rfl (t_X5_zone hG ⟨rfl, rfl⟩ g28) ?_
      refine sx_iload_n (pc := 23) dX5_applyDelta_23 sx_m2 ?_
      refine sx_iload_n (pc := 24) dX5_applyDelta_24 sx_m3 ?_
      refine sx_i2l (pc := 25) dX5_applyDelta_25 ?_
      obtain ⟨V30, g31, h⟩ := sx_bnd h
      refine sv_cV (pc := 26) (y := qX5_move) (o := none) (as := [.ref x29, .int l2, .long l3.toInt64]) (V1 := V30) hG dX5_applyDelta_26 l_X5_461 y0X5_move yvX5_move rfl (Nat.le_of_ble_eq_true rfl) lay_69 kr_5 (by decide) (Nat.le_of_ble_eq_true rfl) rfl rfl rfl (t_X5_move hG ⟨rfl, rfl⟩ g31) ?_
      refine sx_goto (pc := 29) (tgt := 65) dX5_applyDelta_29 (by decide) ?_
      exact sv_vret (pc := 65) dX5_applyDelta_65 rfl h hP
theorem dX6_append_0 : decode cX6_append 0 = .ok (.aload_n 1, 1) := by decide +kernel
theorem dX6_append_1 : decode cX6_append 1 = .ok (.getfield 136, 3) := by decide +kernel
theorem dX6_append_4 : decode cX6_append 4 = .ok (.istore_n 3, 1) := by decide +kernel
theorem dX6_append_5 : decode cX6_append 5 = .ok (.iconst 0, 1) := by decide +kernel
theorem dX6_append_6 : decode cX6_append 6 = .ok (.istore 4, 2) := by decide +kernel
theorem dX6_append_8 : decode cX6_append 8 = .ok (.iload 4, 2) := by decide +kernel
theorem dX6_append_10 : decode cX6_append 10 = .ok (.aload_n 2, 1) := by decide +kernel
theorem dX6_append_11 : decode cX6_append 11 = .ok (.getfield 136, 3) := by decide +kernel
theorem dX6_append_14 : decode cX6_append 14 = .ok (.if_icmp .ge 123, 3) := by decide +kernel
theorem dX6_append_17 : decode cX6_append 17 = .ok (.aload_n 2, 1) := by decide +kernel
theorem dX6_append_18 : decode cX6_append 18 = .ok (.getfield 190, 3) := by decide +kernel
theorem dX6_append_21 : decode cX6_append 21 = .ok (.iload 4, 2) := by decide +kernel
theorem dX6_append_23 : decode cX6_append 23 = .ok (.iaload, 1) := by decide +kernel
theorem dX6_append_24 : decode cX6_append 24 = .ok (.i2l, 1) := by decide +kernel
theorem dX6_append_25 : decode cX6_append 25 = .ok (.lstore 5, 2) := by decide +kernel
theorem dX6_append_27 : decode cX6_append 27 = .ok (.aload_n 2, 1) := by decide +kernel
theorem dX6_append_28 : decode cX6_append 28 = .ok (.getfield 193, 3) := by decide +kernel
theorem dX6_append_31 : decode cX6_append 31 = .ok (.iload 4, 2) := by decide +kernel
theorem dX6_append_33 : decode cX6_append 33 = .ok (.iaload, 1) := by decide +kernel
theorem dX6_append_34 : decode cX6_append 34 = .ok (.i2l, 1) := by decide +kernel
theorem dX6_append_35 : decode cX6_append 35 = .ok (.lstore 7, 2) := by decide +kernel
theorem dX6_append_37 : decode cX6_append 37 = .ok (.aload_n 1, 1) := by decide +kernel
theorem dX6_append_38 : decode cX6_append 38 = .ok (.getfield 190, 3) := by decide +kernel
theorem dX6_append_41 : decode cX6_append 41 = .ok (.iload_n 3, 1) := by decide +kernel
theorem dX6_append_42 : decode cX6_append 42 = .ok (.iload 4, 2) := by decide +kernel
theorem dX6_append_44 : decode cX6_append 44 = .ok (.iadd, 1) := by decide +kernel
theorem dX6_append_45 : decode cX6_append 45 = .ok (.lload 5, 2) := by decide +kernel
theorem dX6_append_47 : decode cX6_append 47 = .ok (.aload_n 0, 1) := by decide +kernel
theorem dX6_append_48 : decode cX6_append 48 = .ok (.getfield 38, 3) := by decide +kernel
theorem dX6_append_51 : decode cX6_append 51 = .ok (.getfield 231, 3) := by decide +kernel
theorem dX6_append_54 : decode cX6_append 54 = .ok (.i2l, 1) := by decide +kernel
theorem dX6_append_55 : decode cX6_append 55 = .ok (.lmul, 1) := by decide +kernel
theorem dX6_append_56 : decode cX6_append 56 = .ok (.lload 7, 2) := by decide +kernel
theorem dX6_append_58 : decode cX6_append 58 = .ok (.aload_n 0, 1) := by decide +kernel
theorem dX6_append_59 : decode cX6_append 59 = .ok (.getfield 38, 3) := by decide +kernel
theorem dX6_append_62 : decode cX6_append 62 = .ok (.getfield 234, 3) := by decide +kernel
theorem dX6_append_65 : decode cX6_append 65 = .ok (.i2l, 1) := by decide +kernel
theorem dX6_append_66 : decode cX6_append 66 = .ok (.lmul, 1) := by decide +kernel
theorem dX6_append_67 : decode cX6_append 67 = .ok (.ladd, 1) := by decide +kernel
theorem dX6_append_68 : decode cX6_append 68 = .ok (.ldc2_w 237, 3) := by decide +kernel
theorem dX6_append_71 : decode cX6_append 71 = .ok (.invokestatic 239, 3) := by decide +kernel
theorem dX6_append_74 : decode cX6_append 74 = .ok (.l2i, 1) := by decide +kernel
theorem dX6_append_75 : decode cX6_append 75 = .ok (.iastore, 1) := by decide +kernel
theorem dX6_append_76 : decode cX6_append 76 = .ok (.aload_n 1, 1) := by decide +kernel
theorem dX6_append_77 : decode cX6_append 77 = .ok (.getfield 193, 3) := by decide +kernel
theorem dX6_append_80 : decode cX6_append 80 = .ok (.iload_n 3, 1) := by decide +kernel
theorem dX6_append_81 : decode cX6_append 81 = .ok (.iload 4, 2) := by decide +kernel
theorem dX6_append_83 : decode cX6_append 83 = .ok (.iadd, 1) := by decide +kernel
theorem dX6_append_84 : decode cX6_append 84 = .ok (.lload 5, 2) := by decide +kernel
theorem dX6_append_86 : decode cX6_append 86 = .ok (.aload_n 0, 1) := by decide +kernel
theorem dX6_append_87 : decode cX6_append 87 = .ok (.getfield 38, 3) := by decide +kernel
theorem dX6_append_90 : decode cX6_append 90 = .ok (.getfield 243, 3) := by decide +kernel
theorem dX6_append_93 : decode cX6_append 93 = .ok (.i2l, 1) := by decide +kernel
theorem dX6_append_94 : decode cX6_append 94 = .ok (.lmul, 1) := by decide +kernel
theorem dX6_append_95 : decode cX6_append 95 = .ok (.lload 7, 2) := by decide +kernel
theorem dX6_append_97 : decode cX6_append 97 = .ok (.aload_n 0, 1) := by decide +kernel
theorem dX6_append_98 : decode cX6_append 98 = .ok (.getfield 38, 3) := by decide +kernel
theorem dX6_append_101 : decode cX6_append 101 = .ok (.getfield 246, 3) := by decide +kernel
theorem dX6_append_104 : decode cX6_append 104 = .ok (.i2l, 1) := by decide +kernel
theorem dX6_append_105 : decode cX6_append 105 = .ok (.lmul, 1) := by decide +kernel
theorem dX6_append_106 : decode cX6_append 106 = .ok (.ladd, 1) := by decide +kernel
theorem dX6_append_107 : decode cX6_append 107 = .ok (.ldc2_w 237, 3) := by decide +kernel
theorem dX6_append_110 : decode cX6_append 110 = .ok (.invokestatic 239, 3) := by decide +kernel
theorem dX6_append_113 : decode cX6_append 113 = .ok (.l2i, 1) := by decide +kernel
theorem dX6_append_114 : decode cX6_append 114 = .ok (.iastore, 1) := by decide +kernel
theorem dX6_append_115 : decode cX6_append 115 = .ok (.aload_n 1, 1) := by decide +kernel
theorem dX6_append_116 : decode cX6_append 116 = .ok (.getfield 249, 3) := by decide +kernel
theorem dX6_append_119 : decode cX6_append 119 = .ok (.iload_n 3, 1) := by decide +kernel
theorem dX6_append_120 : decode cX6_append 120 = .ok (.iload 4, 2) := by decide +kernel
theorem dX6_append_122 : decode cX6_append 122 = .ok (.iadd, 1) := by decide +kernel
theorem dX6_append_123 : decode cX6_append 123 = .ok (.aload_n 2, 1) := by decide +kernel
theorem dX6_append_124 : decode cX6_append 124 = .ok (.getfield 249, 3) := by decide +kernel
theorem dX6_append_127 : decode cX6_append 127 = .ok (.iload 4, 2) := by decide +kernel
theorem dX6_append_129 : decode cX6_append 129 = .ok (.iaload, 1) := by decide +kernel
theorem dX6_append_130 : decode cX6_append 130 = .ok (.iastore, 1) := by decide +kernel
theorem dX6_append_131 : decode cX6_append 131 = .ok (.iinc 4 1, 3) := by decide +kernel
theorem dX6_append_134 : decode cX6_append 134 = .ok (.goto (-126), 3) := by decide +kernel
theorem dX6_append_137 : decode cX6_append 137 = .ok (.iconst 0, 1) := by decide +kernel
theorem dX6_append_138 : decode cX6_append 138 = .ok (.istore 4, 2) := by decide +kernel
theorem dX6_append_140 : decode cX6_append 140 = .ok (.iload 4, 2) := by decide +kernel
theorem dX6_append_142 : decode cX6_append 142 = .ok (.aload_n 2, 1) := by decide +kernel
theorem dX6_append_143 : decode cX6_append 143 = .ok (.getfield 167, 3) := by decide +kernel
theorem dX6_append_146 : decode cX6_append 146 = .ok (.if_icmp .ge 30, 3) := by decide +kernel
theorem dX6_append_149 : decode cX6_append 149 = .ok (.aload_n 1, 1) := by decide +kernel
theorem dX6_append_150 : decode cX6_append 150 = .ok (.getfield 252, 3) := by decide +kernel
theorem dX6_append_153 : decode cX6_append 153 = .ok (.aload_n 1, 1) := by decide +kernel
theorem dX6_append_154 : decode cX6_append 154 = .ok (.getfield 167, 3) := by decide +kernel
theorem dX6_append_157 : decode cX6_append 157 = .ok (.iload 4, 2) := by decide +kernel
theorem dX6_append_159 : decode cX6_append 159 = .ok (.iadd, 1) := by decide +kernel
theorem dX6_append_160 : decode cX6_append 160 = .ok (.iload_n 3, 1) := by decide +kernel
theorem dX6_append_161 : decode cX6_append 161 = .ok (.aload_n 2, 1) := by decide +kernel
theorem dX6_append_162 : decode cX6_append 162 = .ok (.getfield 252, 3) := by decide +kernel
theorem dX6_append_165 : decode cX6_append 165 = .ok (.iload 4, 2) := by decide +kernel
theorem dX6_append_167 : decode cX6_append 167 = .ok (.iaload, 1) := by decide +kernel
theorem dX6_append_168 : decode cX6_append 168 = .ok (.iadd, 1) := by decide +kernel
theorem dX6_append_169 : decode cX6_append 169 = .ok (.iastore, 1) := by decide +kernel
theorem dX6_append_170 : decode cX6_append 170 = .ok (.iinc 4 1, 3) := by decide +kernel
theorem dX6_append_173 : decode cX6_append 173 = .ok (.goto (-33), 3) := by decide +kernel
theorem dX6_append_176 : decode cX6_append 176 = .ok (.aload_n 1, 1) := by decide +kernel
theorem dX6_append_177 : decode cX6_append 177 = .ok (.iload_n 3, 1) := by decide +kernel
theorem dX6_append_178 : decode cX6_append 178 = .ok (.aload_n 2, 1) := by decide +kernel
theorem dX6_append_179 : decode cX6_append 179 = .ok (.getfield 136, 3) := by decide +kernel
theorem dX6_append_182 : decode cX6_append 182 = .ok (.iadd, 1) := by decide +kernel
theorem dX6_append_183 : decode cX6_append 183 = .ok (.putfield 136, 3) := by decide +kernel
theorem dX6_append_186 : decode cX6_append 186 = .ok (.aload_n 1, 1) := by decide +kernel
theorem dX6_append_187 : decode cX6_append 187 = .ok (.dup, 1) := by decide +kernel
theorem dX6_append_188 : decode cX6_append 188 = .ok (.getfield 167, 3) := by decide +kernel
theorem dX6_append_191 : decode cX6_append 191 = .ok (.aload_n 2, 1) := by decide +kernel
theorem dX6_append_192 : decode cX6_append 192 = .ok (.getfield 167, 3) := by decide +kernel
theorem dX6_append_195 : decode cX6_append 195 = .ok (.iadd, 1) := by decide +kernel
theorem dX6_append_196 : decode cX6_append 196 = .ok (.putfield 167, 3) := by decide +kernel
theorem dX6_append_199 : decode cX6_append 199 = .ok (.return_, 1) := by decide +kernel
def B_X6_append_140 (N : Nat) (k140 : Nat → Nat → Int32 → Int32 → sv_V → Option sv_V) (l1 : Nat) (l2 : Nat) (l3 : Int32) (l4 : Int32) (V : sv_V) : Option sv_V := if lay l2 = .inl 8 then if (V.1 l2 10) ≤ l4 then (if lay l1 = .inl 8 then sx_let (sv_I V l1 9 (l3 + (V.1 l2 9))) (fun V4 => sx_let (sv_I V4 l1 10 ((V4.1 l1 10) + (V4.1 l2 10))) (fun V5 => some V5)) else none) else (if lay l1 = .inl 8 then (cr l1 6).bind (fun b7 => (cr l2 6).bind (fun b9 => (sv_len 0 b9).bind (fun n11 => if sx_in l4 n11 = true then (sv_len 0 b7).bind (fun n14 => if sx_in ((V.1 l1 10) + l4) n14 = true then sx_let (sv_I V b7 ((V.1 l1 10) + l4).toNatClampNeg (l3 + (V.1 b9 l4.toNatClampNeg))) (fun V17 => sx_let (l4 + 1) (fun x18 => k140 l1 l2 l3 x18 V17)) else none) else none))) else none) else none
set_option maxRecDepth 20000 in
theorem tB_X6_append_140 {g : sx_G} (hG : sx_Go g) {P : Option Value → sv_V → Prop} {Vr : sv_V} (hP : P none Vr) {N : Nat} {k140 : Nat → Nat → Int32 → Int32 → sv_V → Option sv_V} (hk140 : ∀ (l1 : Nat) (l2 : Nat) (l3 : Int32) (l4 : Int32) (V : sv_V), k140 l1 l2 l3 l4 V = some Vr → sv_N g qX6_append 1 140 [(1, .ref l1), (2, .ref l2), (3, .int l3), (4, .int l4)] [] V P) {l1 : Nat} {l2 : Nat} {l3 : Int32} {l4 : Int32} {V : sv_V} (h : B_X6_append_140 N k140 l1 l2 l3 l4 V = some Vr) : sv_N g qX6_append 1 140 [(1, .ref l1), (2, .ref l2), (3, .int l3), (4, .int l4)] [] V P := by
  unfold B_X6_append_140 at h
  refine sx_iload (pc := 140) dX6_append_140 sx_m3 ?_
  refine sx_aload_n (pc := 142) dX6_append_142 sx_m1 ?_
  obtain ⟨g1, h⟩ := sx_grd h
  refine sv_getI (pc := 143) hG dX6_append_143 f_6_167 g1 rfl ?_
  refine sx_icmp_ge (pc := 146) (tgt := 176) dX6_append_146 (by decide) (fun c2 => ?_) (fun c2 => ?_)
  · have h := sx_pos c2 h
    refine sx_aload_n (pc := 176) dX6_append_176 sx_m0 ?_
    refine sx_iload_n (pc := 177) dX6_append_177 sx_m2 ?_
    refine sx_aload_n (pc := 178) dX6_append_178 sx_m1 ?_
    refine sv_getI (pc := 179) hG dX6_append_179 f_6_136 g1 rfl ?_
    refine sx_iadd (pc := 182) dX6_append_182 ?_
    obtain ⟨g3, h⟩ := sx_grd h
    obtain ⟨V4, hV4⟩ : ∃ z : sv_V, z = sv_I V l1 9 (l3 + (V.1 l2 9)) := ⟨_, rfl⟩
    have h := sx_letE hV4 h
    refine sv_putI (pc := 183) hG dX6_append_183 f_6_136 g3 rfl hV4 ?_
    refine sx_aload_n (pc := 186) dX6_append_186 sx_m0 ?_
    refine sx_dup (pc := 187) dX6_append_187 rfl ?_
    refine sv_getI (pc := 188) hG dX6_append_188 f_6_167 g3 rfl ?_
    refine sx_aload_n (pc := 191) dX6_append_191 sx_m1 ?_
    refine sv_getI (pc := 192) hG dX6_append_192 f_6_167 g1 rfl ?_
    refine sx_iadd (pc := 195) dX6_append_195 ?_
    obtain ⟨V5, hV5⟩ : ∃ z : sv_V, z = sv_I V4 l1 10 ((V4.1 l1 10) + (V4.1 l2 10)) := ⟨_, rfl⟩
    have h := sx_letE hV5 h
    refine sv_putI (pc := 196) hG dX6_append_196 f_6_167 g3 rfl hV5 ?_
    exact sv_vret (pc := 199) dX6_append_199 rfl h hP
  · have h := sx_neg c2 h
    refine sx_aload_n (pc := 149) dX6_append_149 sx_m0 ?_
    obtain ⟨g6, h⟩ := sx_grd h
    obtain ⟨b7, g8, h⟩ := sx_bnd h
    refine sv_getA (pc := 150) hG dX6_append_150 f_6_252 g6 rfl g8 ?_
    refine sx_aload_n (pc := 153) dX6_append_153 sx_m0 ?_
    refine sv_getI (pc := 154) hG dX6_append_154 f_6_167 g6 rfl ?_
    refine sx_iload (pc := 157) dX6_append_157 sx_m3 ?_
    refine sx_iadd (pc := 159) dX6_append_159 ?_
    refine sx_iload_n (pc := 160) dX6_append_160 sx_m2 ?_
    refine sx_aload_n (pc := 161) dX6_append_161 sx_m1 ?_
    obtain ⟨b9, g10, h⟩ := sx_bnd h
    refine sv_getA (pc := 162) hG dX6_append_162 f_6_252 g1 rfl g10 ?_
    refine sx_iload (pc := 165) dX6_append_165 sx_m3 ?_
    obtain ⟨n11, g12, h⟩ := sx_bnd h
    obtain ⟨g13, h⟩ := sx_grd h
    refine sv_iald (pc := 167) hG dX6_append_167 (sv_len_e g12) g13 ?_
    refine sx_iadd (pc := 168) dX6_append_168 ?_
    obtain ⟨n14, g15, h⟩ := sx_bnd h
    obtain ⟨g16, h⟩ := sx_grd h
    obtain ⟨V17, hV17⟩ : ∃ z : sv_V, z = sv_I V b7 ((V.1 l1 10) + l4).toNatClampNeg (l3 + (V.1 b9 l4.toNatClampNeg)) := ⟨_, rfl⟩
    have h := sx_letE hV17 h
    refine sv_iast (pc := 169) hG dX6_append_169 (sv_len_e g15) g16 hV17 ?_
    obtain ⟨x18, hx18⟩ : ∃ z : Int32, z = l4 + 1 := ⟨_, rfl⟩
    have h := sx_letE hx18 h
    refine sx_iinc (pc := 170) (v := x18) (lo' := [(4, .int x18), (1, .ref l1), (2, .ref l2), (3, .int l3)]) dX6_append_170 sx_m3 (by rw [hx18]; rfl) (by decide) rfl ?_
    refine sx_goto (pc := 173) (tgt := 140) dX6_append_173 (by decide) ?_
    refine sx_wk (sx_s1 sx_m1 (sx_s1 sx_m2 (sx_s1 sx_m3 (sx_s1 sx_m0 sx_s0)))) ?_
    exact hk140 _ _ _ _ _ h
theorem tL_X6_append_140 {g : sx_G} (hG : sx_Go g) {P : Option Value → sv_V → Prop} {Vr : sv_V} (hP : P none Vr) {N : Nat}   : ∀ (n : Nat) (l1 : Nat) (l2 : Nat) (l3 : Int32) (l4 : Int32) (V : sv_V), sx_lp5 (B_X6_append_140 N ) n l1 l2 l3 l4 V = some Vr → sv_N g qX6_append 1 140 [(1, .ref l1), (2, .ref l2), (3, .int l3), (4, .int l4)] [] V P :=
  sx_lp5_ind (fun k0 ih _ _ _ _ V h => tB_X6_append_140 hG hP ih h)
def B_X6_append_8 (N : Nat) (k8 : Nat → Nat → Int32 → Int32 → sv_V → Option sv_V) (l1 : Nat) (l2 : Nat) (l3 : Int32) (l4 : Int32) (V : sv_V) : Option sv_V := if lay l2 = .inl 8 then if (V.1 l2 9) ≤ l4 then (sx_lp5 (B_X6_append_140 N ) N l1 l2 l3 (0 : Int32) V) else ((cr l2 0).bind (fun b21 => (sv_len 0 b21).bind (fun n23 => if sx_in l4 n23 = true then sx_let ((V.1 b21 l4.toNatClampNeg).toInt64) (fun x26 => (cr l2 1).bind (fun b27 => (sv_len 0 b27).bind (fun n29 => if sx_in l4 n29 = true then sx_let ((V.1 b27 l4.toNatClampNeg).toInt64) (fun x32 => if lay l1 = .inl 8 then (cr l1 0).bind (fun b34 => (F_X11_nearest ((x26 * ((V.1 16 11).toInt64)) + (x32 * ((V.1 16 13).toInt64))) (16384 : Int64) V).bind (fun (x38, V36) => (sv_len 0 b34).bind (fun n39 => if sx_in (l3 + l4) n39 = true then sx_let (sv_I V36 b34 (l3 + l4).toNatClampNeg x38.toInt32) (fun V42 => (cr l1 1).bind (fun b43 => (F_X11_nearest ((x26 * ((V42.1 16 12).toInt64)) + (x32 * ((V42.1 16 14).toInt64))) (16384 : Int64) V42).bind (fun (x47, V45) => (sv_len 0 b43).bind (fun n48 => if sx_in (l3 + l4) n48 = true then sx_let (sv_I V45 b43 (l3 + l4).toNatClampNeg x47.toInt32) (fun V51 => (cr l1 5).bind (fun b52 => (cr l2 5).bind (fun b54 => (sv_len 0 b54).bind (fun n56 => if sx_in l4 n56 = true then (sv_len 0 b52).bind (fun n59 => if sx_in (l3 + l4) n59 = true then sx_let (sv_I V51 b52 (l3 + l4).toNatClampNeg (V51.1 b54 l4.toNatClampNeg)) (fun V62 => sx_let (l4 + 1) (fun x63 => k8 l1 l2 l3 x63 V62)) else none) else none)))) else none)))) else none))) else none) else none))) else none))) else none
set_option maxRecDepth 20000 in
theorem tB_X6_append_8 {g : sx_G} (hG : sx_Go g) {P : Option Value → sv_V → Prop} {Vr : sv_V} (hP : P none Vr) {N : Nat} {k8 : Nat → Nat → Int32 → Int32 → sv_V → Option sv_V} (hk8 : ∀ (l1 : Nat) (l2 : Nat) (l3 : Int32) (l4 : Int32) (V : sv_V), k8 l1 l2 l3 l4 V = some Vr → sv_N g qX6_append 1 8 [(0, .ref 30), (1, .ref l1), (2, .ref l2), (3, .int l3), (4, .int l4)] [] V P) {l1 : Nat} {l2 : Nat} {l3 : Int32} {l4 : Int32} {V : sv_V} (h : B_X6_append_8 N k8 l1 l2 l3 l4 V = some Vr) : sv_N g qX6_append 1 8 [(0, .ref 30), (1, .ref l1), (2, .ref l2), (3, .int l3), (4, .int l4)] [] V P := by
  unfold B_X6_append_8 at h
  refine sx_iload (pc := 8) dX6_append_8 sx_m4 ?_
  refine sx_aload_n (pc := 10) dX6_append_10 sx_m2 ?_
  obtain ⟨g19, h⟩ := sx_grd h
  refine sv_getI (pc := 11) hG dX6_append_11 f_6_136 g19 rfl ?_
  refine sx_icmp_ge (pc := 14) (tgt := 137) dX6_append_14 (by decide) (fun c20 => ?_) (fun c20 => ?_)
  · have h := sx_pos c20 h
    refine sx_iconst (pc := 137) (v := 0) dX6_append_137 (by decide) ?_
    refine sx_istore (pc := 138) (lo' := [(4, .int (0 : Int32)), (0, .ref 30), (1, .ref l1), (2, .ref l2), (3, .int l3)]) dX6_append_138 (by decide) rfl ?_
    refine sx_wk (sx_s1 sx_m2 (sx_s1 sx_m3 (sx_s1 sx_m4 (sx_s1 sx_m0 sx_s0)))) ?_
    exact tL_X6_append_140 hG hP  N _ _ _ _ _ h
  · have h := sx_neg c20 h
    refine sx_aload_n (pc := 17) dX6_append_17 sx_m2 ?_
    obtain ⟨b21, g22, h⟩ := sx_bnd h
    refine sv_getA (pc := 18) hG dX6_append_18 f_6_190 g19 rfl g22 ?_
    refine sx_iload (pc := 21) dX6_append_21 sx_m4 ?_
    obtain ⟨n23, g24, h⟩ := sx_bnd h
    obtain ⟨g25, h⟩ := sx_grd h
    refine sv_iald (pc := 23) hG dX6_append_23 (sv_len_e g24) g25 ?_
    refine sx_i2l (pc := 24) dX6_append_24 ?_
    refine sv_tJ (fun x26 hx26 => ?_)
    have h := sx_letE hx26 h
    refine sx_lstore (pc := 25) (lo' := [(5, .long x26), (0, .ref 30), (1, .ref l1), (2, .ref l2), (3, .int l3), (4, .int l4)]) dX6_append_25 (by decide) rfl ?_
    refine sx_aload_n (pc := 27) dX6_append_27 sx_m3 ?_
    obtain ⟨b27, g28, h⟩ := sx_bnd h
    refine sv_getA (pc := 28) hG dX6_append_28 f_6_193 g19 rfl g28 ?_
    refine sx_iload (pc := 31) dX6_append_31 sx_m5 ?_
    obtain ⟨n29, g30, h⟩ := sx_bnd h
    obtain ⟨g31, h⟩ := sx_grd h
    refine sv_iald (pc := 33) hG dX6_append_33 (sv_len_e g30) g31 ?_
    refine sx_i2l (pc := 34) dX6_append_34 ?_
    refine sv_tJ (fun x32 hx32 => ?_)
    have h := sx_letE hx32 h
    refine sx_lstore (pc := 35) (lo' := [(7, .long x32), (5, .long x26), (0, .ref 30), (1, .ref l1), (2, .ref l2), (3, .int l3), (4, .int l4)]) dX6_append_35 (by decide) rfl ?_
    refine sx_aload_n (pc := 37) dX6_append_37 sx_m3 ?_
    obtain ⟨g33, h⟩ := sx_grd h
    obtain ⟨b34, g35, h⟩ := sx_bnd h
    refine sv_getA (pc := 38) hG dX6_append_38 f_6_190 g33 rfl g35 ?_
    refine sx_iload_n (pc := 41) dX6_append_41 sx_m5 ?_
    refine sx_iload (pc := 42) dX6_append_42 sx_m6 ?_
    refine sx_iadd (pc := 44) dX6_append_44 ?_
    refine sx_lload (pc := 45) dX6_append_45 sx_m1 ?_
    refine sx_aload_n (pc := 47) dX6_append_47 sx_m2 ?_
    refine sv_getO (pc := 48) hG dX6_append_48 f_6_38 lay_30 rfl cr_30_1 ?_
    refine sv_getI (pc := 51) hG dX6_append_51 f_6_231 lay_16 rfl ?_
    refine sx_i2l (pc := 54) dX6_append_54 ?_
    refine sx_lmul (pc := 55) dX6_append_55 ?_
    refine sx_lload (pc := 56) dX6_append_56 sx_m0 ?_
    refine sx_aload_n (pc := 58) dX6_append_58 sx_m2 ?_
    refine sv_getO (pc := 59) hG dX6_append_59 f_6_38 lay_30 rfl cr_30_1 ?_
    refine sv_getI (pc := 62) hG dX6_append_62 f_6_234 lay_16 rfl ?_
    refine sx_i2l (pc := 65) dX6_append_65 ?_
    refine sx_lmul (pc := 66) dX6_append_66 ?_
    refine sx_ladd (pc := 67) dX6_append_67 ?_
    refine sx_ldc2 (pc := 68) dX6_append_68 k_X6_237 ?_
    obtain ⟨⟨x38, V36⟩, g37, h⟩ := sx_bnd h
    refine sv_cN (pc := 71) (y := qX11_nearest) (o := (some (.long x38))) (as := [.long ((x26 * ((V.1 16 11).toInt64)) + (x32 * ((V.1 16 13).toInt64))), .long (16384 : Int64)]) (V1 := V36) dX6_append_71 n_X6_239 y0X11_nearest ysX11_nearest rfl (Nat.le_of_ble_eq_true rfl) (by decide) (Nat.le_of_ble_eq_true rfl) rfl rfl rfl (t_X11_nearest hG ⟨rfl, rfl⟩ g37) ?_
    refine sx_l2i (pc := 74) dX6_append_74 ?_
    obtain ⟨n39, g40, h⟩ := sx_bnd h
    obtain ⟨g41, h⟩ := sx_grd h
    obtain ⟨V42, hV42⟩ : ∃ z : sv_V, z = sv_I V36 b34 (l3 + l4).toNatClampNeg x38.toInt32 := ⟨_, rfl⟩
    have h := sx_letE hV42 h
    refine sv_iast (pc := 75) hG dX6_append_75 (sv_len_e g40) g41 hV42 ?_
    refine sx_aload_n (pc := 76) dX6_append_76 sx_m3 ?_
    obtain ⟨b43, g44, h⟩ := sx_bnd h
    refine sv_getA (pc := 77) hG dX6_append_77 f_6_193 g33 rfl g44 ?_
    refine sx_iload_n (pc := 80) dX6_append_80 sx_m5 ?_
    refine sx_iload (pc := 81) dX6_append_81 sx_m6 ?_
    refine sx_iadd (pc := 83) dX6_append_83 ?_
    refine sx_lload (pc := 84) dX6_append_84 sx_m1 ?_
    refine sx_aload_n (pc := 86) dX6_append_86 sx_m2 ?_
    refine sv_getO (pc := 87) hG dX6_append_87 f_6_38 lay_30 rfl cr_30_1 ?_
    refine sv_getI (pc := 90) hG dX6_append_90 f_6_243 lay_16 rfl ?_
    refine sx_i2l (pc := 93) dX6_append_93 ?_
    refine sx_lmul (pc := 94) dX6_append_94 ?_
    refine sx_lload (pc := 95) dX6_append_95 sx_m0 ?_
    refine sx_aload_n (pc := 97) dX6_append_97 sx_m2 ?_
    refine sv_getO (pc := 98) hG dX6_append_98 f_6_38 lay_30 rfl cr_30_1 ?_
    refine sv_getI (pc := 101) hG dX6_append_101 f_6_246 lay_16 rfl ?_
    refine sx_i2l (pc := 104) dX6_append_104 ?_
    refine sx_lmul (pc := 105) dX6_append_105 ?_
    refine sx_ladd (pc := 106) dX6_append_106 ?_
    refine sx_ldc2 (pc := 107) dX6_append_107 k_X6_237 ?_
    obtain ⟨⟨x47, V45⟩, g46, h⟩ := sx_bnd h
    refine sv_cN (pc := 110) (y := qX11_nearest) (o := (some (.long x47))) (as := [.long ((x26 * ((V42.1 16 12).toInt64)) + (x32 * ((V42.1 16 14).toInt64))), .long (16384 : Int64)]) (V1 := V45) dX6_append_110 n_X6_239 y0X11_nearest ysX11_nearest rfl (Nat.le_of_ble_eq_true rfl) (by decide) (Nat.le_of_ble_eq_true rfl) rfl rfl rfl (t_X11_nearest hG ⟨rfl, rfl⟩ g46) ?_
    refine sx_l2i (pc := 113) dX6_append_113 ?_
    obtain ⟨n48, g49, h⟩ := sx_bnd h
    obtain ⟨g50, h⟩ := sx_grd h
    obtain ⟨V51, hV51⟩ : ∃ z : sv_V, z = sv_I V45 b43 (l3 + l4).toNatClampNeg x47.toInt32 := ⟨_, rfl⟩
    have h := sx_letE hV51 h
    refine sv_iast (pc := 114) hG dX6_append_114 (sv_len_e g49) g50 hV51 ?_
    refine sx_aload_n (pc := 115) dX6_append_115 sx_m3 ?_
    obtain ⟨b52, g53, h⟩ := sx_bnd h
    refine sv_getA (pc := 116) hG dX6_append_116 f_6_249 g33 rfl g53 ?_
    refine sx_iload_n (pc := 119) dX6_append_119 sx_m5 ?_
    refine sx_iload (pc := 120) dX6_append_120 sx_m6 ?_
    refine sx_iadd (pc := 122) dX6_append_122 ?_
    refine sx_aload_n (pc := 123) dX6_append_123 sx_m4 ?_
    obtain ⟨b54, g55, h⟩ := sx_bnd h
    refine sv_getA (pc := 124) hG dX6_append_124 f_6_249 g19 rfl g55 ?_
    refine sx_iload (pc := 127) dX6_append_127 sx_m6 ?_
    obtain ⟨n56, g57, h⟩ := sx_bnd h
    obtain ⟨g58, h⟩ := sx_grd h
    refine sv_iald (pc := 129) hG dX6_append_129 (sv_len_e g57) g58 ?_
    obtain ⟨n59, g60, h⟩ := sx_bnd h
    obtain ⟨g61, h⟩ := sx_grd h
    obtain ⟨V62, hV62⟩ : ∃ z : sv_V, z = sv_I V51 b52 (l3 + l4).toNatClampNeg (V51.1 b54 l4.toNatClampNeg) := ⟨_, rfl⟩
    have h := sx_letE hV62 h
    refine sv_iast (pc := 130) hG dX6_append_130 (sv_len_e g60) g61 hV62 ?_
    obtain ⟨x63, hx63⟩ : ∃ z : Int32, z = l4 + 1 := ⟨_, rfl⟩
    have h := sx_letE hx63 h
    refine sx_iinc (pc := 131) (v := x63) (lo' := [(4, .int x63), (7, .long x32), (5, .long x26), (0, .ref 30), (1, .ref l1), (2, .ref l2), (3, .int l3)]) dX6_append_131 sx_m6 (by rw [hx63]; rfl) (by decide) rfl ?_
    refine sx_goto (pc := 134) (tgt := 8) dX6_append_134 (by decide) ?_
    refine sx_wk (sx_s1 sx_m3 (sx_s1 sx_m4 (sx_s1 sx_m5 (sx_s1 sx_m6 (sx_s1 sx_m0 sx_s0))))) ?_
    exact hk8 _ _ _ _ _ h
theorem tL_X6_append_8 {g : sx_G} (hG : sx_Go g) {P : Option Value → sv_V → Prop} {Vr : sv_V} (hP : P none Vr) {N : Nat}   : ∀ (n : Nat) (l1 : Nat) (l2 : Nat) (l3 : Int32) (l4 : Int32) (V : sv_V), sx_lp5 (B_X6_append_8 N ) n l1 l2 l3 l4 V = some Vr → sv_N g qX6_append 1 8 [(0, .ref 30), (1, .ref l1), (2, .ref l2), (3, .int l3), (4, .int l4)] [] V P :=
  sx_lp5_ind (fun k0 ih _ _ _ _ V h => tB_X6_append_8 hG hP ih h)
def F_X6_append (N : Nat) (l1 : Nat) (l2 : Nat) (V : sv_V) : Option sv_V := if lay l1 = .inl 8 then sx_let (V.1 l1 9) (fun x65 => sx_lp5 (B_X6_append_8 N ) N l1 l2 x65 (0 : Int32) V) else none
set_option maxRecDepth 20000 in
theorem t_X6_append {g : sx_G} (hG : sx_Go g) {P : Option Value → sv_V → Prop} {Vr : sv_V} (hP : P none Vr) {N : Nat} {l1 : Nat} {l2 : Nat} {V : sv_V} (h : F_X6_append N l1 l2 V = some Vr) : sv_N g qX6_append 1 0 [(0, .ref 30), (1, .ref l1), (2, .ref l2)] [] V P := by
  unfold F_X6_append at h
  refine sx_aload_n (pc := 0) dX6_append_0 sx_m1 ?_
  obtain ⟨g64, h⟩ := sx_grd h
  refine sv_getI (pc := 1) hG dX6_append_1 f_6_136 g64 rfl ?_
  refine sv_tI (fun x65 hx65 => ?_)
  have h := sx_letE hx65 h
  refine sx_istore_n (pc := 4) (lo' := [(3, .int x65), (0, .ref 30), (1, .ref l1), (2, .ref l2)]) dX6_append_4 (by decide) rfl ?_
  refine sx_iconst (pc := 5) (v := 0) dX6_append_5 (by decide) ?_
  refine sx_istore (pc := 6) (lo' := [(4, .int (0 : Int32)), (3, .int x65), (0, .ref 30), (1, .ref l1), (2, .ref l2)]) dX6_append_6 (by decide) rfl ?_
  refine sx_wk (sx_s1 sx_m2 (sx_s1 sx_m3 (sx_s1 sx_m4 (sx_s1 sx_m1 (sx_s1 sx_m0 sx_s0))))) ?_
  exact tL_X6_append_8 hG hP  N _ _ _ _ _ h
theorem dX6_match_0 : decode cX6_match 0 = .ok (.aload_n 0, 1) := by decide +kernel
theorem dX6_match_1 : decode cX6_match 1 = .ok (.getfield 38, 3) := by decide +kernel
theorem dX6_match_4 : decode cX6_match 4 = .ok (.getfield 212, 3) := by decide +kernel
theorem dX6_match_7 : decode cX6_match 7 = .ok (.istore_n 3, 1) := by decide +kernel
theorem dX6_match_8 : decode cX6_match 8 = .ok (.iload_n 2, 1) := by decide +kernel
theorem dX6_match_9 : decode cX6_match 9 = .ok (.aload_n 0, 1) := by decide +kernel
theorem dX6_match_10 : decode cX6_match 10 = .ok (.getfield 38, 3) := by decide +kernel
theorem dX6_match_13 : decode cX6_match 13 = .ok (.getfield 218, 3) := by decide +kernel
theorem dX6_match_16 : decode cX6_match 16 = .ok (.iadd, 1) := by decide +kernel
theorem dX6_match_17 : decode cX6_match 17 = .ok (.istore 4, 2) := by decide +kernel
theorem dX6_match_19 : decode cX6_match 19 = .ok (.iload_n 3, 1) := by decide +kernel
theorem dX6_match_20 : decode cX6_match 20 = .ok (.iload_n 2, 1) := by decide +kernel
theorem dX6_match_21 : decode cX6_match 21 = .ok (.if_icmp .ge 12, 3) := by decide +kernel
theorem dX6_match_24 : decode cX6_match 24 = .ok (.iload 4, 2) := by decide +kernel
theorem dX6_match_26 : decode cX6_match 26 = .ok (.aload_n 1, 1) := by decide +kernel
theorem dX6_match_27 : decode cX6_match 27 = .ok (.getfield 136, 3) := by decide +kernel
theorem dX6_match_30 : decode cX6_match 30 = .ok (.if_icmp .lt 5, 3) := by decide +kernel
theorem dX6_match_33 : decode cX6_match 33 = .ok (.iconst 0, 1) := by decide +kernel
theorem dX6_match_34 : decode cX6_match 34 = .ok (.ireturn, 1) := by decide +kernel
theorem dX6_match_35 : decode cX6_match 35 = .ok (.aload_n 1, 1) := by decide +kernel
theorem dX6_match_36 : decode cX6_match 36 = .ok (.iload_n 2, 1) := by decide +kernel
theorem dX6_match_37 : decode cX6_match 37 = .ok (.aload_n 1, 1) := by decide +kernel
theorem dX6_match_38 : decode cX6_match 38 = .ok (.getfield 190, 3) := by decide +kernel
theorem dX6_match_41 : decode cX6_match 41 = .ok (.iload_n 3, 1) := by decide +kernel
theorem dX6_match_42 : decode cX6_match 42 = .ok (.iaload, 1) := by decide +kernel
theorem dX6_match_43 : decode cX6_match 43 = .ok (.aload_n 1, 1) := by decide +kernel
theorem dX6_match_44 : decode cX6_match 44 = .ok (.getfield 190, 3) := by decide +kernel
theorem dX6_match_47 : decode cX6_match 47 = .ok (.iload 4, 2) := by decide +kernel
theorem dX6_match_49 : decode cX6_match 49 = .ok (.iaload, 1) := by decide +kernel
theorem dX6_match_50 : decode cX6_match 50 = .ok (.isub, 1) := by decide +kernel
theorem dX6_match_51 : decode cX6_match 51 = .ok (.aload_n 1, 1) := by decide +kernel
theorem dX6_match_52 : decode cX6_match 52 = .ok (.getfield 193, 3) := by decide +kernel
theorem dX6_match_55 : decode cX6_match 55 = .ok (.iload_n 3, 1) := by decide +kernel
theorem dX6_match_56 : decode cX6_match 56 = .ok (.iaload, 1) := by decide +kernel
theorem dX6_match_57 : decode cX6_match 57 = .ok (.aload_n 1, 1) := by decide +kernel
theorem dX6_match_58 : decode cX6_match 58 = .ok (.getfield 193, 3) := by decide +kernel
theorem dX6_match_61 : decode cX6_match 61 = .ok (.iload 4, 2) := by decide +kernel
theorem dX6_match_63 : decode cX6_match 63 = .ok (.iaload, 1) := by decide +kernel
theorem dX6_match_64 : decode cX6_match 64 = .ok (.isub, 1) := by decide +kernel
theorem dX6_match_65 : decode cX6_match 65 = .ok (.invokevirtual 121, 3) := by decide +kernel
theorem dX6_match_68 : decode cX6_match 68 = .ok (.iconst 1, 1) := by decide +kernel
theorem dX6_match_69 : decode cX6_match 69 = .ok (.ireturn, 1) := by decide +kernel
def F_X6_match (N : Nat) (l1 : Nat) (l2 : Int32) (V : sv_V) : Option (Int32 × sv_V) := sx_let (V.1 16 9) (fun x1 => sx_let (l2 + (V.1 16 10)) (fun x2 => if l2 ≤ x1 then (some ((0 : Int32), V)) else (if lay l1 = .inl 8 then if x2 < (V.1 l1 9) then ((cr l1 0).bind (fun b6 => (sv_len 0 b6).bind (fun n8 => if sx_in x1 n8 = true then if sx_in x2 n8 = true then (cr l1 1).bind (fun b12 => (sv_len 0 b12).bind (fun n14 => if sx_in x1 n14 = true then if sx_in x2 n14 = true then (F_X8_shift N l1 l2 ((V.1 b6 x1.toNatClampNeg) - (V.1 b6 x2.toNatClampNeg)) ((V.1 b12 x1.toNatClampNeg) - (V.1 b12 x2.toNatClampNeg)) V).bind (fun V18 => some ((1 : Int32), V18)) else none else none)) else none else none))) else (some ((0 : Int32), V)) else none)))
set_option maxRecDepth 20000 in
theorem t_X6_match {g : sx_G} (hG : sx_Go g) {P : Option Value → sv_V → Prop} {r : Int32} {Vr : sv_V} (hP : P (some (.int r)) Vr) {N : Nat} {l1 : Nat} {l2 : Int32} {V : sv_V} (h : F_X6_match N l1 l2 V = some (r, Vr)) : sv_N g qX6_match 1 0 [(0, .ref 30), (1, .ref l1), (2, .int l2)] [] V P := by
  unfold F_X6_match at h
  refine sx_aload_n (pc := 0) dX6_match_0 sx_m0 ?_
  refine sv_getO (pc := 1) hG dX6_match_1 f_6_38 lay_30 rfl cr_30_1 ?_
  refine sv_getI (pc := 4) hG dX6_match_4 f_6_212 lay_16 rfl ?_
  refine sv_tI (fun x1 hx1 => ?_)
  have h := sx_letE hx1 h
  refine sx_istore_n (pc := 7) (lo' := [(3, .int x1), (0, .ref 30), (1, .ref l1), (2, .int l2)]) dX6_match_7 (by decide) rfl ?_
  refine sx_iload_n (pc := 8) dX6_match_8 sx_m3 ?_
  refine sx_aload_n (pc := 9) dX6_match_9 sx_m1 ?_
  refine sv_getO (pc := 10) hG dX6_match_10 f_6_38 lay_30 rfl cr_30_1 ?_
  refine sv_getI (pc := 13) hG dX6_match_13 f_6_218 lay_16 rfl ?_
  refine sx_iadd (pc := 16) dX6_match_16 ?_
  refine sv_tI (fun x2 hx2 => ?_)
  have h := sx_letE hx2 h
  refine sx_istore (pc := 17) (lo' := [(4, .int x2), (3, .int x1), (0, .ref 30), (1, .ref l1), (2, .int l2)]) dX6_match_17 (by decide) rfl ?_
  refine sx_iload_n (pc := 19) dX6_match_19 sx_m1 ?_
  refine sx_iload_n (pc := 20) dX6_match_20 sx_m4 ?_
  refine sx_icmp_ge (pc := 21) (tgt := 33) dX6_match_21 (by decide) (fun c3 => ?_) (fun c3 => ?_)
  · have h := sx_pos c3 h
    refine sx_iconst (pc := 33) (v := 0) dX6_match_33 (by decide) ?_
    exact sv_zret (pc := 34) dX6_match_34 rfl rfl h hP
  · have h := sx_neg c3 h
    refine sx_iload (pc := 24) dX6_match_24 sx_m0 ?_
    refine sx_aload_n (pc := 26) dX6_match_26 sx_m3 ?_
    obtain ⟨g4, h⟩ := sx_grd h
    refine sv_getI (pc := 27) hG dX6_match_27 f_6_136 g4 rfl ?_
    refine sx_icmp_lt (pc := 30) (tgt := 35) dX6_match_30 (by decide) (fun c5 => ?_) (fun c5 => ?_)
    · have h := sx_pos c5 h
      refine sx_aload_n (pc := 35) dX6_match_35 sx_m3 ?_
      refine sx_iload_n (pc := 36) dX6_match_36 sx_m4 ?_
      refine sx_aload_n (pc := 37) dX6_match_37 sx_m3 ?_
      obtain ⟨b6, g7, h⟩ := sx_bnd h
      refine sv_getA (pc := 38) hG dX6_match_38 f_6_190 g4 rfl g7 ?_
      refine sx_iload_n (pc := 41) dX6_match_41 sx_m1 ?_
      obtain ⟨n8, g9, h⟩ := sx_bnd h
      obtain ⟨g10, h⟩ := sx_grd h
      refine sv_iald (pc := 42) hG dX6_match_42 (sv_len_e g9) g10 ?_
      refine sx_aload_n (pc := 43) dX6_match_43 sx_m3 ?_
      refine sv_getA (pc := 44) hG dX6_match_44 f_6_190 g4 rfl g7 ?_
      refine sx_iload (pc := 47) dX6_match_47 sx_m0 ?_
      obtain ⟨g11, h⟩ := sx_grd h
      refine sv_iald (pc := 49) hG dX6_match_49 (sv_len_e g9) g11 ?_
      refine sx_isub (pc := 50) dX6_match_50 ?_
      refine sx_aload_n (pc := 51) dX6_match_51 sx_m3 ?_
      obtain ⟨b12, g13, h⟩ := sx_bnd h
      refine sv_getA (pc := 52) hG dX6_match_52 f_6_193 g4 rfl g13 ?_
      refine sx_iload_n (pc := 55) dX6_match_55 sx_m1 ?_
      obtain ⟨n14, g15, h⟩ := sx_bnd h
      obtain ⟨g16, h⟩ := sx_grd h
      refine sv_iald (pc := 56) hG dX6_match_56 (sv_len_e g15) g16 ?_
      refine sx_aload_n (pc := 57) dX6_match_57 sx_m3 ?_
      refine sv_getA (pc := 58) hG dX6_match_58 f_6_193 g4 rfl g13 ?_
      refine sx_iload (pc := 61) dX6_match_61 sx_m0 ?_
      obtain ⟨g17, h⟩ := sx_grd h
      refine sv_iald (pc := 63) hG dX6_match_63 (sv_len_e g15) g17 ?_
      refine sx_isub (pc := 64) dX6_match_64 ?_
      obtain ⟨V18, g19, h⟩ := sx_bnd h
      refine sv_cV (pc := 65) (y := qX8_shift) (o := none) (as := [.int l2, .int ((V.1 b6 x1.toNatClampNeg) - (V.1 b6 x2.toNatClampNeg)), .int ((V.1 b12 x1.toNatClampNeg) - (V.1 b12 x2.toNatClampNeg))]) (V1 := V18) hG dX6_match_65 l_X6_121 y0X8_shift yvX8_shift rfl (Nat.le_of_ble_eq_true rfl) g4 kr_8 (by decide) (Nat.le_of_ble_eq_true rfl) rfl rfl rfl (t_X8_shift hG ⟨rfl, rfl⟩ g19) ?_
      refine sx_iconst (pc := 68) (v := 1) dX6_match_68 (by decide) ?_
      exact sv_zret (pc := 69) dX6_match_69 rfl rfl h hP
    · have h := sx_neg c5 h
      refine sx_iconst (pc := 33) (v := 0) dX6_match_33 (by decide) ?_
      exact sv_zret (pc := 34) dX6_match_34 rfl rfl h hP
theorem dX8_clearTo_0 : decode cX8_clearTo 0 = .ok (.aload_n 0, 1) := by decide +kernel
theorem dX8_clearTo_1 : decode cX8_clearTo 1 = .ok (.iload_n 1, 1) := by decide +kernel
theorem dX8_clearTo_2 : decode cX8_clearTo 2 = .ok (.putfield 43, 3) := by decide +kernel
theorem dX8_clearTo_5 : decode cX8_clearTo 5 = .ok (.aload_n 0, 1) := by decide +kernel
theorem dX8_clearTo_6 : decode cX8_clearTo 6 = .ok (.iconst 0, 1) := by decide +kernel
theorem dX8_clearTo_7 : decode cX8_clearTo 7 = .ok (.putfield 46, 3) := by decide +kernel
theorem dX8_clearTo_10 : decode cX8_clearTo 10 = .ok (.aload_n 0, 1) := by decide +kernel
theorem dX8_clearTo_11 : decode cX8_clearTo 11 = .ok (.getfield 21, 3) := by decide +kernel
theorem dX8_clearTo_14 : decode cX8_clearTo 14 = .ok (.iconst 0, 1) := by decide +kernel
theorem dX8_clearTo_15 : decode cX8_clearTo 15 = .ok (.invokestatic 49, 3) := by decide +kernel
theorem dX8_clearTo_18 : decode cX8_clearTo 18 = .ok (.aload_n 0, 1) := by decide +kernel
theorem dX8_clearTo_19 : decode cX8_clearTo 19 = .ok (.getfield 24, 3) := by decide +kernel
theorem dX8_clearTo_22 : decode cX8_clearTo 22 = .ok (.iconst 0, 1) := by decide +kernel
theorem dX8_clearTo_23 : decode cX8_clearTo 23 = .ok (.invokestatic 49, 3) := by decide +kernel
theorem dX8_clearTo_26 : decode cX8_clearTo 26 = .ok (.aload_n 0, 1) := by decide +kernel
theorem dX8_clearTo_27 : decode cX8_clearTo 27 = .ok (.getfield 27, 3) := by decide +kernel
theorem dX8_clearTo_30 : decode cX8_clearTo 30 = .ok (.iconst 0, 1) := by decide +kernel
theorem dX8_clearTo_31 : decode cX8_clearTo 31 = .ok (.invokestatic 49, 3) := by decide +kernel
theorem dX8_clearTo_34 : decode cX8_clearTo 34 = .ok (.aload_n 0, 1) := by decide +kernel
theorem dX8_clearTo_35 : decode cX8_clearTo 35 = .ok (.getfield 30, 3) := by decide +kernel
theorem dX8_clearTo_38 : decode cX8_clearTo 38 = .ok (.iconst 0, 1) := by decide +kernel
theorem dX8_clearTo_39 : decode cX8_clearTo 39 = .ok (.invokestatic 49, 3) := by decide +kernel
theorem dX8_clearTo_42 : decode cX8_clearTo 42 = .ok (.aload_n 0, 1) := by decide +kernel
theorem dX8_clearTo_43 : decode cX8_clearTo 43 = .ok (.getfield 33, 3) := by decide +kernel
theorem dX8_clearTo_46 : decode cX8_clearTo 46 = .ok (.iconst 0, 1) := by decide +kernel
theorem dX8_clearTo_47 : decode cX8_clearTo 47 = .ok (.invokestatic 49, 3) := by decide +kernel
theorem dX8_clearTo_50 : decode cX8_clearTo 50 = .ok (.return_, 1) := by decide +kernel
def F_X8_clearTo (N : Nat) (l0 : Nat) (l1 : Int32) (V : sv_V) : Option sv_V := if lay l0 = .inl 8 then sx_let (sv_I V l0 9 l1) (fun V2 => sx_let (sv_I V2 l0 10 (0 : Int32)) (fun V3 => (cr l0 0).bind (fun b4 => (F_J7_fill_53178 N b4 (0 : Int32) V3).bind (fun V6 => (cr l0 1).bind (fun b8 => (F_J7_fill_53178 N b8 (0 : Int32) V6).bind (fun V10 => (cr l0 2).bind (fun b12 => (F_J7_fill_53178 N b12 (0 : Int32) V10).bind (fun V14 => (cr l0 3).bind (fun b16 => (F_J7_fill_53178 N b16 (0 : Int32) V14).bind (fun V18 => (cr l0 4).bind (fun b20 => (F_J7_fill_53178 N b20 (0 : Int32) V18).bind (fun V22 => some V22)))))))))))) else none
set_option maxRecDepth 20000 in
theorem t_X8_clearTo {g : sx_G} (hG : sx_Go g) {P : Option Value → sv_V → Prop} {Vr : sv_V} (hP : P none Vr) {N : Nat} {l0 : Nat} {l1 : Int32} {V : sv_V} (h : F_X8_clearTo N l0 l1 V = some Vr) : sv_N g qX8_clearTo 1 0 [(0, .ref l0), (1, .int l1)] [] V P := by
  unfold F_X8_clearTo at h
  refine sx_aload_n (pc := 0) dX8_clearTo_0 sx_m0 ?_
  refine sx_iload_n (pc := 1) dX8_clearTo_1 sx_m1 ?_
  obtain ⟨g1, h⟩ := sx_grd h
  obtain ⟨V2, hV2⟩ : ∃ z : sv_V, z = sv_I V l0 9 l1 := ⟨_, rfl⟩
  have h := sx_letE hV2 h
  refine sv_putI (pc := 2) hG dX8_clearTo_2 f_8_43 g1 rfl hV2 ?_
  refine sx_aload_n (pc := 5) dX8_clearTo_5 sx_m0 ?_
  refine sx_iconst (pc := 6) (v := 0) dX8_clearTo_6 (by decide) ?_
  obtain ⟨V3, hV3⟩ : ∃ z : sv_V, z = sv_I V2 l0 10 (0 : Int32) := ⟨_, rfl⟩
  have h := sx_letE hV3 h
  refine sv_putI (pc := 7) hG dX8_clearTo_7 f_8_46 g1 rfl hV3 ?_
  refine sx_aload_n (pc := 10) dX8_clearTo_10 sx_m0 ?_
  obtain ⟨b4, g5, h⟩ := sx_bnd h
  refine sv_getA (pc := 11) hG dX8_clearTo_11 f_8_21 g1 rfl g5 ?_
  refine sx_iconst (pc := 14) (v := 0) dX8_clearTo_14 (by decide) ?_
  obtain ⟨V6, g7, h⟩ := sx_bnd h
  refine sv_cS (pc := 15) (y := qJ7_fill_53178) (o := none) (as := [.ref b4, .int (0 : Int32)]) (V1 := V6) dX8_clearTo_15 l_X8_49 y0J7_fill_53178 ysJ7_fill_53178 rfl (Nat.le_of_ble_eq_true rfl) (by decide) (Nat.le_of_ble_eq_true rfl) rfl rfl rfl (t_J7_fill_53178 hG ⟨rfl, rfl⟩ g7) ?_
  refine sx_aload_n (pc := 18) dX8_clearTo_18 sx_m0 ?_
  obtain ⟨b8, g9, h⟩ := sx_bnd h
  refine sv_getA (pc := 19) hG dX8_clearTo_19 f_8_24 g1 rfl g9 ?_
  refine sx_iconst (pc := 22) (v := 0) dX8_clearTo_22 (by decide) ?_
  obtain ⟨V10, g11, h⟩ := sx_bnd h
  refine sv_cS (pc := 23) (y := qJ7_fill_53178) (o := none) (as := [.ref b8, .int (0 : Int32)]) (V1 := V10) dX8_clearTo_23 l_X8_49 y0J7_fill_53178 ysJ7_fill_53178 rfl (Nat.le_of_ble_eq_true rfl) (by decide) (Nat.le_of_ble_eq_true rfl) rfl rfl rfl (t_J7_fill_53178 hG ⟨rfl, rfl⟩ g11) ?_
  refine sx_aload_n (pc := 26) dX8_clearTo_26 sx_m0 ?_
  obtain ⟨b12, g13, h⟩ := sx_bnd h
  refine sv_getA (pc := 27) hG dX8_clearTo_27 f_8_27 g1 rfl g13 ?_
  refine sx_iconst (pc := 30) (v := 0) dX8_clearTo_30 (by decide) ?_
  obtain ⟨V14, g15, h⟩ := sx_bnd h
  refine sv_cS (pc := 31) (y := qJ7_fill_53178) (o := none) (as := [.ref b12, .int (0 : Int32)]) (V1 := V14) dX8_clearTo_31 l_X8_49 y0J7_fill_53178 ysJ7_fill_53178 rfl (Nat.le_of_ble_eq_true rfl) (by decide) (Nat.le_of_ble_eq_true rfl) rfl rfl rfl (t_J7_fill_53178 hG ⟨rfl, rfl⟩ g15) ?_
  refine sx_aload_n (pc := 34) dX8_clearTo_34 sx_m0 ?_
  obtain ⟨b16, g17, h⟩ := sx_bnd h
  refine sv_getA (pc := 35) hG dX8_clearTo_35 f_8_30 g1 rfl g17 ?_
  refine sx_iconst (pc := 38) (v := 0) dX8_clearTo_38 (by decide) ?_
  obtain ⟨V18, g19, h⟩ := sx_bnd h
  refine sv_cS (pc := 39) (y := qJ7_fill_53178) (o := none) (as := [.ref b16, .int (0 : Int32)]) (V1 := V18) dX8_clearTo_39 l_X8_49 y0J7_fill_53178 ysJ7_fill_53178 rfl (Nat.le_of_ble_eq_true rfl) (by decide) (Nat.le_of_ble_eq_true rfl) rfl rfl rfl (t_J7_fill_53178 hG ⟨rfl, rfl⟩ g19) ?_
  refine sx_aload_n (pc := 42) dX8_clearTo_42 sx_m0 ?_
  obtain ⟨b20, g21, h⟩ := sx_bnd h
  refine sv_getA (pc := 43) hG dX8_clearTo_43 f_8_33 g1 rfl g21 ?_
  refine sx_iconst (pc := 46) (v := 0) dX8_clearTo_46 (by decide) ?_
  obtain ⟨V22, g23, h⟩ := sx_bnd h
  refine sv_cS (pc := 47) (y := qJ7_fill_53178) (o := none) (as := [.ref b20, .int (0 : Int32)]) (V1 := V22) dX8_clearTo_47 l_X8_49 y0J7_fill_53178 ysJ7_fill_53178 rfl (Nat.le_of_ble_eq_true rfl) (by decide) (Nat.le_of_ble_eq_true rfl) rfl rfl rfl (t_J7_fill_53178 hG ⟨rfl, rfl⟩ g23) ?_
  exact sv_vret (pc := 50) dX8_clearTo_50 rfl h hP
theorem dX8_liesWithin_0 : decode cX8_liesWithin 0 = .ok (.iconst 0, 1) := by decide +kernel
theorem dX8_liesWithin_1 : decode cX8_liesWithin 1 = .ok (.istore_n 2, 1) := by decide +kernel
theorem dX8_liesWithin_2 : decode cX8_liesWithin 2 = .ok (.iload_n 2, 1) := by decide +kernel
theorem dX8_liesWithin_3 : decode cX8_liesWithin 3 = .ok (.aload_n 0, 1) := by decide +kernel
theorem dX8_liesWithin_4 : decode cX8_liesWithin 4 = .ok (.getfield 43, 3) := by decide +kernel
theorem dX8_liesWithin_7 : decode cX8_liesWithin 7 = .ok (.if_icmp .ge 39, 3) := by decide +kernel
theorem dX8_liesWithin_10 : decode cX8_liesWithin 10 = .ok (.aload_n 0, 1) := by decide +kernel
theorem dX8_liesWithin_11 : decode cX8_liesWithin 11 = .ok (.getfield 21, 3) := by decide +kernel
theorem dX8_liesWithin_14 : decode cX8_liesWithin 14 = .ok (.iload_n 2, 1) := by decide +kernel
theorem dX8_liesWithin_15 : decode cX8_liesWithin 15 = .ok (.iaload, 1) := by decide +kernel
theorem dX8_liesWithin_16 : decode cX8_liesWithin 16 = .ok (.i2l, 1) := by decide +kernel
theorem dX8_liesWithin_17 : decode cX8_liesWithin 17 = .ok (.iload_n 1, 1) := by decide +kernel
theorem dX8_liesWithin_18 : decode cX8_liesWithin 18 = .ok (.invokestatic 65, 3) := by decide +kernel
theorem dX8_liesWithin_21 : decode cX8_liesWithin 21 = .ok (.ifCond .ne 17, 3) := by decide +kernel
theorem dX8_liesWithin_24 : decode cX8_liesWithin 24 = .ok (.aload_n 0, 1) := by decide +kernel
theorem dX8_liesWithin_25 : decode cX8_liesWithin 25 = .ok (.getfield 24, 3) := by decide +kernel
theorem dX8_liesWithin_28 : decode cX8_liesWithin 28 = .ok (.iload_n 2, 1) := by decide +kernel
theorem dX8_liesWithin_29 : decode cX8_liesWithin 29 = .ok (.iaload, 1) := by decide +kernel
theorem dX8_liesWithin_30 : decode cX8_liesWithin 30 = .ok (.i2l, 1) := by decide +kernel
theorem dX8_liesWithin_31 : decode cX8_liesWithin 31 = .ok (.iload_n 1, 1) := by decide +kernel
theorem dX8_liesWithin_32 : decode cX8_liesWithin 32 = .ok (.invokestatic 65, 3) := by decide +kernel
theorem dX8_liesWithin_35 : decode cX8_liesWithin 35 = .ok (.ifCond .eq 5, 3) := by decide +kernel
theorem dX8_liesWithin_38 : decode cX8_liesWithin 38 = .ok (.iconst 0, 1) := by decide +kernel
theorem dX8_liesWithin_39 : decode cX8_liesWithin 39 = .ok (.ireturn, 1) := by decide +kernel
theorem dX8_liesWithin_40 : decode cX8_liesWithin 40 = .ok (.iinc 2 1, 3) := by decide +kernel
theorem dX8_liesWithin_43 : decode cX8_liesWithin 43 = .ok (.goto (-41), 3) := by decide +kernel
theorem dX8_liesWithin_46 : decode cX8_liesWithin 46 = .ok (.iconst 1, 1) := by decide +kernel
theorem dX8_liesWithin_47 : decode cX8_liesWithin 47 = .ok (.ireturn, 1) := by decide +kernel
def B_X8_liesWithin_2 (N : Nat) (k2 : Nat → Int32 → Int32 → sv_V → Option (Int32 × sv_V)) (l0 : Nat) (l1 : Int32) (l2 : Int32) (V : sv_V) : Option (Int32 × sv_V) := if lay l0 = .inl 8 then if (V.1 l0 9) ≤ l2 then (some ((1 : Int32), V)) else ((cr l0 0).bind (fun b3 => (sv_len 0 b3).bind (fun n5 => if sx_in l2 n5 = true then (F_X11_isBeyond ((V.1 b3 l2.toNatClampNeg).toInt64) l1 V).bind (fun (x10, V8) => if x10 = 0 then ((cr l0 1).bind (fun b12 => (sv_len 0 b12).bind (fun n14 => if sx_in l2 n14 = true then (F_X11_isBeyond ((V8.1 b12 l2.toNatClampNeg).toInt64) l1 V8).bind (fun (x19, V17) => if x19 = 0 then (sx_let (l2 + 1) (fun x21 => k2 l0 l1 x21 V17)) else (some ((0 : Int32), V17))) else none))) else (some ((0 : Int32), V8))) else none))) else none
set_option maxRecDepth 20000 in
theorem tB_X8_liesWithin_2 {g : sx_G} (hG : sx_Go g) {P : Option Value → sv_V → Prop} {r : Int32} {Vr : sv_V} (hP : P (some (.int r)) Vr) {N : Nat} {k2 : Nat → Int32 → Int32 → sv_V → Option (Int32 × sv_V)} (hk2 : ∀ (l0 : Nat) (l1 : Int32) (l2 : Int32) (V : sv_V), k2 l0 l1 l2 V = some (r, Vr) → sv_N g qX8_liesWithin 1 2 [(0, .ref l0), (1, .int l1), (2, .int l2)] [] V P) {l0 : Nat} {l1 : Int32} {l2 : Int32} {V : sv_V} (h : B_X8_liesWithin_2 N k2 l0 l1 l2 V = some (r, Vr)) : sv_N g qX8_liesWithin 1 2 [(0, .ref l0), (1, .int l1), (2, .int l2)] [] V P := by
  unfold B_X8_liesWithin_2 at h
  refine sx_iload_n (pc := 2) dX8_liesWithin_2 sx_m2 ?_
  refine sx_aload_n (pc := 3) dX8_liesWithin_3 sx_m0 ?_
  obtain ⟨g1, h⟩ := sx_grd h
  refine sv_getI (pc := 4) hG dX8_liesWithin_4 f_8_43 g1 rfl ?_
  refine sx_icmp_ge (pc := 7) (tgt := 46) dX8_liesWithin_7 (by decide) (fun c2 => ?_) (fun c2 => ?_)
  · have h := sx_pos c2 h
    refine sx_iconst (pc := 46) (v := 1) dX8_liesWithin_46 (by decide) ?_
    exact sv_zret (pc := 47) dX8_liesWithin_47 rfl rfl h hP
  · have h := sx_neg c2 h
    refine sx_aload_n (pc := 10) dX8_liesWithin_10 sx_m0 ?_
    obtain ⟨b3, g4, h⟩ := sx_bnd h
    refine sv_getA (pc := 11) hG dX8_liesWithin_11 f_8_21 g1 rfl g4 ?_
    refine sx_iload_n (pc := 14) dX8_liesWithin_14 sx_m2 ?_
    obtain ⟨n5, g6, h⟩ := sx_bnd h
    obtain ⟨g7, h⟩ := sx_grd h
    refine sv_iald (pc := 15) hG dX8_liesWithin_15 (sv_len_e g6) g7 ?_
    refine sx_i2l (pc := 16) dX8_liesWithin_16 ?_
    refine sx_iload_n (pc := 17) dX8_liesWithin_17 sx_m1 ?_
    obtain ⟨⟨x10, V8⟩, g9, h⟩ := sx_bnd h
    refine sv_cN (pc := 18) (y := qX11_isBeyond) (o := (some (.int x10))) (as := [.long ((V.1 b3 l2.toNatClampNeg).toInt64), .int l1]) (V1 := V8) dX8_liesWithin_18 n_X8_65 y0X11_isBeyond ysX11_isBeyond rfl (Nat.le_of_ble_eq_true rfl) (by decide) (Nat.le_of_ble_eq_true rfl) rfl rfl rfl (t_X11_isBeyond hG ⟨rfl, rfl⟩ g9) ?_
    refine sx_if_ne (pc := 21) (tgt := 38) dX8_liesWithin_21 (by decide) (fun c11 => ?_) (fun c11 => ?_)
    · have h := sx_neg c11 h
      refine sx_iconst (pc := 38) (v := 0) dX8_liesWithin_38 (by decide) ?_
      exact sv_zret (pc := 39) dX8_liesWithin_39 rfl rfl h hP
    · have h := sx_pos c11 h
      refine sx_aload_n (pc := 24) dX8_liesWithin_24 sx_m0 ?_
      obtain ⟨b12, g13, h⟩ := sx_bnd h
      refine sv_getA (pc := 25) hG dX8_liesWithin_25 f_8_24 g1 rfl g13 ?_
      refine sx_iload_n (pc := 28) dX8_liesWithin_28 sx_m2 ?_
      obtain ⟨n14, g15, h⟩ := sx_bnd h
      obtain ⟨g16, h⟩ := sx_grd h
      refine sv_iald (pc := 29) hG dX8_liesWithin_29 (sv_len_e g15) g16 ?_
      refine sx_i2l (pc := 30) dX8_liesWithin_30 ?_
      refine sx_iload_n (pc := 31) dX8_liesWithin_31 sx_m1 ?_
      obtain ⟨⟨x19, V17⟩, g18, h⟩ := sx_bnd h
      refine sv_cN (pc := 32) (y := qX11_isBeyond) (o := (some (.int x19))) (as := [.long ((V8.1 b12 l2.toNatClampNeg).toInt64), .int l1]) (V1 := V17) dX8_liesWithin_32 n_X8_65 y0X11_isBeyond ysX11_isBeyond rfl (Nat.le_of_ble_eq_true rfl) (by decide) (Nat.le_of_ble_eq_true rfl) rfl rfl rfl (t_X11_isBeyond hG ⟨rfl, rfl⟩ g18) ?_
      refine sx_if_eq (pc := 35) (tgt := 40) dX8_liesWithin_35 (by decide) (fun c20 => ?_) (fun c20 => ?_)
      · have h := sx_pos c20 h
        obtain ⟨x21, hx21⟩ : ∃ z : Int32, z = l2 + 1 := ⟨_, rfl⟩
        have h := sx_letE hx21 h
        refine sx_iinc (pc := 40) (v := x21) (lo' := [(2, .int x21), (0, .ref l0), (1, .int l1)]) dX8_liesWithin_40 sx_m2 (by rw [hx21]; rfl) (by decide) rfl ?_
        refine sx_goto (pc := 43) (tgt := 2) dX8_liesWithin_43 (by decide) ?_
        refine sx_wk (sx_s1 sx_m1 (sx_s1 sx_m2 (sx_s1 sx_m0 sx_s0))) ?_
        exact hk2 _ _ _ _ h
      · have h := sx_neg c20 h
        refine sx_iconst (pc := 38) (v := 0) dX8_liesWithin_38 (by decide) ?_
        exact sv_zret (pc := 39) dX8_liesWithin_39 rfl rfl h hP
theorem tL_X8_liesWithin_2 {g : sx_G} (hG : sx_Go g) {P : Option Value → sv_V → Prop} {r : Int32} {Vr : sv_V} (hP : P (some (.int r)) Vr) {N : Nat}   : ∀ (n : Nat) (l0 : Nat) (l1 : Int32) (l2 : Int32) (V : sv_V), sx_lp4 (B_X8_liesWithin_2 N ) n l0 l1 l2 V = some (r, Vr) → sv_N g qX8_liesWithin 1 2 [(0, .ref l0), (1, .int l1), (2, .int l2)] [] V P :=
  sx_lp4_ind (fun k0 ih _ _ _ V h => tB_X8_liesWithin_2 hG hP ih h)
def F_X8_liesWithin (N : Nat) (l0 : Nat) (l1 : Int32) (V : sv_V) : Option (Int32 × sv_V) := sx_lp4 (B_X8_liesWithin_2 N ) N l0 l1 (0 : Int32) V
set_option maxRecDepth 20000 in
theorem t_X8_liesWithin {g : sx_G} (hG : sx_Go g) {P : Option Value → sv_V → Prop} {r : Int32} {Vr : sv_V} (hP : P (some (.int r)) Vr) {N : Nat} {l0 : Nat} {l1 : Int32} {V : sv_V} (h : F_X8_liesWithin N l0 l1 V = some (r, Vr)) : sv_N g qX8_liesWithin 1 0 [(0, .ref l0), (1, .int l1)] [] V P := by
  unfold F_X8_liesWithin at h
  refine sx_iconst (pc := 0) (v := 0) dX8_liesWithin_0 (by decide) ?_
  refine sx_istore_n (pc := 1) (lo' := [(2, .int (0 : Int32)), (0, .ref l0), (1, .int l1)]) dX8_liesWithin_1 (by decide) rfl ?_
  refine sx_wk (sx_s1 sx_m1 (sx_s1 sx_m2 (sx_s1 sx_m0 sx_s0))) ?_
  exact tL_X8_liesWithin_2 hG hP  N _ _ _ _ h
theorem dX9_goAlong_0 : decode cX9_goAlong 0 = .ok (.aload_n 0, 1) := by decide +kernel
theorem dX9_goAlong_1 : decode cX9_goAlong 1 = .ok (.iload_n 1, 1) := by decide +kernel
theorem dX9_goAlong_2 : decode cX9_goAlong 2 = .ok (.iconst 1, 1) := by decide +kernel
theorem dX9_goAlong_3 : decode cX9_goAlong 3 = .ok (.iand, 1) := by decide +kernel
theorem dX9_goAlong_4 : decode cX9_goAlong 4 = .ok (.iconst 1, 1) := by decide +kernel
theorem dX9_goAlong_5 : decode cX9_goAlong 5 = .ok (.if_icmp .ne 9, 3) := by decide +kernel
theorem dX9_goAlong_8 : decode cX9_goAlong 8 = .ok (.sipush 16384, 3) := by decide +kernel
theorem dX9_goAlong_11 : decode cX9_goAlong 11 = .ok (.goto 4, 3) := by decide +kernel
theorem dX9_goAlong_14 : decode cX9_goAlong 14 = .ok (.iconst 0, 1) := by decide +kernel
theorem dX9_goAlong_15 : decode cX9_goAlong 15 = .ok (.putfield 35, 3) := by decide +kernel
theorem dX9_goAlong_18 : decode cX9_goAlong 18 = .ok (.aload_n 0, 1) := by decide +kernel
theorem dX9_goAlong_19 : decode cX9_goAlong 19 = .ok (.sipush 16384, 3) := by decide +kernel
theorem dX9_goAlong_22 : decode cX9_goAlong 22 = .ok (.aload_n 0, 1) := by decide +kernel
theorem dX9_goAlong_23 : decode cX9_goAlong 23 = .ok (.getfield 35, 3) := by decide +kernel
theorem dX9_goAlong_26 : decode cX9_goAlong 26 = .ok (.isub, 1) := by decide +kernel
theorem dX9_goAlong_27 : decode cX9_goAlong 27 = .ok (.putfield 38, 3) := by decide +kernel
theorem dX9_goAlong_30 : decode cX9_goAlong 30 = .ok (.iload_n 1, 1) := by decide +kernel
theorem dX9_goAlong_31 : decode cX9_goAlong 31 = .ok (.iconst 4, 1) := by decide +kernel
theorem dX9_goAlong_32 : decode cX9_goAlong 32 = .ok (.if_icmp .ge 7, 3) := by decide +kernel
theorem dX9_goAlong_35 : decode cX9_goAlong 35 = .ok (.aload_n 0, 1) := by decide +kernel
theorem dX9_goAlong_36 : decode cX9_goAlong 36 = .ok (.invokevirtual 41, 3) := by decide +kernel
theorem dX9_goAlong_39 : decode cX9_goAlong 39 = .ok (.iload_n 1, 1) := by decide +kernel
theorem dX9_goAlong_40 : decode cX9_goAlong 40 = .ok (.iconst 2, 1) := by decide +kernel
theorem dX9_goAlong_41 : decode cX9_goAlong 41 = .ok (.if_icmp .lt 8, 3) := by decide +kernel
theorem dX9_goAlong_44 : decode cX9_goAlong 44 = .ok (.iload_n 1, 1) := by decide +kernel
theorem dX9_goAlong_45 : decode cX9_goAlong 45 = .ok (.iconst 3, 1) := by decide +kernel
theorem dX9_goAlong_46 : decode cX9_goAlong 46 = .ok (.if_icmp .le 7, 3) := by decide +kernel
theorem dX9_goAlong_49 : decode cX9_goAlong 49 = .ok (.aload_n 0, 1) := by decide +kernel
theorem dX9_goAlong_50 : decode cX9_goAlong 50 = .ok (.invokevirtual 44, 3) := by decide +kernel
theorem dX9_goAlong_53 : decode cX9_goAlong 53 = .ok (.return_, 1) := by decide +kernel
def B_X9_goAlong_49   (V : sv_V) : Option sv_V := (F_X9_useWayForF  V).bind (fun V1 => some V1)
set_option maxRecDepth 20000 in
theorem tB_X9_goAlong_49 {g : sx_G} (hG : sx_Go g) {P : Option Value → sv_V → Prop} {Vr : sv_V} (hP : P none Vr)    {V : sv_V} (h : B_X9_goAlong_49   V = some Vr) : sv_N g qX9_goAlong 1 49 [(0, .ref 70)] [] V P := by
  unfold B_X9_goAlong_49 at h
  refine sx_aload_n (pc := 49) dX9_goAlong_49 sx_m0 ?_
  obtain ⟨V1, g2, h⟩ := sx_bnd h
  refine sv_cV (pc := 50) (y := qX9_useWayForF) (o := none) (as := []) (V1 := V1) hG dX9_goAlong_50 l_X9_44 y0X9_useWayForF yvX9_useWayForF rfl (Nat.le_of_ble_eq_true rfl) lay_70 kr_9 (by decide) (Nat.le_of_ble_eq_true rfl) rfl rfl rfl (t_X9_useWayForF hG ⟨rfl, rfl⟩ g2) ?_
  exact sv_vret (pc := 53) dX9_goAlong_53 rfl h hP
def B_X9_goAlong_39  (l1 : Int32) (V : sv_V) : Option sv_V := if l1 < (2 : Int32) then (B_X9_goAlong_49   V) else (if l1 ≤ (3 : Int32) then (some V) else (B_X9_goAlong_49   V))
set_option maxRecDepth 20000 in
theorem tB_X9_goAlong_39 {g : sx_G} (hG : sx_Go g) {P : Option Value → sv_V → Prop} {Vr : sv_V} (hP : P none Vr)   {l1 : Int32} {V : sv_V} (h : B_X9_goAlong_39  l1 V = some Vr) : sv_N g qX9_goAlong 1 39 [(0, .ref 70), (1, .int l1)] [] V P := by
  unfold B_X9_goAlong_39 at h
  refine sx_iload_n (pc := 39) dX9_goAlong_39 sx_m1 ?_
  refine sx_iconst (pc := 40) (v := 2) dX9_goAlong_40 (by decide) ?_
  refine sx_icmp_lt (pc := 41) (tgt := 49) dX9_goAlong_41 (by decide) (fun c3 => ?_) (fun c3 => ?_)
  · have h := sx_pos c3 h
    refine sx_wk (sx_s1 sx_m0 sx_s0) ?_
    exact tB_X9_goAlong_49 hG hP  h
  · have h := sx_neg c3 h
    refine sx_iload_n (pc := 44) dX9_goAlong_44 sx_m1 ?_
    refine sx_iconst (pc := 45) (v := 3) dX9_goAlong_45 (by decide) ?_
    refine sx_icmp_le (pc := 46) (tgt := 53) dX9_goAlong_46 (by decide) (fun c4 => ?_) (fun c4 => ?_)
    · have h := sx_pos c4 h
      exact sv_vret (pc := 53) dX9_goAlong_53 rfl h hP
    · have h := sx_neg c4 h
      refine sx_wk (sx_s1 sx_m0 sx_s0) ?_
      exact tB_X9_goAlong_49 hG hP  h
def B_X9_goAlong_15  (l1 : Int32) (s1 : Int32) (V : sv_V) : Option sv_V := sx_let (sv_I V 70 12 s1) (fun V5 => sx_let (sv_I V5 70 13 ((16384 : Int32) - (V5.1 70 12))) (fun V6 => if (4 : Int32) ≤ l1 then (B_X9_goAlong_39  l1 V6) else ((F_X9_useWayForP  V6).bind (fun V8 => B_X9_goAlong_39  l1 V8))))
set_option maxRecDepth 20000 in
theorem tB_X9_goAlong_15 {g : sx_G} (hG : sx_Go g) {P : Option Value → sv_V → Prop} {Vr : sv_V} (hP : P none Vr)   {l1 : Int32} {s1 : Int32} {V : sv_V} (h : B_X9_goAlong_15  l1 s1 V = some Vr) : sv_N g qX9_goAlong 1 15 [(0, .ref 70), (1, .int l1)] [.int s1, .ref 70] V P := by
  unfold B_X9_goAlong_15 at h
  obtain ⟨V5, hV5⟩ : ∃ z : sv_V, z = sv_I V 70 12 s1 := ⟨_, rfl⟩
  have h := sx_letE hV5 h
  refine sv_putI (pc := 15) hG dX9_goAlong_15 f_9_35 lay_70 rfl hV5 ?_
  refine sx_aload_n (pc := 18) dX9_goAlong_18 sx_m0 ?_
  refine sx_sipush (pc := 19) (v := 16384) dX9_goAlong_19 (by decide) ?_
  refine sx_aload_n (pc := 22) dX9_goAlong_22 sx_m0 ?_
  refine sv_getI (pc := 23) hG dX9_goAlong_23 f_9_35 lay_70 rfl ?_
  refine sx_isub (pc := 26) dX9_goAlong_26 ?_
  obtain ⟨V6, hV6⟩ : ∃ z : sv_V, z = sv_I V5 70 13 ((16384 : Int32) - (V5.1 70 12)) := ⟨_, rfl⟩
  have h := sx_letE hV6 h
  refine sv_putI (pc := 27) hG dX9_goAlong_27 f_9_38 lay_70 rfl hV6 ?_
  refine sx_iload_n (pc := 30) dX9_goAlong_30 sx_m1 ?_
  refine sx_iconst (pc := 31) (v := 4) dX9_goAlong_31 (by decide) ?_
  refine sx_icmp_ge (pc := 32) (tgt := 39) dX9_goAlong_32 (by decide) (fun c7 => ?_) (fun c7 => ?_)
  · have h := sx_pos c7 h
    refine sx_wk (sx_s1 sx_m0 (sx_s1 sx_m1 sx_s0)) ?_
    exact tB_X9_goAlong_39 hG hP  h
  · have h := sx_neg c7 h
    refine sx_aload_n (pc := 35) dX9_goAlong_35 sx_m0 ?_
    obtain ⟨V8, g9, h⟩ := sx_bnd h
    refine sv_cV (pc := 36) (y := qX9_useWayForP) (o := none) (as := []) (V1 := V8) hG dX9_goAlong_36 l_X9_41 y0X9_useWayForP yvX9_useWayForP rfl (Nat.le_of_ble_eq_true rfl) lay_70 kr_9 (by decide) (Nat.le_of_ble_eq_true rfl) rfl rfl rfl (t_X9_useWayForP hG ⟨rfl, rfl⟩ g9) ?_
    refine sx_wk (sx_s1 sx_m0 (sx_s1 sx_m1 sx_s0)) ?_
    exact tB_X9_goAlong_39 hG hP  h
def F_X9_goAlong (l1 : Int32) (V : sv_V) : Option sv_V := if (l1 &&& (1 : Int32)) = (1 : Int32) then (B_X9_goAlong_15  l1 (16384 : Int32) V) else (B_X9_goAlong_15  l1 (0 : Int32) V)
set_option maxRecDepth 20000 in
theorem t_X9_goAlong {g : sx_G} (hG : sx_Go g) {P : Option Value → sv_V → Prop} {Vr : sv_V} (hP : P none Vr) {l1 : Int32} {V : sv_V} (h : F_X9_goAlong l1 V = some Vr) : sv_N g qX9_goAlong 1 0 [(0, .ref 70), (1, .int l1)] [] V P := by
  unfold F_X9_goAlong at h
  refine sx_aload_n (pc := 0) dX9_goAlong_0 sx_m0 ?_
  refine sx_iload_n (pc := 1) dX9_goAlong_1 sx_m1 ?_
  refine sx_iconst (pc := 2) (v := 1) dX9_goAlong_2 (by decide) ?_
  refine sx_iand (pc := 3) dX9_goAlong_3 ?_
  refine sx_iconst (pc := 4) (v := 1) dX9_goAlong_4 (by decide) ?_
  refine sx_icmp_ne (pc := 5) (tgt := 14) dX9_goAlong_5 (by decide) (fun c10 => ?_) (fun c10 => ?_)
  · have h := sx_neg c10 h
    refine sx_iconst (pc := 14) (v := 0) dX9_goAlong_14 (by decide) ?_
    refine sx_wk (sx_s1 sx_m0 (sx_s1 sx_m1 sx_s0)) ?_
    exact tB_X9_goAlong_15 hG hP  h
  · have h := sx_pos c10 h
    refine sx_sipush (pc := 8) (v := 16384) dX9_goAlong_8 (by decide) ?_
    refine sx_goto (pc := 11) (tgt := 15) dX9_goAlong_11 (by decide) ?_
    refine sx_wk (sx_s1 sx_m0 (sx_s1 sx_m1 sx_s0)) ?_
    exact tB_X9_goAlong_15 hG hP  h
theorem dX9_findWay_0 : decode cX9_findWay 0 = .ok (.lload_n 1, 1) := by decide +kernel
theorem dX9_findWay_1 : decode cX9_findWay 1 = .ok (.lconst 0, 1) := by decide +kernel
theorem dX9_findWay_2 : decode cX9_findWay 2 = .ok (.lcmp, 1) := by decide +kernel
theorem dX9_findWay_3 : decode cX9_findWay 3 = .ok (.ifCond .ne 22, 3) := by decide +kernel
theorem dX9_findWay_6 : decode cX9_findWay 6 = .ok (.lload_n 3, 1) := by decide +kernel
theorem dX9_findWay_7 : decode cX9_findWay 7 = .ok (.lconst 0, 1) := by decide +kernel
theorem dX9_findWay_8 : decode cX9_findWay 8 = .ok (.lcmp, 1) := by decide +kernel
theorem dX9_findWay_9 : decode cX9_findWay 9 = .ok (.ifCond .ne 16, 3) := by decide +kernel
theorem dX9_findWay_12 : decode cX9_findWay 12 = .ok (.aload_n 0, 1) := by decide +kernel
theorem dX9_findWay_13 : decode cX9_findWay 13 = .ok (.sipush 16384, 3) := by decide +kernel
theorem dX9_findWay_16 : decode cX9_findWay 16 = .ok (.putfield 35, 3) := by decide +kernel
theorem dX9_findWay_19 : decode cX9_findWay 19 = .ok (.aload_n 0, 1) := by decide +kernel
theorem dX9_findWay_20 : decode cX9_findWay 20 = .ok (.iconst 0, 1) := by decide +kernel
theorem dX9_findWay_21 : decode cX9_findWay 21 = .ok (.putfield 38, 3) := by decide +kernel
theorem dX9_findWay_24 : decode cX9_findWay 24 = .ok (.return_, 1) := by decide +kernel
theorem dX9_findWay_25 : decode cX9_findWay 25 = .ok (.iconst 0, 1) := by decide +kernel
theorem dX9_findWay_26 : decode cX9_findWay 26 = .ok (.istore 5, 2) := by decide +kernel
theorem dX9_findWay_28 : decode cX9_findWay 28 = .ok (.iload 5, 2) := by decide +kernel
theorem dX9_findWay_30 : decode cX9_findWay 30 = .ok (.bipush 64, 2) := by decide +kernel
theorem dX9_findWay_32 : decode cX9_findWay 32 = .ok (.if_icmp .ge 41, 3) := by decide +kernel
theorem dX9_findWay_35 : decode cX9_findWay 35 = .ok (.lload_n 1, 1) := by decide +kernel
theorem dX9_findWay_36 : decode cX9_findWay 36 = .ok (.sipush 30000, 3) := by decide +kernel
theorem dX9_findWay_39 : decode cX9_findWay 39 = .ok (.invokestatic 65, 3) := by decide +kernel
theorem dX9_findWay_42 : decode cX9_findWay 42 = .ok (.ifCond .ne 13, 3) := by decide +kernel
theorem dX9_findWay_45 : decode cX9_findWay 45 = .ok (.lload_n 3, 1) := by decide +kernel
theorem dX9_findWay_46 : decode cX9_findWay 46 = .ok (.sipush 30000, 3) := by decide +kernel
theorem dX9_findWay_49 : decode cX9_findWay 49 = .ok (.invokestatic 65, 3) := by decide +kernel
theorem dX9_findWay_52 : decode cX9_findWay 52 = .ok (.ifCond .eq 21, 3) := by decide +kernel
theorem dX9_findWay_55 : decode cX9_findWay 55 = .ok (.lload_n 1, 1) := by decide +kernel
theorem dX9_findWay_56 : decode cX9_findWay 56 = .ok (.ldc2_w 69, 3) := by decide +kernel
theorem dX9_findWay_59 : decode cX9_findWay 59 = .ok (.ldiv, 1) := by decide +kernel
theorem dX9_findWay_60 : decode cX9_findWay 60 = .ok (.lstore_n 1, 1) := by decide +kernel
theorem dX9_findWay_61 : decode cX9_findWay 61 = .ok (.lload_n 3, 1) := by decide +kernel
theorem dX9_findWay_62 : decode cX9_findWay 62 = .ok (.ldc2_w 69, 3) := by decide +kernel
theorem dX9_findWay_65 : decode cX9_findWay 65 = .ok (.ldiv, 1) := by decide +kernel
theorem dX9_findWay_66 : decode cX9_findWay 66 = .ok (.lstore_n 3, 1) := by decide +kernel
theorem dX9_findWay_67 : decode cX9_findWay 67 = .ok (.iinc 5 1, 3) := by decide +kernel
theorem dX9_findWay_70 : decode cX9_findWay 70 = .ok (.goto (-42), 3) := by decide +kernel
theorem dX9_findWay_73 : decode cX9_findWay 73 = .ok (.aload_n 0, 1) := by decide +kernel
theorem dX9_findWay_74 : decode cX9_findWay 74 = .ok (.lload_n 1, 1) := by decide +kernel
theorem dX9_findWay_75 : decode cX9_findWay 75 = .ok (.lload_n 1, 1) := by decide +kernel
theorem dX9_findWay_76 : decode cX9_findWay 76 = .ok (.lload_n 1, 1) := by decide +kernel
theorem dX9_findWay_77 : decode cX9_findWay 77 = .ok (.lmul, 1) := by decide +kernel
theorem dX9_findWay_78 : decode cX9_findWay 78 = .ok (.lload_n 3, 1) := by decide +kernel
theorem dX9_findWay_79 : decode cX9_findWay 79 = .ok (.lload_n 3, 1) := by decide +kernel
theorem dX9_findWay_80 : decode cX9_findWay 80 = .ok (.lmul, 1) := by decide +kernel
theorem dX9_findWay_81 : decode cX9_findWay 81 = .ok (.ladd, 1) := by decide +kernel
theorem dX9_findWay_82 : decode cX9_findWay 82 = .ok (.invokestatic 71, 3) := by decide +kernel
theorem dX9_findWay_85 : decode cX9_findWay 85 = .ok (.putfield 35, 3) := by decide +kernel
theorem dX9_findWay_88 : decode cX9_findWay 88 = .ok (.aload_n 0, 1) := by decide +kernel
theorem dX9_findWay_89 : decode cX9_findWay 89 = .ok (.lload_n 3, 1) := by decide +kernel
theorem dX9_findWay_90 : decode cX9_findWay 90 = .ok (.lload_n 1, 1) := by decide +kernel
theorem dX9_findWay_91 : decode cX9_findWay 91 = .ok (.lload_n 1, 1) := by decide +kernel
theorem dX9_findWay_92 : decode cX9_findWay 92 = .ok (.lmul, 1) := by decide +kernel
theorem dX9_findWay_93 : decode cX9_findWay 93 = .ok (.lload_n 3, 1) := by decide +kernel
theorem dX9_findWay_94 : decode cX9_findWay 94 = .ok (.lload_n 3, 1) := by decide +kernel
theorem dX9_findWay_95 : decode cX9_findWay 95 = .ok (.lmul, 1) := by decide +kernel
theorem dX9_findWay_96 : decode cX9_findWay 96 = .ok (.ladd, 1) := by decide +kernel
theorem dX9_findWay_97 : decode cX9_findWay 97 = .ok (.invokestatic 71, 3) := by decide +kernel
theorem dX9_findWay_100 : decode cX9_findWay 100 = .ok (.putfield 38, 3) := by decide +kernel
theorem dX9_findWay_103 : decode cX9_findWay 103 = .ok (.return_, 1) := by decide +kernel
def B_X9_findWay_55 (N : Nat) (k28 : Int64 → Int64 → Int32 → sv_V → Option sv_V) (l1 : Int64) (l3 : Int64) (l5 : Int32) (V : sv_V) : Option sv_V := sx_let (l1 / (2 : Int64)) (fun x1 => sx_let (l3 / (2 : Int64)) (fun x2 => sx_let (l5 + 1) (fun x3 => k28 x1 x2 x3 V)))
set_option maxRecDepth 20000 in
theorem tB_X9_findWay_55 {g : sx_G} (hG : sx_Go g) {P : Option Value → sv_V → Prop} {Vr : sv_V} (hP : P none Vr) {N : Nat} {k28 : Int64 → Int64 → Int32 → sv_V → Option sv_V} (hk28 : ∀ (l1 : Int64) (l3 : Int64) (l5 : Int32) (V : sv_V), k28 l1 l3 l5 V = some Vr → sv_N g qX9_findWay 1 28 [(0, .ref 70), (1, .long l1), (3, .long l3), (5, .int l5)] [] V P) {l1 : Int64} {l3 : Int64} {l5 : Int32} {V : sv_V} (h : B_X9_findWay_55 N k28 l1 l3 l5 V = some Vr) : sv_N g qX9_findWay 1 55 [(0, .ref 70), (1, .long l1), (3, .long l3), (5, .int l5)] [] V P := by
  unfold B_X9_findWay_55 at h
  refine sx_lload_n (pc := 55) dX9_findWay_55 sx_m1 ?_
  refine sx_ldc2 (pc := 56) dX9_findWay_56 k_X9_69 ?_
  refine sx_ldiv (pc := 59) dX9_findWay_59 (by decide) ?_
  refine sv_tJ (fun x1 hx1 => ?_)
  have h := sx_letE hx1 h
  refine sx_lstore_n (pc := 60) (lo' := [(1, .long x1), (0, .ref 70), (3, .long l3), (5, .int l5)]) dX9_findWay_60 (by decide) rfl ?_
  refine sx_lload_n (pc := 61) dX9_findWay_61 sx_m2 ?_
  refine sx_ldc2 (pc := 62) dX9_findWay_62 k_X9_69 ?_
  refine sx_ldiv (pc := 65) dX9_findWay_65 (by decide) ?_
  refine sv_tJ (fun x2 hx2 => ?_)
  have h := sx_letE hx2 h
  refine sx_lstore_n (pc := 66) (lo' := [(3, .long x2), (1, .long x1), (0, .ref 70), (5, .int l5)]) dX9_findWay_66 (by decide) rfl ?_
  obtain ⟨x3, hx3⟩ : ∃ z : Int32, z = l5 + 1 := ⟨_, rfl⟩
  have h := sx_letE hx3 h
  refine sx_iinc (pc := 67) (v := x3) (lo' := [(5, .int x3), (3, .long x2), (1, .long x1), (0, .ref 70)]) dX9_findWay_67 sx_m3 (by rw [hx3]; rfl) (by decide) rfl ?_
  refine sx_goto (pc := 70) (tgt := 28) dX9_findWay_70 (by decide) ?_
  refine sx_wk (sx_s1 sx_m3 (sx_s1 sx_m2 (sx_s1 sx_m1 (sx_s1 sx_m0 sx_s0)))) ?_
  exact hk28 _ _ _ _ h
def B_X9_findWay_73 (N : Nat)  (l1 : Int64) (l3 : Int64) (V : sv_V) : Option sv_V := (F_X9_shareOf N l1 ((l1 * l1) + (l3 * l3)) V).bind (fun (x6, V4) => sx_let (sv_I V4 70 12 x6) (fun V7 => (F_X9_shareOf N l3 ((l1 * l1) + (l3 * l3)) V7).bind (fun (x10, V8) => sx_let (sv_I V8 70 13 x10) (fun V11 => some V11))))
set_option maxRecDepth 20000 in
theorem tB_X9_findWay_73 {g : sx_G} (hG : sx_Go g) {P : Option Value → sv_V → Prop} {Vr : sv_V} (hP : P none Vr) {N : Nat}   {l1 : Int64} {l3 : Int64} {V : sv_V} (h : B_X9_findWay_73 N  l1 l3 V = some Vr) : sv_N g qX9_findWay 1 73 [(0, .ref 70), (1, .long l1), (3, .long l3)] [] V P := by
  unfold B_X9_findWay_73 at h
  refine sx_aload_n (pc := 73) dX9_findWay_73 sx_m0 ?_
  refine sx_lload_n (pc := 74) dX9_findWay_74 sx_m1 ?_
  refine sx_lload_n (pc := 75) dX9_findWay_75 sx_m1 ?_
  refine sx_lload_n (pc := 76) dX9_findWay_76 sx_m1 ?_
  refine sx_lmul (pc := 77) dX9_findWay_77 ?_
  refine sx_lload_n (pc := 78) dX9_findWay_78 sx_m2 ?_
  refine sx_lload_n (pc := 79) dX9_findWay_79 sx_m2 ?_
  refine sx_lmul (pc := 80) dX9_findWay_80 ?_
  refine sx_ladd (pc := 81) dX9_findWay_81 ?_
  obtain ⟨⟨x6, V4⟩, g5, h⟩ := sx_bnd h
  refine sv_cS (pc := 82) (y := qX9_shareOf) (o := (some (.int x6))) (as := [.long l1, .long ((l1 * l1) + (l3 * l3))]) (V1 := V4) dX9_findWay_82 l_X9_71 y0X9_shareOf ysX9_shareOf rfl (Nat.le_of_ble_eq_true rfl) (by decide) (Nat.le_of_ble_eq_true rfl) rfl rfl rfl (t_X9_shareOf hG ⟨rfl, rfl⟩ g5) ?_
  obtain ⟨V7, hV7⟩ : ∃ z : sv_V, z = sv_I V4 70 12 x6 := ⟨_, rfl⟩
  have h := sx_letE hV7 h
  refine sv_putI (pc := 85) hG dX9_findWay_85 f_9_35 lay_70 rfl hV7 ?_
  refine sx_aload_n (pc := 88) dX9_findWay_88 sx_m0 ?_
  refine sx_lload_n (pc := 89) dX9_findWay_89 sx_m2 ?_
  refine sx_lload_n (pc := 90) dX9_findWay_90 sx_m1 ?_
  refine sx_lload_n (pc := 91) dX9_findWay_91 sx_m1 ?_
  refine sx_lmul (pc := 92) dX9_findWay_92 ?_
  refine sx_lload_n (pc := 93) dX9_findWay_93 sx_m2 ?_
  refine sx_lload_n (pc := 94) dX9_findWay_94 sx_m2 ?_
  refine sx_lmul (pc := 95) dX9_findWay_95 ?_
  refine sx_ladd (pc := 96) dX9_findWay_96 ?_
  obtain ⟨⟨x10, V8⟩, g9, h⟩ := sx_bnd h
  refine sv_cS (pc := 97) (y := qX9_shareOf) (o := (some (.int x10))) (as := [.long l3, .long ((l1 * l1) + (l3 * l3))]) (V1 := V8) dX9_findWay_97 l_X9_71 y0X9_shareOf ysX9_shareOf rfl (Nat.le_of_ble_eq_true rfl) (by decide) (Nat.le_of_ble_eq_true rfl) rfl rfl rfl (t_X9_shareOf hG ⟨rfl, rfl⟩ g9) ?_
  obtain ⟨V11, hV11⟩ : ∃ z : sv_V, z = sv_I V8 70 13 x10 := ⟨_, rfl⟩
  have h := sx_letE hV11 h
  refine sv_putI (pc := 100) hG dX9_findWay_100 f_9_38 lay_70 rfl hV11 ?_
  exact sv_vret (pc := 103) dX9_findWay_103 rfl h hP
def B_X9_findWay_28 (N : Nat) (k28 : Int64 → Int64 → Int32 → sv_V → Option sv_V) (l1 : Int64) (l3 : Int64) (l5 : Int32) (V : sv_V) : Option sv_V := if (64 : Int32) ≤ l5 then (B_X9_findWay_73 N  l1 l3 V) else ((F_X11_isBeyond l1 (30000 : Int32) V).bind (fun (x15, V13) => if x15 = 0 then ((F_X11_isBeyond l3 (30000 : Int32) V13).bind (fun (x19, V17) => if x19 = 0 then (B_X9_findWay_73 N  l1 l3 V17) else (B_X9_findWay_55 N k28 l1 l3 l5 V17))) else (B_X9_findWay_55 N k28 l1 l3 l5 V13)))
set_option maxRecDepth 20000 in
theorem tB_X9_findWay_28 {g : sx_G} (hG : sx_Go g) {P : Option Value → sv_V → Prop} {Vr : sv_V} (hP : P none Vr) {N : Nat} {k28 : Int64 → Int64 → Int32 → sv_V → Option sv_V} (hk28 : ∀ (l1 : Int64) (l3 : Int64) (l5 : Int32) (V : sv_V), k28 l1 l3 l5 V = some Vr → sv_N g qX9_findWay 1 28 [(0, .ref 70), (1, .long l1), (3, .long l3), (5, .int l5)] [] V P) {l1 : Int64} {l3 : Int64} {l5 : Int32} {V : sv_V} (h : B_X9_findWay_28 N k28 l1 l3 l5 V = some Vr) : sv_N g qX9_findWay 1 28 [(0, .ref 70), (1, .long l1), (3, .long l3), (5, .int l5)] [] V P := by
  unfold B_X9_findWay_28 at h
  refine sx_iload (pc := 28) dX9_findWay_28 sx_m3 ?_
  refine sx_bipush (pc := 30) (v := 64) dX9_findWay_30 (by decide) ?_
  refine sx_icmp_ge (pc := 32) (tgt := 73) dX9_findWay_32 (by decide) (fun c12 => ?_) (fun c12 => ?_)
  · have h := sx_pos c12 h
    refine sx_wk (sx_s1 sx_m0 (sx_s1 sx_m1 (sx_s1 sx_m2 sx_s0))) ?_
    exact tB_X9_findWay_73 hG hP  h
  · have h := sx_neg c12 h
    refine sx_lload_n (pc := 35) dX9_findWay_35 sx_m1 ?_
    refine sx_sipush (pc := 36) (v := 30000) dX9_findWay_36 (by decide) ?_
    obtain ⟨⟨x15, V13⟩, g14, h⟩ := sx_bnd h
    refine sv_cN (pc := 39) (y := qX11_isBeyond) (o := (some (.int x15))) (as := [.long l1, .int (30000 : Int32)]) (V1 := V13) dX9_findWay_39 n_X9_65 y0X11_isBeyond ysX11_isBeyond rfl (Nat.le_of_ble_eq_true rfl) (by decide) (Nat.le_of_ble_eq_true rfl) rfl rfl rfl (t_X11_isBeyond hG ⟨rfl, rfl⟩ g14) ?_
    refine sx_if_ne (pc := 42) (tgt := 55) dX9_findWay_42 (by decide) (fun c16 => ?_) (fun c16 => ?_)
    · have h := sx_neg c16 h
      refine sx_wk (sx_s1 sx_m0 (sx_s1 sx_m1 (sx_s1 sx_m2 (sx_s1 sx_m3 sx_s0)))) ?_
      exact tB_X9_findWay_55 hG hP hk28 h
    · have h := sx_pos c16 h
      refine sx_lload_n (pc := 45) dX9_findWay_45 sx_m2 ?_
      refine sx_sipush (pc := 46) (v := 30000) dX9_findWay_46 (by decide) ?_
      obtain ⟨⟨x19, V17⟩, g18, h⟩ := sx_bnd h
      refine sv_cN (pc := 49) (y := qX11_isBeyond) (o := (some (.int x19))) (as := [.long l3, .int (30000 : Int32)]) (V1 := V17) dX9_findWay_49 n_X9_65 y0X11_isBeyond ysX11_isBeyond rfl (Nat.le_of_ble_eq_true rfl) (by decide) (Nat.le_of_ble_eq_true rfl) rfl rfl rfl (t_X11_isBeyond hG ⟨rfl, rfl⟩ g18) ?_
      refine sx_if_eq (pc := 52) (tgt := 73) dX9_findWay_52 (by decide) (fun c20 => ?_) (fun c20 => ?_)
      · have h := sx_pos c20 h
        refine sx_wk (sx_s1 sx_m0 (sx_s1 sx_m1 (sx_s1 sx_m2 sx_s0))) ?_
        exact tB_X9_findWay_73 hG hP  h
      · have h := sx_neg c20 h
        refine sx_wk (sx_s1 sx_m0 (sx_s1 sx_m1 (sx_s1 sx_m2 (sx_s1 sx_m3 sx_s0)))) ?_
        exact tB_X9_findWay_55 hG hP hk28 h
theorem tL_X9_findWay_28 {g : sx_G} (hG : sx_Go g) {P : Option Value → sv_V → Prop} {Vr : sv_V} (hP : P none Vr) {N : Nat}   : ∀ (n : Nat) (l1 : Int64) (l3 : Int64) (l5 : Int32) (V : sv_V), sx_lp4 (B_X9_findWay_28 N ) n l1 l3 l5 V = some Vr → sv_N g qX9_findWay 1 28 [(0, .ref 70), (1, .long l1), (3, .long l3), (5, .int l5)] [] V P :=
  sx_lp4_ind (fun k0 ih _ _ _ V h => tB_X9_findWay_28 hG hP ih h)
def B_X9_findWay_25 (N : Nat)  (l1 : Int64) (l3 : Int64) (V : sv_V) : Option sv_V := sx_lp4 (B_X9_findWay_28 N ) N l1 l3 (0 : Int32) V
set_option maxRecDepth 20000 in
theorem tB_X9_findWay_25 {g : sx_G} (hG : sx_Go g) {P : Option Value → sv_V → Prop} {Vr : sv_V} (hP : P none Vr) {N : Nat}   {l1 : Int64} {l3 : Int64} {V : sv_V} (h : B_X9_findWay_25 N  l1 l3 V = some Vr) : sv_N g qX9_findWay 1 25 [(0, .ref 70), (1, .long l1), (3, .long l3)] [] V P := by
  unfold B_X9_findWay_25 at h
  refine sx_iconst (pc := 25) (v := 0) dX9_findWay_25 (by decide) ?_
  refine sx_istore (pc := 26) (lo' := [(5, .int (0 : Int32)), (0, .ref 70), (1, .long l1), (3, .long l3)]) dX9_findWay_26 (by decide) rfl ?_
  refine sx_wk (sx_s1 sx_m1 (sx_s1 sx_m2 (sx_s1 sx_m3 (sx_s1 sx_m0 sx_s0)))) ?_
  exact tL_X9_findWay_28 hG hP  N _ _ _ _ h
def F_X9_findWay (N : Nat) (l1 : Int64) (l3 : Int64) (V : sv_V) : Option sv_V := if (lg_cmp l1 (0 : Int64)) = 0 then (if (lg_cmp l3 (0 : Int64)) = 0 then (sx_let (sv_I V 70 12 (16384 : Int32)) (fun V23 => sx_let (sv_I V23 70 13 (0 : Int32)) (fun V24 => some V24))) else (B_X9_findWay_25 N  l1 l3 V)) else (B_X9_findWay_25 N  l1 l3 V)
set_option maxRecDepth 20000 in
theorem t_X9_findWay {g : sx_G} (hG : sx_Go g) {P : Option Value → sv_V → Prop} {Vr : sv_V} (hP : P none Vr) {N : Nat} {l1 : Int64} {l3 : Int64} {V : sv_V} (h : F_X9_findWay N l1 l3 V = some Vr) : sv_N g qX9_findWay 1 0 [(0, .ref 70), (1, .long l1), (3, .long l3)] [] V P := by
  unfold F_X9_findWay at h
  refine sx_lload_n (pc := 0) dX9_findWay_0 sx_m1 ?_
  refine sx_lconst (pc := 1) (v := 0) dX9_findWay_1 rfl ?_
  refine sx_lcmp (pc := 2) dX9_findWay_2 ?_
  refine sx_if_ne (pc := 3) (tgt := 25) dX9_findWay_3 (by decide) (fun c21 => ?_) (fun c21 => ?_)
  · have h := sx_neg c21 h
    refine sx_wk (sx_s1 sx_m0 (sx_s1 sx_m1 (sx_s1 sx_m2 sx_s0))) ?_
    exact tB_X9_findWay_25 hG hP  h
  · have h := sx_pos c21 h
    refine sx_lload_n (pc := 6) dX9_findWay_6 sx_m2 ?_
    refine sx_lconst (pc := 7) (v := 0) dX9_findWay_7 rfl ?_
    refine sx_lcmp (pc := 8) dX9_findWay_8 ?_
    refine sx_if_ne (pc := 9) (tgt := 25) dX9_findWay_9 (by decide) (fun c22 => ?_) (fun c22 => ?_)
    · have h := sx_neg c22 h
      refine sx_wk (sx_s1 sx_m0 (sx_s1 sx_m1 (sx_s1 sx_m2 sx_s0))) ?_
      exact tB_X9_findWay_25 hG hP  h
    · have h := sx_pos c22 h
      refine sx_aload_n (pc := 12) dX9_findWay_12 sx_m0 ?_
      refine sx_sipush (pc := 13) (v := 16384) dX9_findWay_13 (by decide) ?_
      obtain ⟨V23, hV23⟩ : ∃ z : sv_V, z = sv_I V 70 12 (16384 : Int32) := ⟨_, rfl⟩
      have h := sx_letE hV23 h
      refine sv_putI (pc := 16) hG dX9_findWay_16 f_9_35 lay_70 rfl hV23 ?_
      refine sx_aload_n (pc := 19) dX9_findWay_19 sx_m0 ?_
      refine sx_iconst (pc := 20) (v := 0) dX9_findWay_20 (by decide) ?_
      obtain ⟨V24, hV24⟩ : ∃ z : sv_V, z = sv_I V23 70 13 (0 : Int32) := ⟨_, rfl⟩
      have h := sx_letE hV24 h
      refine sv_putI (pc := 21) hG dX9_findWay_21 f_9_38 lay_70 rfl hV24 ?_
      exact sv_vret (pc := 24) dX9_findWay_24 rfl h hP
theorem dX10_traceContour_0 : decode cX10_traceContour 0 = .ok (.iload_n 2, 1) := by decide +kernel
theorem dX10_traceContour_1 : decode cX10_traceContour 1 = .ok (.istore 4, 2) := by decide +kernel
theorem dX10_traceContour_3 : decode cX10_traceContour 3 = .ok (.iload 4, 2) := by decide +kernel
theorem dX10_traceContour_5 : decode cX10_traceContour 5 = .ok (.iload_n 3, 1) := by decide +kernel
theorem dX10_traceContour_6 : decode cX10_traceContour 6 = .ok (.if_icmp .gt 101, 3) := by decide +kernel
theorem dX10_traceContour_9 : decode cX10_traceContour 9 = .ok (.iload 4, 2) := by decide +kernel
theorem dX10_traceContour_11 : decode cX10_traceContour 11 = .ok (.iload_n 2, 1) := by decide +kernel
theorem dX10_traceContour_12 : decode cX10_traceContour 12 = .ok (.if_icmp .ne 7, 3) := by decide +kernel
theorem dX10_traceContour_15 : decode cX10_traceContour 15 = .ok (.iload_n 3, 1) := by decide +kernel
theorem dX10_traceContour_16 : decode cX10_traceContour 16 = .ok (.goto 7, 3) := by decide +kernel
theorem dX10_traceContour_19 : decode cX10_traceContour 19 = .ok (.iload 4, 2) := by decide +kernel
theorem dX10_traceContour_21 : decode cX10_traceContour 21 = .ok (.iconst 1, 1) := by decide +kernel
theorem dX10_traceContour_22 : decode cX10_traceContour 22 = .ok (.isub, 1) := by decide +kernel
theorem dX10_traceContour_23 : decode cX10_traceContour 23 = .ok (.istore 5, 2) := by decide +kernel
theorem dX10_traceContour_25 : decode cX10_traceContour 25 = .ok (.iload 4, 2) := by decide +kernel
theorem dX10_traceContour_27 : decode cX10_traceContour 27 = .ok (.iload_n 3, 1) := by decide +kernel
theorem dX10_traceContour_28 : decode cX10_traceContour 28 = .ok (.if_icmp .ne 7, 3) := by decide +kernel
theorem dX10_traceContour_31 : decode cX10_traceContour 31 = .ok (.iload_n 2, 1) := by decide +kernel
theorem dX10_traceContour_32 : decode cX10_traceContour 32 = .ok (.goto 7, 3) := by decide +kernel
theorem dX10_traceContour_35 : decode cX10_traceContour 35 = .ok (.iload 4, 2) := by decide +kernel
theorem dX10_traceContour_37 : decode cX10_traceContour 37 = .ok (.iconst 1, 1) := by decide +kernel
theorem dX10_traceContour_38 : decode cX10_traceContour 38 = .ok (.iadd, 1) := by decide +kernel
theorem dX10_traceContour_39 : decode cX10_traceContour 39 = .ok (.istore 6, 2) := by decide +kernel
theorem dX10_traceContour_41 : decode cX10_traceContour 41 = .ok (.iload_n 2, 1) := by decide +kernel
theorem dX10_traceContour_42 : decode cX10_traceContour 42 = .ok (.iload_n 3, 1) := by decide +kernel
theorem dX10_traceContour_43 : decode cX10_traceContour 43 = .ok (.if_icmp .eq 25, 3) := by decide +kernel
theorem dX10_traceContour_46 : decode cX10_traceContour 46 = .ok (.aload_n 1, 1) := by decide +kernel
theorem dX10_traceContour_47 : decode cX10_traceContour 47 = .ok (.getfield 78, 3) := by decide +kernel
theorem dX10_traceContour_50 : decode cX10_traceContour 50 = .ok (.iload 4, 2) := by decide +kernel
theorem dX10_traceContour_52 : decode cX10_traceContour 52 = .ok (.iaload, 1) := by decide +kernel
theorem dX10_traceContour_53 : decode cX10_traceContour 53 = .ok (.iconst 1, 1) := by decide +kernel
theorem dX10_traceContour_54 : decode cX10_traceContour 54 = .ok (.if_icmp .ne 26, 3) := by decide +kernel
theorem dX10_traceContour_57 : decode cX10_traceContour 57 = .ok (.aload_n 1, 1) := by decide +kernel
theorem dX10_traceContour_58 : decode cX10_traceContour 58 = .ok (.getfield 78, 3) := by decide +kernel
theorem dX10_traceContour_61 : decode cX10_traceContour 61 = .ok (.iload 6, 2) := by decide +kernel
theorem dX10_traceContour_63 : decode cX10_traceContour 63 = .ok (.iaload, 1) := by decide +kernel
theorem dX10_traceContour_64 : decode cX10_traceContour 64 = .ok (.iconst 1, 1) := by decide +kernel
theorem dX10_traceContour_65 : decode cX10_traceContour 65 = .ok (.if_icmp .ne 15, 3) := by decide +kernel
theorem dX10_traceContour_68 : decode cX10_traceContour 68 = .ok (.aload_n 0, 1) := by decide +kernel
theorem dX10_traceContour_69 : decode cX10_traceContour 69 = .ok (.aload_n 1, 1) := by decide +kernel
theorem dX10_traceContour_70 : decode cX10_traceContour 70 = .ok (.iload 4, 2) := by decide +kernel
theorem dX10_traceContour_72 : decode cX10_traceContour 72 = .ok (.iload 6, 2) := by decide +kernel
theorem dX10_traceContour_74 : decode cX10_traceContour 74 = .ok (.invokevirtual 81, 3) := by decide +kernel
theorem dX10_traceContour_77 : decode cX10_traceContour 77 = .ok (.goto 24, 3) := by decide +kernel
theorem dX10_traceContour_80 : decode cX10_traceContour 80 = .ok (.aload_n 1, 1) := by decide +kernel
theorem dX10_traceContour_81 : decode cX10_traceContour 81 = .ok (.getfield 78, 3) := by decide +kernel
theorem dX10_traceContour_84 : decode cX10_traceContour 84 = .ok (.iload 4, 2) := by decide +kernel
theorem dX10_traceContour_86 : decode cX10_traceContour 86 = .ok (.iaload, 1) := by decide +kernel
theorem dX10_traceContour_87 : decode cX10_traceContour 87 = .ok (.ifCond .ne 14, 3) := by decide +kernel
theorem dX10_traceContour_90 : decode cX10_traceContour 90 = .ok (.aload_n 0, 1) := by decide +kernel
theorem dX10_traceContour_91 : decode cX10_traceContour 91 = .ok (.aload_n 1, 1) := by decide +kernel
theorem dX10_traceContour_92 : decode cX10_traceContour 92 = .ok (.iload 5, 2) := by decide +kernel
theorem dX10_traceContour_94 : decode cX10_traceContour 94 = .ok (.iload 4, 2) := by decide +kernel
theorem dX10_traceContour_96 : decode cX10_traceContour 96 = .ok (.iload 6, 2) := by decide +kernel
theorem dX10_traceContour_98 : decode cX10_traceContour 98 = .ok (.invokevirtual 84, 3) := by decide +kernel
theorem dX10_traceContour_101 : decode cX10_traceContour 101 = .ok (.iinc 4 1, 3) := by decide +kernel
theorem dX10_traceContour_104 : decode cX10_traceContour 104 = .ok (.goto (-101), 3) := by decide +kernel
theorem dX10_traceContour_107 : decode cX10_traceContour 107 = .ok (.return_, 1) := by decide +kernel
def B_X10_traceContour_101 (N : Nat) (k3 : Nat → Int32 → Int32 → Int32 → sv_V → Option sv_V) (l1 : Nat) (l2 : Int32) (l3 : Int32) (l4 : Int32) (V : sv_V) : Option sv_V := sx_let (l4 + 1) (fun x1 => k3 l1 l2 l3 x1 V)
set_option maxRecDepth 20000 in
theorem tB_X10_traceContour_101 {g : sx_G} (hG : sx_Go g) {P : Option Value → sv_V → Prop} {Vr : sv_V} (hP : P none Vr) {N : Nat} {k3 : Nat → Int32 → Int32 → Int32 → sv_V → Option sv_V} (hk3 : ∀ (l1 : Nat) (l2 : Int32) (l3 : Int32) (l4 : Int32) (V : sv_V), k3 l1 l2 l3 l4 V = some Vr → sv_N g qX10_traceContour 1 3 [(0, .ref 60), (1, .ref l1), (2, .int l2), (3, .int l3), (4, .int l4)] [] V P) {l1 : Nat} {l2 : Int32} {l3 : Int32} {l4 : Int32} {V : sv_V} (h : B_X10_traceContour_101 N k3 l1 l2 l3 l4 V = some Vr) : sv_N g qX10_traceContour 1 101 [(0, .ref 60), (1, .ref l1), (2, .int l2), (3, .int l3), (4, .int l4)] [] V P := by
  unfold B_X10_traceContour_101 at h
  obtain ⟨x1, hx1⟩ : ∃ z : Int32, z = l4 + 1 := ⟨_, rfl⟩
  have h := sx_letE hx1 h
  refine sx_iinc (pc := 101) (v := x1) (lo' := [(4, .int x1), (0, .ref 60), (1, .ref l1), (2, .int l2), (3, .int l3)]) dX10_traceContour_101 sx_m4 (by rw [hx1]; rfl) (by decide) rfl ?_
  refine sx_goto (pc := 104) (tgt := 3) dX10_traceContour_104 (by decide) ?_
  refine sx_wk (sx_s1 sx_m1 (sx_s1 sx_m2 (sx_s1 sx_m3 (sx_s1 sx_m4 (sx_s1 sx_m0 sx_s0))))) ?_
  exact hk3 _ _ _ _ _ h
def B_X10_traceContour_68 (N : Nat) (k3 : Nat → Int32 → Int32 → Int32 → sv_V → Option sv_V) (l1 : Nat) (l2 : Int32) (l3 : Int32) (l4 : Int32) (l6 : Int32) (V : sv_V) : Option sv_V := (F_X10_addLine l1 l4 l6 V).bind (fun V2 => B_X10_traceContour_101 N k3 l1 l2 l3 l4 V2)
set_option maxRecDepth 20000 in
theorem tB_X10_traceContour_68 {g : sx_G} (hG : sx_Go g) {P : Option Value → sv_V → Prop} {Vr : sv_V} (hP : P none Vr) {N : Nat} {k3 : Nat → Int32 → Int32 → Int32 → sv_V → Option sv_V} (hk3 : ∀ (l1 : Nat) (l2 : Int32) (l3 : Int32) (l4 : Int32) (V : sv_V), k3 l1 l2 l3 l4 V = some Vr → sv_N g qX10_traceContour 1 3 [(0, .ref 60), (1, .ref l1), (2, .int l2), (3, .int l3), (4, .int l4)] [] V P) {l1 : Nat} {l2 : Int32} {l3 : Int32} {l4 : Int32} {l6 : Int32} {V : sv_V} (h : B_X10_traceContour_68 N k3 l1 l2 l3 l4 l6 V = some Vr) : sv_N g qX10_traceContour 1 68 [(0, .ref 60), (1, .ref l1), (2, .int l2), (3, .int l3), (4, .int l4), (6, .int l6)] [] V P := by
  unfold B_X10_traceContour_68 at h
  refine sx_aload_n (pc := 68) dX10_traceContour_68 sx_m0 ?_
  refine sx_aload_n (pc := 69) dX10_traceContour_69 sx_m1 ?_
  refine sx_iload (pc := 70) dX10_traceContour_70 sx_m4 ?_
  refine sx_iload (pc := 72) dX10_traceContour_72 sx_m5 ?_
  obtain ⟨V2, g3, h⟩ := sx_bnd h
  refine sv_cV (pc := 74) (y := qX10_addLine) (o := none) (as := [.ref l1, .int l4, .int l6]) (V1 := V2) hG dX10_traceContour_74 l_X10_81 y0X10_addLine yvX10_addLine rfl (Nat.le_of_ble_eq_true rfl) lay_60 kr_10 (by decide) (Nat.le_of_ble_eq_true rfl) rfl rfl rfl (t_X10_addLine hG ⟨rfl, rfl⟩ g3) ?_
  refine sx_goto (pc := 77) (tgt := 101) dX10_traceContour_77 (by decide) ?_
  refine sx_wk (sx_s1 sx_m0 (sx_s1 sx_m1 (sx_s1 sx_m2 (sx_s1 sx_m3 (sx_s1 sx_m4 sx_s0))))) ?_
  exact tB_X10_traceContour_101 hG hP hk3 h
def B_X10_traceContour_80 (N : Nat) (k3 : Nat → Int32 → Int32 → Int32 → sv_V → Option sv_V) (l1 : Nat) (l2 : Int32) (l3 : Int32) (l4 : Int32) (l5 : Int32) (l6 : Int32) (V : sv_V) : Option sv_V := if lay l1 = .inl 8 then (cr l1 5).bind (fun b5 => (sv_len 0 b5).bind (fun n7 => if sx_in l4 n7 = true then if (V.1 b5 l4.toNatClampNeg) = 0 then ((F_X10_addCurve l1 l5 l4 l6 V).bind (fun V11 => B_X10_traceContour_101 N k3 l1 l2 l3 l4 V11)) else (B_X10_traceContour_101 N k3 l1 l2 l3 l4 V) else none)) else none
set_option maxRecDepth 20000 in
theorem tB_X10_traceContour_80 {g : sx_G} (hG : sx_Go g) {P : Option Value → sv_V → Prop} {Vr : sv_V} (hP : P none Vr) {N : Nat} {k3 : Nat → Int32 → Int32 → Int32 → sv_V → Option sv_V} (hk3 : ∀ (l1 : Nat) (l2 : Int32) (l3 : Int32) (l4 : Int32) (V : sv_V), k3 l1 l2 l3 l4 V = some Vr → sv_N g qX10_traceContour 1 3 [(0, .ref 60), (1, .ref l1), (2, .int l2), (3, .int l3), (4, .int l4)] [] V P) {l1 : Nat} {l2 : Int32} {l3 : Int32} {l4 : Int32} {l5 : Int32} {l6 : Int32} {V : sv_V} (h : B_X10_traceContour_80 N k3 l1 l2 l3 l4 l5 l6 V = some Vr) : sv_N g qX10_traceContour 1 80 [(0, .ref 60), (1, .ref l1), (2, .int l2), (3, .int l3), (4, .int l4), (5, .int l5), (6, .int l6)] [] V P := by
  unfold B_X10_traceContour_80 at h
  refine sx_aload_n (pc := 80) dX10_traceContour_80 sx_m1 ?_
  obtain ⟨g4, h⟩ := sx_grd h
  obtain ⟨b5, g6, h⟩ := sx_bnd h
  refine sv_getA (pc := 81) hG dX10_traceContour_81 f_10_78 g4 rfl g6 ?_
  refine sx_iload (pc := 84) dX10_traceContour_84 sx_m4 ?_
  obtain ⟨n7, g8, h⟩ := sx_bnd h
  obtain ⟨g9, h⟩ := sx_grd h
  refine sv_iald (pc := 86) hG dX10_traceContour_86 (sv_len_e g8) g9 ?_
  refine sx_if_ne (pc := 87) (tgt := 101) dX10_traceContour_87 (by decide) (fun c10 => ?_) (fun c10 => ?_)
  · have h := sx_neg c10 h
    refine sx_wk (sx_s1 sx_m0 (sx_s1 sx_m1 (sx_s1 sx_m2 (sx_s1 sx_m3 (sx_s1 sx_m4 sx_s0))))) ?_
    exact tB_X10_traceContour_101 hG hP hk3 h
  · have h := sx_pos c10 h
    refine sx_aload_n (pc := 90) dX10_traceContour_90 sx_m0 ?_
    refine sx_aload_n (pc := 91) dX10_traceContour_91 sx_m1 ?_
    refine sx_iload (pc := 92) dX10_traceContour_92 sx_m5 ?_
    refine sx_iload (pc := 94) dX10_traceContour_94 sx_m4 ?_
    refine sx_iload (pc := 96) dX10_traceContour_96 sx_m6 ?_
    obtain ⟨V11, g12, h⟩ := sx_bnd h
    refine sv_cV (pc := 98) (y := qX10_addCurve) (o := none) (as := [.ref l1, .int l5, .int l4, .int l6]) (V1 := V11) hG dX10_traceContour_98 l_X10_84 y0X10_addCurve yvX10_addCurve rfl (Nat.le_of_ble_eq_true rfl) lay_60 kr_10 (by decide) (Nat.le_of_ble_eq_true rfl) rfl rfl rfl (t_X10_addCurve hG ⟨rfl, rfl⟩ g12) ?_
    refine sx_wk (sx_s1 sx_m0 (sx_s1 sx_m1 (sx_s1 sx_m2 (sx_s1 sx_m3 (sx_s1 sx_m4 sx_s0))))) ?_
    exact tB_X10_traceContour_101 hG hP hk3 h
def B_X10_traceContour_39 (N : Nat) (k3 : Nat → Int32 → Int32 → Int32 → sv_V → Option sv_V) (l1 : Nat) (l2 : Int32) (l3 : Int32) (l4 : Int32) (l5 : Int32) (s0 : Int32) (V : sv_V) : Option sv_V := if l2 = l3 then (B_X10_traceContour_68 N k3 l1 l2 l3 l4 s0 V) else (if lay l1 = .inl 8 then (cr l1 5).bind (fun b15 => (sv_len 0 b15).bind (fun n17 => if sx_in l4 n17 = true then if (V.1 b15 l4.toNatClampNeg) = (1 : Int32) then (if sx_in s0 n17 = true then if (V.1 b15 s0.toNatClampNeg) = (1 : Int32) then (B_X10_traceContour_68 N k3 l1 l2 l3 l4 s0 V) else (B_X10_traceContour_80 N k3 l1 l2 l3 l4 l5 s0 V) else none) else (B_X10_traceContour_80 N k3 l1 l2 l3 l4 l5 s0 V) else none)) else none)
set_option maxRecDepth 20000 in
theorem tB_X10_traceContour_39 {g : sx_G} (hG : sx_Go g) {P : Option Value → sv_V → Prop} {Vr : sv_V} (hP : P none Vr) {N : Nat} {k3 : Nat → Int32 → Int32 → Int32 → sv_V → Option sv_V} (hk3 : ∀ (l1 : Nat) (l2 : Int32) (l3 : Int32) (l4 : Int32) (V : sv_V), k3 l1 l2 l3 l4 V = some Vr → sv_N g qX10_traceContour 1 3 [(0, .ref 60), (1, .ref l1), (2, .int l2), (3, .int l3), (4, .int l4)] [] V P) {l1 : Nat} {l2 : Int32} {l3 : Int32} {l4 : Int32} {l5 : Int32} {s0 : Int32} {V : sv_V} (h : B_X10_traceContour_39 N k3 l1 l2 l3 l4 l5 s0 V = some Vr) : sv_N g qX10_traceContour 1 39 [(0, .ref 60), (1, .ref l1), (2, .int l2), (3, .int l3), (4, .int l4), (5, .int l5)] [.int s0] V P := by
  unfold B_X10_traceContour_39 at h
  refine sx_istore (pc := 39) (lo' := [(6, .int s0), (0, .ref 60), (1, .ref l1), (2, .int l2), (3, .int l3), (4, .int l4), (5, .int l5)]) dX10_traceContour_39 (by decide) rfl ?_
  refine sx_iload_n (pc := 41) dX10_traceContour_41 sx_m3 ?_
  refine sx_iload_n (pc := 42) dX10_traceContour_42 sx_m4 ?_
  refine sx_icmp_eq (pc := 43) (tgt := 68) dX10_traceContour_43 (by decide) (fun c13 => ?_) (fun c13 => ?_)
  · have h := sx_pos c13 h
    refine sx_wk (sx_s1 sx_m1 (sx_s1 sx_m2 (sx_s1 sx_m3 (sx_s1 sx_m4 (sx_s1 sx_m5 (sx_s1 sx_m0 sx_s0)))))) ?_
    exact tB_X10_traceContour_68 hG hP hk3 h
  · have h := sx_neg c13 h
    refine sx_aload_n (pc := 46) dX10_traceContour_46 sx_m2 ?_
    obtain ⟨g14, h⟩ := sx_grd h
    obtain ⟨b15, g16, h⟩ := sx_bnd h
    refine sv_getA (pc := 47) hG dX10_traceContour_47 f_10_78 g14 rfl g16 ?_
    refine sx_iload (pc := 50) dX10_traceContour_50 sx_m5 ?_
    obtain ⟨n17, g18, h⟩ := sx_bnd h
    obtain ⟨g19, h⟩ := sx_grd h
    refine sv_iald (pc := 52) hG dX10_traceContour_52 (sv_len_e g18) g19 ?_
    refine sx_iconst (pc := 53) (v := 1) dX10_traceContour_53 (by decide) ?_
    refine sx_icmp_ne (pc := 54) (tgt := 80) dX10_traceContour_54 (by decide) (fun c20 => ?_) (fun c20 => ?_)
    · have h := sx_neg c20 h
      refine sx_wk (sx_s1 sx_m1 (sx_s1 sx_m2 (sx_s1 sx_m3 (sx_s1 sx_m4 (sx_s1 sx_m5 (sx_s1 sx_m6 (sx_s1 sx_m0 sx_s0))))))) ?_
      exact tB_X10_traceContour_80 hG hP hk3 h
    · have h := sx_pos c20 h
      refine sx_aload_n (pc := 57) dX10_traceContour_57 sx_m2 ?_
      refine sv_getA (pc := 58) hG dX10_traceContour_58 f_10_78 g14 rfl g16 ?_
      refine sx_iload (pc := 61) dX10_traceContour_61 sx_m0 ?_
      obtain ⟨g21, h⟩ := sx_grd h
      refine sv_iald (pc := 63) hG dX10_traceContour_63 (sv_len_e g18) g21 ?_
      refine sx_iconst (pc := 64) (v := 1) dX10_traceContour_64 (by decide) ?_
      refine sx_icmp_ne (pc := 65) (tgt := 80) dX10_traceContour_65 (by decide) (fun c22 => ?_) (fun c22 => ?_)
      · have h := sx_neg c22 h
        refine sx_wk (sx_s1 sx_m1 (sx_s1 sx_m2 (sx_s1 sx_m3 (sx_s1 sx_m4 (sx_s1 sx_m5 (sx_s1 sx_m6 (sx_s1 sx_m0 sx_s0))))))) ?_
        exact tB_X10_traceContour_80 hG hP hk3 h
      · have h := sx_pos c22 h
        refine sx_wk (sx_s1 sx_m1 (sx_s1 sx_m2 (sx_s1 sx_m3 (sx_s1 sx_m4 (sx_s1 sx_m5 (sx_s1 sx_m0 sx_s0)))))) ?_
        exact tB_X10_traceContour_68 hG hP hk3 h
def B_X10_traceContour_23 (N : Nat) (k3 : Nat → Int32 → Int32 → Int32 → sv_V → Option sv_V) (l1 : Nat) (l2 : Int32) (l3 : Int32) (l4 : Int32) (s0 : Int32) (V : sv_V) : Option sv_V := if l4 = l3 then (B_X10_traceContour_39 N k3 l1 l2 l3 l4 s0 l2 V) else (B_X10_traceContour_39 N k3 l1 l2 l3 l4 s0 (l4 + (1 : Int32)) V)
set_option maxRecDepth 20000 in
theorem tB_X10_traceContour_23 {g : sx_G} (hG : sx_Go g) {P : Option Value → sv_V → Prop} {Vr : sv_V} (hP : P none Vr) {N : Nat} {k3 : Nat → Int32 → Int32 → Int32 → sv_V → Option sv_V} (hk3 : ∀ (l1 : Nat) (l2 : Int32) (l3 : Int32) (l4 : Int32) (V : sv_V), k3 l1 l2 l3 l4 V = some Vr → sv_N g qX10_traceContour 1 3 [(0, .ref 60), (1, .ref l1), (2, .int l2), (3, .int l3), (4, .int l4)] [] V P) {l1 : Nat} {l2 : Int32} {l3 : Int32} {l4 : Int32} {s0 : Int32} {V : sv_V} (h : B_X10_traceContour_23 N k3 l1 l2 l3 l4 s0 V = some Vr) : sv_N g qX10_traceContour 1 23 [(0, .ref 60), (1, .ref l1), (2, .int l2), (3, .int l3), (4, .int l4)] [.int s0] V P := by
  unfold B_X10_traceContour_23 at h
  refine sx_istore (pc := 23) (lo' := [(5, .int s0), (0, .ref 60), (1, .ref l1), (2, .int l2), (3, .int l3), (4, .int l4)]) dX10_traceContour_23 (by decide) rfl ?_
  refine sx_iload (pc := 25) dX10_traceContour_25 sx_m5 ?_
  refine sx_iload_n (pc := 27) dX10_traceContour_27 sx_m4 ?_
  refine sx_icmp_ne (pc := 28) (tgt := 35) dX10_traceContour_28 (by decide) (fun c23 => ?_) (fun c23 => ?_)
  · have h := sx_neg c23 h
    refine sx_iload (pc := 35) dX10_traceContour_35 sx_m5 ?_
    refine sx_iconst (pc := 37) (v := 1) dX10_traceContour_37 (by decide) ?_
    refine sx_iadd (pc := 38) dX10_traceContour_38 ?_
    refine sx_wk (sx_s1 sx_m1 (sx_s1 sx_m2 (sx_s1 sx_m3 (sx_s1 sx_m4 (sx_s1 sx_m5 (sx_s1 sx_m0 sx_s0)))))) ?_
    exact tB_X10_traceContour_39 hG hP hk3 h
  · have h := sx_pos c23 h
    refine sx_iload_n (pc := 31) dX10_traceContour_31 sx_m3 ?_
    refine sx_goto (pc := 32) (tgt := 39) dX10_traceContour_32 (by decide) ?_
    refine sx_wk (sx_s1 sx_m1 (sx_s1 sx_m2 (sx_s1 sx_m3 (sx_s1 sx_m4 (sx_s1 sx_m5 (sx_s1 sx_m0 sx_s0)))))) ?_
    exact tB_X10_traceContour_39 hG hP hk3 h
def B_X10_traceContour_3 (N : Nat) (k3 : Nat → Int32 → Int32 → Int32 → sv_V → Option sv_V) (l1 : Nat) (l2 : Int32) (l3 : Int32) (l4 : Int32) (V : sv_V) : Option sv_V := if l3 < l4 then (some V) else (if l4 = l2 then (B_X10_traceContour_23 N k3 l1 l2 l3 l4 l3 V) else (B_X10_traceContour_23 N k3 l1 l2 l3 l4 (l4 - (1 : Int32)) V))
set_option maxRecDepth 20000 in
theorem tB_X10_traceContour_3 {g : sx_G} (hG : sx_Go g) {P : Option Value → sv_V → Prop} {Vr : sv_V} (hP : P none Vr) {N : Nat} {k3 : Nat → Int32 → Int32 → Int32 → sv_V → Option sv_V} (hk3 : ∀ (l1 : Nat) (l2 : Int32) (l3 : Int32) (l4 : Int32) (V : sv_V), k3 l1 l2 l3 l4 V = some Vr → sv_N g qX10_traceContour 1 3 [(0, .ref 60), (1, .ref l1), (2, .int l2), (3, .int l3), (4, .int l4)] [] V P) {l1 : Nat} {l2 : Int32} {l3 : Int32} {l4 : Int32} {V : sv_V} (h : B_X10_traceContour_3 N k3 l1 l2 l3 l4 V = some Vr) : sv_N g qX10_traceContour 1 3 [(0, .ref 60), (1, .ref l1), (2, .int l2), (3, .int l3), (4, .int l4)] [] V P := by
  unfold B_X10_traceContour_3 at h
  refine sx_iload (pc := 3) dX10_traceContour_3 sx_m4 ?_
  refine sx_iload_n (pc := 5) dX10_traceContour_5 sx_m3 ?_
  refine sx_icmp_gt (pc := 6) (tgt := 107) dX10_traceContour_6 (by decide) (fun c24 => ?_) (fun c24 => ?_)
  · have h := sx_pos c24 h
    exact sv_vret (pc := 107) dX10_traceContour_107 rfl h hP
  · have h := sx_neg c24 h
    refine sx_iload (pc := 9) dX10_traceContour_9 sx_m4 ?_
    refine sx_iload_n (pc := 11) dX10_traceContour_11 sx_m2 ?_
    refine sx_icmp_ne (pc := 12) (tgt := 19) dX10_traceContour_12 (by decide) (fun c25 => ?_) (fun c25 => ?_)
    · have h := sx_neg c25 h
      refine sx_iload (pc := 19) dX10_traceContour_19 sx_m4 ?_
      refine sx_iconst (pc := 21) (v := 1) dX10_traceContour_21 (by decide) ?_
      refine sx_isub (pc := 22) dX10_traceContour_22 ?_
      refine sx_wk (sx_s1 sx_m0 (sx_s1 sx_m1 (sx_s1 sx_m2 (sx_s1 sx_m3 (sx_s1 sx_m4 sx_s0))))) ?_
      exact tB_X10_traceContour_23 hG hP hk3 h
    · have h := sx_pos c25 h
      refine sx_iload_n (pc := 15) dX10_traceContour_15 sx_m3 ?_
      refine sx_goto (pc := 16) (tgt := 23) dX10_traceContour_16 (by decide) ?_
      refine sx_wk (sx_s1 sx_m0 (sx_s1 sx_m1 (sx_s1 sx_m2 (sx_s1 sx_m3 (sx_s1 sx_m4 sx_s0))))) ?_
      exact tB_X10_traceContour_23 hG hP hk3 h
theorem tL_X10_traceContour_3 {g : sx_G} (hG : sx_Go g) {P : Option Value → sv_V → Prop} {Vr : sv_V} (hP : P none Vr) {N : Nat}   : ∀ (n : Nat) (l1 : Nat) (l2 : Int32) (l3 : Int32) (l4 : Int32) (V : sv_V), sx_lp5 (B_X10_traceContour_3 N ) n l1 l2 l3 l4 V = some Vr → sv_N g qX10_traceContour 1 3 [(0, .ref 60), (1, .ref l1), (2, .int l2), (3, .int l3), (4, .int l4)] [] V P :=
  sx_lp5_ind (fun k0 ih _ _ _ _ V h => tB_X10_traceContour_3 hG hP ih h)
def F_X10_traceContour (N : Nat) (l1 : Nat) (l2 : Int32) (l3 : Int32) (V : sv_V) : Option sv_V := sx_lp5 (B_X10_traceContour_3 N ) N l1 l2 l3 l2 V
set_option maxRecDepth 20000 in
theorem t_X10_traceContour {g : sx_G} (hG : sx_Go g) {P : Option Value → sv_V → Prop} {Vr : sv_V} (hP : P none Vr) {N : Nat} {l1 : Nat} {l2 : Int32} {l3 : Int32} {V : sv_V} (h : F_X10_traceContour N l1 l2 l3 V = some Vr) : sv_N g qX10_traceContour 1 0 [(0, .ref 60), (1, .ref l1), (2, .int l2), (3, .int l3)] [] V P := by
  unfold F_X10_traceContour at h
  refine sx_iload_n (pc := 0) dX10_traceContour_0 sx_m2 ?_
  refine sx_istore (pc := 1) (lo' := [(4, .int l2), (0, .ref 60), (1, .ref l1), (2, .int l2), (3, .int l3)]) dX10_traceContour_1 (by decide) rfl ?_
  refine sx_wk (sx_s1 sx_m1 (sx_s1 sx_m2 (sx_s1 sx_m3 (sx_s1 sx_m4 (sx_s1 sx_m0 sx_s0))))) ?_
  exact tL_X10_traceContour_3 hG hP  N _ _ _ _ _ h
