/-! methods: X5_turnRange, X5_firstTouched, X5_turnPoints, X5_noteReferences, X6_forgetAll, X6_keptOf, X7_hasCvt, X7_hasStorage, X8_has, X8_firstOf, X8_contourOf, X8_copyFrom, X8_endProgram, X8_shift, X9_useWayForP, X9_useWayForF, X9_turnWayLeft, X9_shareOf, X9_roundBy, X9_roundFinely, X10_addLine, X10_addCurve, X10_spans, X10_hasRow, X10_reaches, X10_sideOf, X10_crossing -/
theorem dX5_turnRange_0 : decode cX5_turnRange 0 = .ok (.aload_n 0, 1) := by decide +kernel
theorem dX5_turnRange_1 : decode cX5_turnRange 1 = .ok (.invokevirtual 242, 3) := by decide +kernel
theorem dX5_turnRange_4 : decode cX5_turnRange 4 = .ok (.istore_n 2, 1) := by decide +kernel
theorem dX5_turnRange_5 : decode cX5_turnRange 5 = .ok (.aload_n 0, 1) := by decide +kernel
theorem dX5_turnRange_6 : decode cX5_turnRange 6 = .ok (.invokevirtual 242, 3) := by decide +kernel
theorem dX5_turnRange_9 : decode cX5_turnRange 9 = .ok (.istore_n 3, 1) := by decide +kernel
theorem dX5_turnRange_10 : decode cX5_turnRange 10 = .ok (.iload_n 2, 1) := by decide +kernel
theorem dX5_turnRange_11 : decode cX5_turnRange 11 = .ok (.iload_n 3, 1) := by decide +kernel
theorem dX5_turnRange_12 : decode cX5_turnRange 12 = .ok (.if_icmp .ge 4, 3) := by decide +kernel
theorem dX5_turnRange_15 : decode cX5_turnRange 15 = .ok (.return_, 1) := by decide +kernel
theorem dX5_turnRange_16 : decode cX5_turnRange 16 = .ok (.iload_n 3, 1) := by decide +kernel
theorem dX5_turnRange_17 : decode cX5_turnRange 17 = .ok (.ifCond .lt 14, 3) := by decide +kernel
theorem dX5_turnRange_20 : decode cX5_turnRange 20 = .ok (.iload_n 2, 1) := by decide +kernel
theorem dX5_turnRange_21 : decode cX5_turnRange 21 = .ok (.aload_n 0, 1) := by decide +kernel
theorem dX5_turnRange_22 : decode cX5_turnRange 22 = .ok (.getfield 38, 3) := by decide +kernel
theorem dX5_turnRange_25 : decode cX5_turnRange 25 = .ok (.getfield 474, 3) := by decide +kernel
theorem dX5_turnRange_28 : decode cX5_turnRange 28 = .ok (.if_icmp .lt 9, 3) := by decide +kernel
theorem dX5_turnRange_31 : decode cX5_turnRange 31 = .ok (.aload_n 0, 1) := by decide +kernel
theorem dX5_turnRange_32 : decode cX5_turnRange 32 = .ok (.iconst 5, 1) := by decide +kernel
theorem dX5_turnRange_33 : decode cX5_turnRange 33 = .ok (.putfield 56, 3) := by decide +kernel
theorem dX5_turnRange_36 : decode cX5_turnRange 36 = .ok (.return_, 1) := by decide +kernel
theorem dX5_turnRange_37 : decode cX5_turnRange 37 = .ok (.iload_n 3, 1) := by decide +kernel
theorem dX5_turnRange_38 : decode cX5_turnRange 38 = .ok (.istore 4, 2) := by decide +kernel
theorem dX5_turnRange_40 : decode cX5_turnRange 40 = .ok (.iload 4, 2) := by decide +kernel
theorem dX5_turnRange_42 : decode cX5_turnRange 42 = .ok (.iload_n 2, 1) := by decide +kernel
theorem dX5_turnRange_43 : decode cX5_turnRange 43 = .ok (.if_icmp .gt 31, 3) := by decide +kernel
theorem dX5_turnRange_46 : decode cX5_turnRange 46 = .ok (.aload_n 0, 1) := by decide +kernel
theorem dX5_turnRange_47 : decode cX5_turnRange 47 = .ok (.getfield 38, 3) := by decide +kernel
theorem dX5_turnRange_50 : decode cX5_turnRange 50 = .ok (.getfield 477, 3) := by decide +kernel
theorem dX5_turnRange_53 : decode cX5_turnRange 53 = .ok (.iload 4, 2) := by decide +kernel
theorem dX5_turnRange_55 : decode cX5_turnRange 55 = .ok (.iload_n 1, 1) := by decide +kernel
theorem dX5_turnRange_56 : decode cX5_turnRange 56 = .ok (.sipush 129, 3) := by decide +kernel
theorem dX5_turnRange_59 : decode cX5_turnRange 59 = .ok (.if_icmp .ne 7, 3) := by decide +kernel
theorem dX5_turnRange_62 : decode cX5_turnRange 62 = .ok (.iconst 1, 1) := by decide +kernel
theorem dX5_turnRange_63 : decode cX5_turnRange 63 = .ok (.goto 4, 3) := by decide +kernel
theorem dX5_turnRange_66 : decode cX5_turnRange 66 = .ok (.iconst 0, 1) := by decide +kernel
theorem dX5_turnRange_67 : decode cX5_turnRange 67 = .ok (.iastore, 1) := by decide +kernel
theorem dX5_turnRange_68 : decode cX5_turnRange 68 = .ok (.iinc 4 1, 3) := by decide +kernel
theorem dX5_turnRange_71 : decode cX5_turnRange 71 = .ok (.goto (-31), 3) := by decide +kernel
theorem dX5_turnRange_74 : decode cX5_turnRange 74 = .ok (.return_, 1) := by decide +kernel
def B_X5_turnRange_67 (N : Nat) (k40 : Int32 → Int32 → Int32 → sv_V → Option sv_V) (l1 : Int32) (l2 : Int32) (l4 : Int32) (s0 : Nat) (s1 : Int32) (s2 : Int32) (V : sv_V) : Option sv_V := (sv_len 0 s0).bind (fun n1 => if sx_in s1 n1 = true then sx_let (sv_I V s0 s1.toNatClampNeg s2) (fun V4 => sx_let (l4 + 1) (fun x5 => k40 l1 l2 x5 V4)) else none)
set_option maxRecDepth 20000 in
theorem tB_X5_turnRange_67 {g : sx_G} (hG : sx_Go g) {P : Option Value → sv_V → Prop} {Vr : sv_V} (hP : P none Vr) {N : Nat} {k40 : Int32 → Int32 → Int32 → sv_V → Option sv_V} (hk40 : ∀ (l1 : Int32) (l2 : Int32) (l4 : Int32) (V : sv_V), k40 l1 l2 l4 V = some Vr → sv_N g qX5_turnRange 1 40 [(0, .ref 69), (1, .int l1), (2, .int l2), (4, .int l4)] [] V P) {l1 : Int32} {l2 : Int32} {l4 : Int32} {s0 : Nat} {s1 : Int32} {s2 : Int32} {V : sv_V} (h : B_X5_turnRange_67 N k40 l1 l2 l4 s0 s1 s2 V = some Vr) : sv_N g qX5_turnRange 1 67 [(0, .ref 69), (1, .int l1), (2, .int l2), (4, .int l4)] [.int s2, .int s1, .ref s0] V P := by
  unfold B_X5_turnRange_67 at h
  obtain ⟨n1, g2, h⟩ := sx_bnd h
  obtain ⟨g3, h⟩ := sx_grd h
  obtain ⟨V4, hV4⟩ : ∃ z : sv_V, z = sv_I V s0 s1.toNatClampNeg s2 := ⟨_, rfl⟩
  have h := sx_letE hV4 h
  refine sv_iast (pc := 67) hG dX5_turnRange_67 (sv_len_e g2) g3 hV4 ?_
  obtain ⟨x5, hx5⟩ : ∃ z : Int32, z = l4 + 1 := ⟨_, rfl⟩
  have h := sx_letE hx5 h
  refine sx_iinc (pc := 68) (v := x5) (lo' := [(4, .int x5), (0, .ref 69), (1, .int l1), (2, .int l2)]) dX5_turnRange_68 sx_m3 (by rw [hx5]; rfl) (by decide) rfl ?_
  refine sx_goto (pc := 71) (tgt := 40) dX5_turnRange_71 (by decide) ?_
  refine sx_wk (sx_s1 sx_m1 (sx_s1 sx_m2 (sx_s1 sx_m3 (sx_s1 sx_m0 sx_s0)))) ?_
  exact hk40 _ _ _ _ h
def B_X5_turnRange_40 (N : Nat) (k40 : Int32 → Int32 → Int32 → sv_V → Option sv_V) (l1 : Int32) (l2 : Int32) (l4 : Int32) (V : sv_V) : Option sv_V := if l2 < l4 then (some V) else ((V.2.2 69 7).bind (fun b7 => if lay b7 = .inl 8 then (cr b7 5).bind (fun b10 => if l1 = (129 : Int32) then (B_X5_turnRange_67 N k40 l1 l2 l4 b10 l4 (1 : Int32) V) else (B_X5_turnRange_67 N k40 l1 l2 l4 b10 l4 (0 : Int32) V)) else none))
set_option maxRecDepth 20000 in
theorem tB_X5_turnRange_40 {g : sx_G} (hG : sx_Go g) {P : Option Value → sv_V → Prop} {Vr : sv_V} (hP : P none Vr) {N : Nat} {k40 : Int32 → Int32 → Int32 → sv_V → Option sv_V} (hk40 : ∀ (l1 : Int32) (l2 : Int32) (l4 : Int32) (V : sv_V), k40 l1 l2 l4 V = some Vr → sv_N g qX5_turnRange 1 40 [(0, .ref 69), (1, .int l1), (2, .int l2), (4, .int l4)] [] V P) {l1 : Int32} {l2 : Int32} {l4 : Int32} {V : sv_V} (h : B_X5_turnRange_40 N k40 l1 l2 l4 V = some Vr) : sv_N g qX5_turnRange 1 40 [(0, .ref 69), (1, .int l1), (2, .int l2), (4, .int l4)] [] V P := by
  unfold B_X5_turnRange_40 at h
  refine sx_iload (pc := 40) dX5_turnRange_40 sx_m3 ?_
  refine sx_iload_n (pc := 42) dX5_turnRange_42 sx_m2 ?_
  refine sx_icmp_gt (pc := 43) (tgt := 74) dX5_turnRange_43 (by decide) (fun c6 => ?_) (fun c6 => ?_)
  · have h := sx_pos c6 h
    exact sv_vret (pc := 74) dX5_turnRange_74 rfl h hP
  · have h := sx_neg c6 h
    refine sx_aload_n (pc := 46) dX5_turnRange_46 sx_m0 ?_
    obtain ⟨b7, g8, h⟩ := sx_bnd h
    refine sv_getV (pc := 47) hG dX5_turnRange_47 f_5_38 lay_69 rfl rfl g8 ?_
    obtain ⟨g9, h⟩ := sx_grd h
    obtain ⟨b10, g11, h⟩ := sx_bnd h
    refine sv_getA (pc := 50) hG dX5_turnRange_50 f_5_477 g9 rfl g11 ?_
    refine sx_iload (pc := 53) dX5_turnRange_53 sx_m3 ?_
    refine sx_iload_n (pc := 55) dX5_turnRange_55 sx_m1 ?_
    refine sx_sipush (pc := 56) (v := 129) dX5_turnRange_56 (by decide) ?_
    refine sx_icmp_ne (pc := 59) (tgt := 66) dX5_turnRange_59 (by decide) (fun c12 => ?_) (fun c12 => ?_)
    · have h := sx_neg c12 h
      refine sx_iconst (pc := 66) (v := 0) dX5_turnRange_66 (by decide) ?_
      refine sx_wk (sx_s1 sx_m0 (sx_s1 sx_m1 (sx_s1 sx_m2 (sx_s1 sx_m3 sx_s0)))) ?_
      exact tB_X5_turnRange_67 hG hP hk40 h
    · have h := sx_pos c12 h
      refine sx_iconst (pc := 62) (v := 1) dX5_turnRange_62 (by decide) ?_
      refine sx_goto (pc := 63) (tgt := 67) dX5_turnRange_63 (by decide) ?_
      refine sx_wk (sx_s1 sx_m0 (sx_s1 sx_m1 (sx_s1 sx_m2 (sx_s1 sx_m3 sx_s0)))) ?_
      exact tB_X5_turnRange_67 hG hP hk40 h
theorem tL_X5_turnRange_40 {g : sx_G} (hG : sx_Go g) {P : Option Value → sv_V → Prop} {Vr : sv_V} (hP : P none Vr) {N : Nat}   : ∀ (n : Nat) (l1 : Int32) (l2 : Int32) (l4 : Int32) (V : sv_V), sx_lp4 (B_X5_turnRange_40 N ) n l1 l2 l4 V = some Vr → sv_N g qX5_turnRange 1 40 [(0, .ref 69), (1, .int l1), (2, .int l2), (4, .int l4)] [] V P :=
  sx_lp4_ind (fun k0 ih _ _ _ V h => tB_X5_turnRange_40 hG hP ih h)
def F_X5_turnRange (N : Nat) (l1 : Int32) (V : sv_V) : Option sv_V := (F_X5_pop  V).bind (fun (x15, V13) => (F_X5_pop  V13).bind (fun (x18, V16) => if x18 ≤ x15 then (if x18 < 0 then (sx_let (sv_I V16 69 14 (5 : Int32)) (fun V21 => some V21)) else ((V16.2.2 69 7).bind (fun b22 => if lay b22 = .inl 8 then if x15 < (V16.1 b22 9) then (sx_lp4 (B_X5_turnRange_40 N ) N l1 x15 x18 V16) else (sx_let (sv_I V16 69 14 (5 : Int32)) (fun V26 => some V26)) else none))) else (some V16)))
set_option maxRecDepth 20000 in
theorem t_X5_turnRange {g : sx_G} (hG : sx_Go g) {P : Option Value → sv_V → Prop} {Vr : sv_V} (hP : P none Vr) {N : Nat} {l1 : Int32} {V : sv_V} (h : F_X5_turnRange N l1 V = some Vr) : sv_N g qX5_turnRange 1 0 [(0, .ref 69), (1, .int l1)] [] V P := by
  unfold F_X5_turnRange at h
  refine sx_aload_n (pc := 0) dX5_turnRange_0 sx_m0 ?_
  obtain ⟨⟨x15, V13⟩, g14, h⟩ := sx_bnd h
  refine sv_cV (pc := 1) (y := qX5_pop) (o := (some (.int x15))) (as := []) (V1 := V13) hG dX5_turnRange_1 l_X5_242 y0X5_pop yvX5_pop rfl (Nat.le_of_ble_eq_true rfl) lay_69 kr_5 (by decide) (Nat.le_of_ble_eq_true rfl) rfl rfl rfl (t_X5_pop hG ⟨rfl, rfl⟩ g14) ?_
  refine sx_istore_n (pc := 4) (lo' := [(2, .int x15), (0, .ref 69), (1, .int l1)]) dX5_turnRange_4 (by decide) rfl ?_
  refine sx_aload_n (pc := 5) dX5_turnRange_5 sx_m1 ?_
  obtain ⟨⟨x18, V16⟩, g17, h⟩ := sx_bnd h
  refine sv_cV (pc := 6) (y := qX5_pop) (o := (some (.int x18))) (as := []) (V1 := V16) hG dX5_turnRange_6 l_X5_242 y0X5_pop yvX5_pop rfl (Nat.le_of_ble_eq_true rfl) lay_69 kr_5 (by decide) (Nat.le_of_ble_eq_true rfl) rfl rfl rfl (t_X5_pop hG ⟨rfl, rfl⟩ g17) ?_
  refine sx_istore_n (pc := 9) (lo' := [(3, .int x18), (2, .int x15), (0, .ref 69), (1, .int l1)]) dX5_turnRange_9 (by decide) rfl ?_
  refine sx_iload_n (pc := 10) dX5_turnRange_10 sx_m1 ?_
  refine sx_iload_n (pc := 11) dX5_turnRange_11 sx_m0 ?_
  refine sx_icmp_ge (pc := 12) (tgt := 16) dX5_turnRange_12 (by decide) (fun c19 => ?_) (fun c19 => ?_)
  · have h := sx_pos c19 h
    refine sx_iload_n (pc := 16) dX5_turnRange_16 sx_m0 ?_
    refine sx_if_lt (pc := 17) (tgt := 31) dX5_turnRange_17 (by decide) (fun c20 => ?_) (fun c20 => ?_)
    · have h := sx_pos c20 h
      refine sx_aload_n (pc := 31) dX5_turnRange_31 sx_m2 ?_
      refine sx_iconst (pc := 32) (v := 5) dX5_turnRange_32 (by decide) ?_
      obtain ⟨V21, hV21⟩ : ∃ z : sv_V, z = sv_I V16 69 14 (5 : Int32) := ⟨_, rfl⟩
      have h := sx_letE hV21 h
      refine sv_putI (pc := 33) hG dX5_turnRange_33 f_5_56 lay_69 rfl hV21 ?_
      exact sv_vret (pc := 36) dX5_turnRange_36 rfl h hP
    · have h := sx_neg c20 h
      refine sx_iload_n (pc := 20) dX5_turnRange_20 sx_m1 ?_
      refine sx_aload_n (pc := 21) dX5_turnRange_21 sx_m2 ?_
      obtain ⟨b22, g23, h⟩ := sx_bnd h
      refine sv_getV (pc := 22) hG dX5_turnRange_22 f_5_38 lay_69 rfl rfl g23 ?_
      obtain ⟨g24, h⟩ := sx_grd h
      refine sv_getI (pc := 25) hG dX5_turnRange_25 f_5_474 g24 rfl ?_
      refine sx_icmp_lt (pc := 28) (tgt := 37) dX5_turnRange_28 (by decide) (fun c25 => ?_) (fun c25 => ?_)
      · have h := sx_pos c25 h
        refine sx_iload_n (pc := 37) dX5_turnRange_37 sx_m0 ?_
        refine sx_istore (pc := 38) (lo' := [(4, .int x18), (3, .int x18), (2, .int x15), (0, .ref 69), (1, .int l1)]) dX5_turnRange_38 (by decide) rfl ?_
        refine sx_wk (sx_s1 sx_m3 (sx_s1 sx_m4 (sx_s1 sx_m2 (sx_s1 sx_m0 sx_s0)))) ?_
        exact tL_X5_turnRange_40 hG hP  N _ _ _ _ h
      · have h := sx_neg c25 h
        refine sx_aload_n (pc := 31) dX5_turnRange_31 sx_m2 ?_
        refine sx_iconst (pc := 32) (v := 5) dX5_turnRange_32 (by decide) ?_
        obtain ⟨V26, hV26⟩ : ∃ z : sv_V, z = sv_I V16 69 14 (5 : Int32) := ⟨_, rfl⟩
        have h := sx_letE hV26 h
        refine sv_putI (pc := 33) hG dX5_turnRange_33 f_5_56 lay_69 rfl hV26 ?_
        exact sv_vret (pc := 36) dX5_turnRange_36 rfl h hP
  · have h := sx_neg c19 h
    exact sv_vret (pc := 15) dX5_turnRange_15 rfl h hP
theorem dX5_firstTouched_0 : decode cX5_firstTouched 0 = .ok (.iload_n 1, 1) := by decide +kernel
theorem dX5_firstTouched_1 : decode cX5_firstTouched 1 = .ok (.istore 4, 2) := by decide +kernel
theorem dX5_firstTouched_3 : decode cX5_firstTouched 3 = .ok (.iload 4, 2) := by decide +kernel
theorem dX5_firstTouched_5 : decode cX5_firstTouched 5 = .ok (.iload_n 1, 1) := by decide +kernel
theorem dX5_firstTouched_6 : decode cX5_firstTouched 6 = .ok (.iload_n 2, 1) := by decide +kernel
theorem dX5_firstTouched_7 : decode cX5_firstTouched 7 = .ok (.iadd, 1) := by decide +kernel
theorem dX5_firstTouched_8 : decode cX5_firstTouched 8 = .ok (.if_icmp .ge 27, 3) := by decide +kernel
theorem dX5_firstTouched_11 : decode cX5_firstTouched 11 = .ok (.aload_n 0, 1) := by decide +kernel
theorem dX5_firstTouched_12 : decode cX5_firstTouched 12 = .ok (.getfield 38, 3) := by decide +kernel
theorem dX5_firstTouched_15 : decode cX5_firstTouched 15 = .ok (.getfield 220, 3) := by decide +kernel
theorem dX5_firstTouched_18 : decode cX5_firstTouched 18 = .ok (.iload 4, 2) := by decide +kernel
theorem dX5_firstTouched_20 : decode cX5_firstTouched 20 = .ok (.iaload, 1) := by decide +kernel
theorem dX5_firstTouched_21 : decode cX5_firstTouched 21 = .ok (.iload_n 3, 1) := by decide +kernel
theorem dX5_firstTouched_22 : decode cX5_firstTouched 22 = .ok (.iand, 1) := by decide +kernel
theorem dX5_firstTouched_23 : decode cX5_firstTouched 23 = .ok (.ifCond .eq 6, 3) := by decide +kernel
theorem dX5_firstTouched_26 : decode cX5_firstTouched 26 = .ok (.iload 4, 2) := by decide +kernel
theorem dX5_firstTouched_28 : decode cX5_firstTouched 28 = .ok (.ireturn, 1) := by decide +kernel
theorem dX5_firstTouched_29 : decode cX5_firstTouched 29 = .ok (.iinc 4 1, 3) := by decide +kernel
theorem dX5_firstTouched_32 : decode cX5_firstTouched 32 = .ok (.goto (-29), 3) := by decide +kernel
theorem dX5_firstTouched_35 : decode cX5_firstTouched 35 = .ok (.iconst (-1), 1) := by decide +kernel
theorem dX5_firstTouched_36 : decode cX5_firstTouched 36 = .ok (.ireturn, 1) := by decide +kernel
def B_X5_firstTouched_3 (N : Nat) (k3 : Int32 → Int32 → Int32 → Int32 → sv_V → Option (Int32 × sv_V)) (l1 : Int32) (l2 : Int32) (l3 : Int32) (l4 : Int32) (V : sv_V) : Option (Int32 × sv_V) := if (l1 + l2) ≤ l4 then (some ((-1 : Int32), V)) else ((V.2.2 69 7).bind (fun b2 => if lay b2 = .inl 8 then (cr b2 4).bind (fun b5 => (sv_len 0 b5).bind (fun n7 => if sx_in l4 n7 = true then if ((V.1 b5 l4.toNatClampNeg) &&& l3) = 0 then (sx_let (l4 + 1) (fun x11 => k3 l1 l2 l3 x11 V)) else (some (l4, V)) else none)) else none))
set_option maxRecDepth 20000 in
theorem tB_X5_firstTouched_3 {g : sx_G} (hG : sx_Go g) {P : Option Value → sv_V → Prop} {r : Int32} {Vr : sv_V} (hP : P (some (.int r)) Vr) {N : Nat} {k3 : Int32 → Int32 → Int32 → Int32 → sv_V → Option (Int32 × sv_V)} (hk3 : ∀ (l1 : Int32) (l2 : Int32) (l3 : Int32) (l4 : Int32) (V : sv_V), k3 l1 l2 l3 l4 V = some (r, Vr) → sv_N g qX5_firstTouched 0 3 [(0, .ref 69), (1, .int l1), (2, .int l2), (3, .int l3), (4, .int l4)] [] V P) {l1 : Int32} {l2 : Int32} {l3 : Int32} {l4 : Int32} {V : sv_V} (h : B_X5_firstTouched_3 N k3 l1 l2 l3 l4 V = some (r, Vr)) : sv_N g qX5_firstTouched 0 3 [(0, .ref 69), (1, .int l1), (2, .int l2), (3, .int l3), (4, .int l4)] [] V P := by
  unfold B_X5_firstTouched_3 at h
  refine sx_iload (pc := 3) dX5_firstTouched_3 sx_m4 ?_
  refine sx_iload_n (pc := 5) dX5_firstTouched_5 sx_m1 ?_
  refine sx_iload_n (pc := 6) dX5_firstTouched_6 sx_m2 ?_
  refine sx_iadd (pc := 7) dX5_firstTouched_7 ?_
  refine sx_icmp_ge (pc := 8) (tgt := 35) dX5_firstTouched_8 (by decide) (fun c1 => ?_) (fun c1 => ?_)
  · have h := sx_pos c1 h
    refine sx_iconst (pc := 35) (v := (-1)) dX5_firstTouched_35 (by decide) ?_
    exact sv_iret (pc := 36) dX5_firstTouched_36 rfl h hP
  · have h := sx_neg c1 h
    refine sx_aload_n (pc := 11) dX5_firstTouched_11 sx_m0 ?_
    obtain ⟨b2, g3, h⟩ := sx_bnd h
    refine sv_getV (pc := 12) hG dX5_firstTouched_12 f_5_38 lay_69 rfl rfl g3 ?_
    obtain ⟨g4, h⟩ := sx_grd h
    obtain ⟨b5, g6, h⟩ := sx_bnd h
    refine sv_getA (pc := 15) hG dX5_firstTouched_15 f_5_220 g4 rfl g6 ?_
    refine sx_iload (pc := 18) dX5_firstTouched_18 sx_m4 ?_
    obtain ⟨n7, g8, h⟩ := sx_bnd h
    obtain ⟨g9, h⟩ := sx_grd h
    refine sv_iald (pc := 20) hG dX5_firstTouched_20 (sv_len_e g8) g9 ?_
    refine sx_iload_n (pc := 21) dX5_firstTouched_21 sx_m3 ?_
    refine sx_iand (pc := 22) dX5_firstTouched_22 ?_
    refine sx_if_eq (pc := 23) (tgt := 29) dX5_firstTouched_23 (by decide) (fun c10 => ?_) (fun c10 => ?_)
    · have h := sx_pos c10 h
      obtain ⟨x11, hx11⟩ : ∃ z : Int32, z = l4 + 1 := ⟨_, rfl⟩
      have h := sx_letE hx11 h
      refine sx_iinc (pc := 29) (v := x11) (lo' := [(4, .int x11), (0, .ref 69), (1, .int l1), (2, .int l2), (3, .int l3)]) dX5_firstTouched_29 sx_m4 (by rw [hx11]; rfl) (by decide) rfl ?_
      refine sx_goto (pc := 32) (tgt := 3) dX5_firstTouched_32 (by decide) ?_
      refine sx_wk (sx_s1 sx_m1 (sx_s1 sx_m2 (sx_s1 sx_m3 (sx_s1 sx_m4 (sx_s1 sx_m0 sx_s0))))) ?_
      exact hk3 _ _ _ _ _ h
    · have h := sx_neg c10 h
      refine sx_iload (pc := 26) dX5_firstTouched_26 sx_m4 ?_
      exact sv_iret (pc := 28) dX5_firstTouched_28 rfl h hP
theorem tL_X5_firstTouched_3 {g : sx_G} (hG : sx_Go g) {P : Option Value → sv_V → Prop} {r : Int32} {Vr : sv_V} (hP : P (some (.int r)) Vr) {N : Nat}   : ∀ (n : Nat) (l1 : Int32) (l2 : Int32) (l3 : Int32) (l4 : Int32) (V : sv_V), sx_lp5 (B_X5_firstTouched_3 N ) n l1 l2 l3 l4 V = some (r, Vr) → sv_N g qX5_firstTouched 0 3 [(0, .ref 69), (1, .int l1), (2, .int l2), (3, .int l3), (4, .int l4)] [] V P :=
  sx_lp5_ind (fun k0 ih _ _ _ _ V h => tB_X5_firstTouched_3 hG hP ih h)
def F_X5_firstTouched (N : Nat) (l1 : Int32) (l2 : Int32) (l3 : Int32) (V : sv_V) : Option (Int32 × sv_V) := sx_lp5 (B_X5_firstTouched_3 N ) N l1 l2 l3 l1 V
set_option maxRecDepth 20000 in
theorem t_X5_firstTouched {g : sx_G} (hG : sx_Go g) {P : Option Value → sv_V → Prop} {r : Int32} {Vr : sv_V} (hP : P (some (.int r)) Vr) {N : Nat} {l1 : Int32} {l2 : Int32} {l3 : Int32} {V : sv_V} (h : F_X5_firstTouched N l1 l2 l3 V = some (r, Vr)) : sv_N g qX5_firstTouched 0 0 [(0, .ref 69), (1, .int l1), (2, .int l2), (3, .int l3)] [] V P := by
  unfold F_X5_firstTouched at h
  refine sx_iload_n (pc := 0) dX5_firstTouched_0 sx_m1 ?_
  refine sx_istore (pc := 1) (lo' := [(4, .int l1), (0, .ref 69), (1, .int l1), (2, .int l2), (3, .int l3)]) dX5_firstTouched_1 (by decide) rfl ?_
  refine sx_wk (sx_s1 sx_m1 (sx_s1 sx_m2 (sx_s1 sx_m3 (sx_s1 sx_m4 (sx_s1 sx_m0 sx_s0))))) ?_
  exact tL_X5_firstTouched_3 hG hP  N _ _ _ _ _ h
theorem dX5_turnPoints_0 : decode cX5_turnPoints 0 = .ok (.iconst 0, 1) := by decide +kernel
theorem dX5_turnPoints_1 : decode cX5_turnPoints 1 = .ok (.istore_n 1, 1) := by decide +kernel
theorem dX5_turnPoints_2 : decode cX5_turnPoints 2 = .ok (.iload_n 1, 1) := by decide +kernel
theorem dX5_turnPoints_3 : decode cX5_turnPoints 3 = .ok (.aload_n 0, 1) := by decide +kernel
theorem dX5_turnPoints_4 : decode cX5_turnPoints 4 = .ok (.getfield 12, 3) := by decide +kernel
theorem dX5_turnPoints_7 : decode cX5_turnPoints 7 = .ok (.getfield 163, 3) := by decide +kernel
theorem dX5_turnPoints_10 : decode cX5_turnPoints 10 = .ok (.if_icmp .ge 68, 3) := by decide +kernel
theorem dX5_turnPoints_13 : decode cX5_turnPoints 13 = .ok (.aload_n 0, 1) := by decide +kernel
theorem dX5_turnPoints_14 : decode cX5_turnPoints 14 = .ok (.invokevirtual 242, 3) := by decide +kernel
theorem dX5_turnPoints_17 : decode cX5_turnPoints 17 = .ok (.istore_n 2, 1) := by decide +kernel
theorem dX5_turnPoints_18 : decode cX5_turnPoints 18 = .ok (.aload_n 0, 1) := by decide +kernel
theorem dX5_turnPoints_19 : decode cX5_turnPoints 19 = .ok (.getfield 12, 3) := by decide +kernel
theorem dX5_turnPoints_22 : decode cX5_turnPoints 22 = .ok (.getfield 172, 3) := by decide +kernel
theorem dX5_turnPoints_25 : decode cX5_turnPoints 25 = .ok (.iconst 0, 1) := by decide +kernel
theorem dX5_turnPoints_26 : decode cX5_turnPoints 26 = .ok (.iaload, 1) := by decide +kernel
theorem dX5_turnPoints_27 : decode cX5_turnPoints 27 = .ok (.iconst 1, 1) := by decide +kernel
theorem dX5_turnPoints_28 : decode cX5_turnPoints 28 = .ok (.if_icmp .ne 18, 3) := by decide +kernel
theorem dX5_turnPoints_31 : decode cX5_turnPoints 31 = .ok (.iload_n 2, 1) := by decide +kernel
theorem dX5_turnPoints_32 : decode cX5_turnPoints 32 = .ok (.ifCond .lt 14, 3) := by decide +kernel
theorem dX5_turnPoints_35 : decode cX5_turnPoints 35 = .ok (.iload_n 2, 1) := by decide +kernel
theorem dX5_turnPoints_36 : decode cX5_turnPoints 36 = .ok (.aload_n 0, 1) := by decide +kernel
theorem dX5_turnPoints_37 : decode cX5_turnPoints 37 = .ok (.getfield 38, 3) := by decide +kernel
theorem dX5_turnPoints_40 : decode cX5_turnPoints 40 = .ok (.getfield 474, 3) := by decide +kernel
theorem dX5_turnPoints_43 : decode cX5_turnPoints 43 = .ok (.if_icmp .lt 9, 3) := by decide +kernel
theorem dX5_turnPoints_46 : decode cX5_turnPoints 46 = .ok (.aload_n 0, 1) := by decide +kernel
theorem dX5_turnPoints_47 : decode cX5_turnPoints 47 = .ok (.iconst 5, 1) := by decide +kernel
theorem dX5_turnPoints_48 : decode cX5_turnPoints 48 = .ok (.putfield 56, 3) := by decide +kernel
theorem dX5_turnPoints_51 : decode cX5_turnPoints 51 = .ok (.return_, 1) := by decide +kernel
theorem dX5_turnPoints_52 : decode cX5_turnPoints 52 = .ok (.aload_n 0, 1) := by decide +kernel
theorem dX5_turnPoints_53 : decode cX5_turnPoints 53 = .ok (.getfield 38, 3) := by decide +kernel
theorem dX5_turnPoints_56 : decode cX5_turnPoints 56 = .ok (.getfield 477, 3) := by decide +kernel
theorem dX5_turnPoints_59 : decode cX5_turnPoints 59 = .ok (.iload_n 2, 1) := by decide +kernel
theorem dX5_turnPoints_60 : decode cX5_turnPoints 60 = .ok (.iconst 1, 1) := by decide +kernel
theorem dX5_turnPoints_61 : decode cX5_turnPoints 61 = .ok (.aload_n 0, 1) := by decide +kernel
theorem dX5_turnPoints_62 : decode cX5_turnPoints 62 = .ok (.getfield 38, 3) := by decide +kernel
theorem dX5_turnPoints_65 : decode cX5_turnPoints 65 = .ok (.getfield 477, 3) := by decide +kernel
theorem dX5_turnPoints_68 : decode cX5_turnPoints 68 = .ok (.iload_n 2, 1) := by decide +kernel
theorem dX5_turnPoints_69 : decode cX5_turnPoints 69 = .ok (.iaload, 1) := by decide +kernel
theorem dX5_turnPoints_70 : decode cX5_turnPoints 70 = .ok (.isub, 1) := by decide +kernel
theorem dX5_turnPoints_71 : decode cX5_turnPoints 71 = .ok (.iastore, 1) := by decide +kernel
theorem dX5_turnPoints_72 : decode cX5_turnPoints 72 = .ok (.iinc 1 1, 3) := by decide +kernel
theorem dX5_turnPoints_75 : decode cX5_turnPoints 75 = .ok (.goto (-73), 3) := by decide +kernel
theorem dX5_turnPoints_78 : decode cX5_turnPoints 78 = .ok (.aload_n 0, 1) := by decide +kernel
theorem dX5_turnPoints_79 : decode cX5_turnPoints 79 = .ok (.getfield 12, 3) := by decide +kernel
theorem dX5_turnPoints_82 : decode cX5_turnPoints 82 = .ok (.iconst 1, 1) := by decide +kernel
theorem dX5_turnPoints_83 : decode cX5_turnPoints 83 = .ok (.putfield 163, 3) := by decide +kernel
theorem dX5_turnPoints_86 : decode cX5_turnPoints 86 = .ok (.return_, 1) := by decide +kernel
def B_X5_turnPoints_2 (N : Nat) (k2 : Int32 → sv_V → Option sv_V) (l1 : Int32) (V : sv_V) : Option sv_V := if (V.1 70 8) ≤ l1 then (sx_let (sv_I V 70 8 (1 : Int32)) (fun V2 => some V2)) else ((F_X5_pop  V).bind (fun (x5, V3) => if (V3.1 72 (0 : Int32).toNatClampNeg) = (1 : Int32) then (if x5 < 0 then (sx_let (sv_I V3 69 14 (5 : Int32)) (fun V9 => some V9)) else ((V3.2.2 69 7).bind (fun b10 => if lay b10 = .inl 8 then if x5 < (V3.1 b10 9) then ((V3.2.2 69 7).bind (fun b14 => if lay b14 = .inl 8 then (cr b14 5).bind (fun b17 => (V3.2.2 69 7).bind (fun b19 => if lay b19 = .inl 8 then (cr b19 5).bind (fun b22 => (sv_len 0 b22).bind (fun n24 => if sx_in x5 n24 = true then (sv_len 0 b17).bind (fun n27 => if sx_in x5 n27 = true then sx_let (sv_I V3 b17 x5.toNatClampNeg ((1 : Int32) - (V3.1 b22 x5.toNatClampNeg))) (fun V30 => sx_let (l1 + 1) (fun x31 => k2 x31 V30)) else none) else none)) else none)) else none)) else (sx_let (sv_I V3 69 14 (5 : Int32)) (fun V32 => some V32)) else none))) else (sx_let (sv_I V3 69 14 (5 : Int32)) (fun V7 => some V7))))
set_option maxRecDepth 20000 in
theorem tB_X5_turnPoints_2 {g : sx_G} (hG : sx_Go g) {P : Option Value → sv_V → Prop} {Vr : sv_V} (hP : P none Vr) {N : Nat} {k2 : Int32 → sv_V → Option sv_V} (hk2 : ∀ (l1 : Int32) (V : sv_V), k2 l1 V = some Vr → sv_N g qX5_turnPoints 1 2 [(0, .ref 69), (1, .int l1)] [] V P) {l1 : Int32} {V : sv_V} (h : B_X5_turnPoints_2 N k2 l1 V = some Vr) : sv_N g qX5_turnPoints 1 2 [(0, .ref 69), (1, .int l1)] [] V P := by
  unfold B_X5_turnPoints_2 at h
  refine sx_iload_n (pc := 2) dX5_turnPoints_2 sx_m1 ?_
  refine sx_aload_n (pc := 3) dX5_turnPoints_3 sx_m0 ?_
  refine sv_getO (pc := 4) hG dX5_turnPoints_4 f_5_12 lay_69 rfl cr_69_1 ?_
  refine sv_getI (pc := 7) hG dX5_turnPoints_7 f_5_163 lay_70 rfl ?_
  refine sx_icmp_ge (pc := 10) (tgt := 78) dX5_turnPoints_10 (by decide) (fun c1 => ?_) (fun c1 => ?_)
  · have h := sx_pos c1 h
    refine sx_aload_n (pc := 78) dX5_turnPoints_78 sx_m0 ?_
    refine sv_getO (pc := 79) hG dX5_turnPoints_79 f_5_12 lay_69 rfl cr_69_1 ?_
    refine sx_iconst (pc := 82) (v := 1) dX5_turnPoints_82 (by decide) ?_
    obtain ⟨V2, hV2⟩ : ∃ z : sv_V, z = sv_I V 70 8 (1 : Int32) := ⟨_, rfl⟩
    have h := sx_letE hV2 h
    refine sv_putI (pc := 83) hG dX5_turnPoints_83 f_5_163 lay_70 rfl hV2 ?_
    exact sv_vret (pc := 86) dX5_turnPoints_86 rfl h hP
  · have h := sx_neg c1 h
    refine sx_aload_n (pc := 13) dX5_turnPoints_13 sx_m0 ?_
    obtain ⟨⟨x5, V3⟩, g4, h⟩ := sx_bnd h
    refine sv_cV (pc := 14) (y := qX5_pop) (o := (some (.int x5))) (as := []) (V1 := V3) hG dX5_turnPoints_14 l_X5_242 y0X5_pop yvX5_pop rfl (Nat.le_of_ble_eq_true rfl) lay_69 kr_5 (by decide) (Nat.le_of_ble_eq_true rfl) rfl rfl rfl (t_X5_pop hG ⟨rfl, rfl⟩ g4) ?_
    refine sx_istore_n (pc := 17) (lo' := [(2, .int x5), (0, .ref 69), (1, .int l1)]) dX5_turnPoints_17 (by decide) rfl ?_
    refine sx_aload_n (pc := 18) dX5_turnPoints_18 sx_m1 ?_
    refine sv_getO (pc := 19) hG dX5_turnPoints_19 f_5_12 lay_69 rfl cr_69_1 ?_
    refine sv_getA (pc := 22) hG dX5_turnPoints_22 f_5_172 lay_70 rfl cr_70_7 ?_
    refine sx_iconst (pc := 25) (v := 0) dX5_turnPoints_25 (by decide) ?_
    refine sv_iald (pc := 26) hG dX5_turnPoints_26 lay_72 (by decide) ?_
    refine sx_iconst (pc := 27) (v := 1) dX5_turnPoints_27 (by decide) ?_
    refine sx_icmp_ne (pc := 28) (tgt := 46) dX5_turnPoints_28 (by decide) (fun c6 => ?_) (fun c6 => ?_)
    · have h := sx_neg c6 h
      refine sx_aload_n (pc := 46) dX5_turnPoints_46 sx_m1 ?_
      refine sx_iconst (pc := 47) (v := 5) dX5_turnPoints_47 (by decide) ?_
      obtain ⟨V7, hV7⟩ : ∃ z : sv_V, z = sv_I V3 69 14 (5 : Int32) := ⟨_, rfl⟩
      have h := sx_letE hV7 h
      refine sv_putI (pc := 48) hG dX5_turnPoints_48 f_5_56 lay_69 rfl hV7 ?_
      exact sv_vret (pc := 51) dX5_turnPoints_51 rfl h hP
    · have h := sx_pos c6 h
      refine sx_iload_n (pc := 31) dX5_turnPoints_31 sx_m0 ?_
      refine sx_if_lt (pc := 32) (tgt := 46) dX5_turnPoints_32 (by decide) (fun c8 => ?_) (fun c8 => ?_)
      · have h := sx_pos c8 h
        refine sx_aload_n (pc := 46) dX5_turnPoints_46 sx_m1 ?_
        refine sx_iconst (pc := 47) (v := 5) dX5_turnPoints_47 (by decide) ?_
        obtain ⟨V9, hV9⟩ : ∃ z : sv_V, z = sv_I V3 69 14 (5 : Int32) := ⟨_, rfl⟩
        have h := sx_letE hV9 h
        refine sv_putI (pc := 48) hG dX5_turnPoints_48 f_5_56 lay_69 rfl hV9 ?_
        exact sv_vret (pc := 51) dX5_turnPoints_51 rfl h hP
      · have h := sx_neg c8 h
        refine sx_iload_n (pc := 35) dX5_turnPoints_35 sx_m0 ?_
        refine sx_aload_n (pc := 36) dX5_turnPoints_36 sx_m1 ?_
        obtain ⟨b10, g11, h⟩ := sx_bnd h
        refine sv_getV (pc := 37) hG dX5_turnPoints_37 f_5_38 lay_69 rfl rfl g11 ?_
        obtain ⟨g12, h⟩ := sx_grd h
        refine sv_getI (pc := 40) hG dX5_turnPoints_40 f_5_474 g12 rfl ?_
        refine sx_icmp_lt (pc := 43) (tgt := 52) dX5_turnPoints_43 (by decide) (fun c13 => ?_) (fun c13 => ?_)
        · have h := sx_pos c13 h
          refine sx_aload_n (pc := 52) dX5_turnPoints_52 sx_m1 ?_
          obtain ⟨b14, g15, h⟩ := sx_bnd h
          refine sv_getV (pc := 53) hG dX5_turnPoints_53 f_5_38 lay_69 rfl rfl g15 ?_
          obtain ⟨g16, h⟩ := sx_grd h
          obtain ⟨b17, g18, h⟩ := sx_bnd h
          refine sv_getA (pc := 56) hG dX5_turnPoints_56 f_5_477 g16 rfl g18 ?_
          refine sx_iload_n (pc := 59) dX5_turnPoints_59 sx_m0 ?_
          refine sx_iconst (pc := 60) (v := 1) dX5_turnPoints_60 (by decide) ?_
          refine sx_aload_n (pc := 61) dX5_turnPoints_61 sx_m1 ?_
          obtain ⟨b19, g20, h⟩ := sx_bnd h
          refine sv_getV (pc := 62) hG dX5_turnPoints_62 f_5_38 lay_69 rfl rfl g20 ?_
          obtain ⟨g21, h⟩ := sx_grd h
          obtain ⟨b22, g23, h⟩ := sx_bnd h
          refine sv_getA (pc := 65) hG dX5_turnPoints_65 f_5_477 g21 rfl g23 ?_
          refine sx_iload_n (pc := 68) dX5_turnPoints_68 sx_m0 ?_
          obtain ⟨n24, g25, h⟩ := sx_bnd h
          obtain ⟨g26, h⟩ := sx_grd h
          refine sv_iald (pc := 69) hG dX5_turnPoints_69 (sv_len_e g25) g26 ?_
          refine sx_isub (pc := 70) dX5_turnPoints_70 ?_
          obtain ⟨n27, g28, h⟩ := sx_bnd h
          obtain ⟨g29, h⟩ := sx_grd h
          obtain ⟨V30, hV30⟩ : ∃ z : sv_V, z = sv_I V3 b17 x5.toNatClampNeg ((1 : Int32) - (V3.1 b22 x5.toNatClampNeg)) := ⟨_, rfl⟩
          have h := sx_letE hV30 h
          refine sv_iast (pc := 71) hG dX5_turnPoints_71 (sv_len_e g28) g29 hV30 ?_
          obtain ⟨x31, hx31⟩ : ∃ z : Int32, z = l1 + 1 := ⟨_, rfl⟩
          have h := sx_letE hx31 h
          refine sx_iinc (pc := 72) (v := x31) (lo' := [(1, .int x31), (2, .int x5), (0, .ref 69)]) dX5_turnPoints_72 sx_m2 (by rw [hx31]; rfl) (by decide) rfl ?_
          refine sx_goto (pc := 75) (tgt := 2) dX5_turnPoints_75 (by decide) ?_
          refine sx_wk (sx_s1 sx_m2 (sx_s1 sx_m0 sx_s0)) ?_
          exact hk2 _ _ h
        · have h := sx_neg c13 h
          refine sx_aload_n (pc := 46) dX5_turnPoints_46 sx_m1 ?_
          refine sx_iconst (pc := 47) (v := 5) dX5_turnPoints_47 (by decide) ?_
          obtain ⟨V32, hV32⟩ : ∃ z : sv_V, z = sv_I V3 69 14 (5 : Int32) := ⟨_, rfl⟩
          have h := sx_letE hV32 h
          refine sv_putI (pc := 48) hG dX5_turnPoints_48 f_5_56 lay_69 rfl hV32 ?_
          exact sv_vret (pc := 51) dX5_turnPoints_51 rfl h hP
theorem tL_X5_turnPoints_2 {g : sx_G} (hG : sx_Go g) {P : Option Value → sv_V → Prop} {Vr : sv_V} (hP : P none Vr) {N : Nat}   : ∀ (n : Nat) (l1 : Int32) (V : sv_V), sx_lp2 (B_X5_turnPoints_2 N ) n l1 V = some Vr → sv_N g qX5_turnPoints 1 2 [(0, .ref 69), (1, .int l1)] [] V P :=
  sx_lp2_ind (fun k0 ih _ V h => tB_X5_turnPoints_2 hG hP ih h)
def F_X5_turnPoints (N : Nat)  (V : sv_V) : Option sv_V := sx_lp2 (B_X5_turnPoints_2 N ) N (0 : Int32) V
set_option maxRecDepth 20000 in
theorem t_X5_turnPoints {g : sx_G} (hG : sx_Go g) {P : Option Value → sv_V → Prop} {Vr : sv_V} (hP : P none Vr) {N : Nat}  {V : sv_V} (h : F_X5_turnPoints N  V = some Vr) : sv_N g qX5_turnPoints 1 0 [(0, .ref 69)] [] V P := by
  unfold F_X5_turnPoints at h
  refine sx_iconst (pc := 0) (v := 0) dX5_turnPoints_0 (by decide) ?_
  refine sx_istore_n (pc := 1) (lo' := [(1, .int (0 : Int32)), (0, .ref 69)]) dX5_turnPoints_1 (by decide) rfl ?_
  refine sx_wk (sx_s1 sx_m1 (sx_s1 sx_m0 sx_s0)) ?_
  exact tL_X5_turnPoints_2 hG hP  N _ _ h
theorem dX5_noteReferences_0 : decode cX5_noteReferences 0 = .ok (.aload_n 0, 1) := by decide +kernel
theorem dX5_noteReferences_1 : decode cX5_noteReferences 1 = .ok (.getfield 12, 3) := by decide +kernel
theorem dX5_noteReferences_4 : decode cX5_noteReferences 4 = .ok (.getfield 275, 3) := by decide +kernel
theorem dX5_noteReferences_7 : decode cX5_noteReferences 7 = .ok (.iconst 1, 1) := by decide +kernel
theorem dX5_noteReferences_8 : decode cX5_noteReferences 8 = .ok (.aload_n 0, 1) := by decide +kernel
theorem dX5_noteReferences_9 : decode cX5_noteReferences 9 = .ok (.getfield 12, 3) := by decide +kernel
theorem dX5_noteReferences_12 : decode cX5_noteReferences 12 = .ok (.getfield 275, 3) := by decide +kernel
theorem dX5_noteReferences_15 : decode cX5_noteReferences 15 = .ok (.iconst 0, 1) := by decide +kernel
theorem dX5_noteReferences_16 : decode cX5_noteReferences 16 = .ok (.iaload, 1) := by decide +kernel
theorem dX5_noteReferences_17 : decode cX5_noteReferences 17 = .ok (.iastore, 1) := by decide +kernel
theorem dX5_noteReferences_18 : decode cX5_noteReferences 18 = .ok (.aload_n 0, 1) := by decide +kernel
theorem dX5_noteReferences_19 : decode cX5_noteReferences 19 = .ok (.getfield 12, 3) := by decide +kernel
theorem dX5_noteReferences_22 : decode cX5_noteReferences 22 = .ok (.getfield 275, 3) := by decide +kernel
theorem dX5_noteReferences_25 : decode cX5_noteReferences 25 = .ok (.iconst 2, 1) := by decide +kernel
theorem dX5_noteReferences_26 : decode cX5_noteReferences 26 = .ok (.iload_n 1, 1) := by decide +kernel
theorem dX5_noteReferences_27 : decode cX5_noteReferences 27 = .ok (.iastore, 1) := by decide +kernel
theorem dX5_noteReferences_28 : decode cX5_noteReferences 28 = .ok (.iload_n 2, 1) := by decide +kernel
theorem dX5_noteReferences_29 : decode cX5_noteReferences 29 = .ok (.ifCond .eq 13, 3) := by decide +kernel
theorem dX5_noteReferences_32 : decode cX5_noteReferences 32 = .ok (.aload_n 0, 1) := by decide +kernel
theorem dX5_noteReferences_33 : decode cX5_noteReferences 33 = .ok (.getfield 12, 3) := by decide +kernel
theorem dX5_noteReferences_36 : decode cX5_noteReferences 36 = .ok (.getfield 275, 3) := by decide +kernel
theorem dX5_noteReferences_39 : decode cX5_noteReferences 39 = .ok (.iconst 0, 1) := by decide +kernel
theorem dX5_noteReferences_40 : decode cX5_noteReferences 40 = .ok (.iload_n 1, 1) := by decide +kernel
theorem dX5_noteReferences_41 : decode cX5_noteReferences 41 = .ok (.iastore, 1) := by decide +kernel
theorem dX5_noteReferences_42 : decode cX5_noteReferences 42 = .ok (.return_, 1) := by decide +kernel
def F_X5_noteReferences (l1 : Int32) (l2 : Int32) (V : sv_V) : Option sv_V := sx_let (sv_I V 71 (1 : Int32).toNatClampNeg (V.1 71 (0 : Int32).toNatClampNeg)) (fun V1 => sx_let (sv_I V1 71 (2 : Int32).toNatClampNeg l1) (fun V2 => if l2 = 0 then (some V2) else (sx_let (sv_I V2 71 (0 : Int32).toNatClampNeg l1) (fun V4 => some V4))))
set_option maxRecDepth 20000 in
theorem t_X5_noteReferences {g : sx_G} (hG : sx_Go g) {P : Option Value → sv_V → Prop} {Vr : sv_V} (hP : P none Vr) {l1 : Int32} {l2 : Int32} {V : sv_V} (h : F_X5_noteReferences l1 l2 V = some Vr) : sv_N g qX5_noteReferences 0 0 [(0, .ref 69), (1, .int l1), (2, .int l2)] [] V P := by
  unfold F_X5_noteReferences at h
  refine sx_aload_n (pc := 0) dX5_noteReferences_0 sx_m0 ?_
  refine sv_getO (pc := 1) hG dX5_noteReferences_1 f_5_12 lay_69 rfl cr_69_1 ?_
  refine sv_getA (pc := 4) hG dX5_noteReferences_4 f_5_275 lay_70 rfl cr_70_6 ?_
  refine sx_iconst (pc := 7) (v := 1) dX5_noteReferences_7 (by decide) ?_
  refine sx_aload_n (pc := 8) dX5_noteReferences_8 sx_m0 ?_
  refine sv_getO (pc := 9) hG dX5_noteReferences_9 f_5_12 lay_69 rfl cr_69_1 ?_
  refine sv_getA (pc := 12) hG dX5_noteReferences_12 f_5_275 lay_70 rfl cr_70_6 ?_
  refine sx_iconst (pc := 15) (v := 0) dX5_noteReferences_15 (by decide) ?_
  refine sv_iald (pc := 16) hG dX5_noteReferences_16 lay_71 (by decide) ?_
  obtain ⟨V1, hV1⟩ : ∃ z : sv_V, z = sv_I V 71 (1 : Int32).toNatClampNeg (V.1 71 (0 : Int32).toNatClampNeg) := ⟨_, rfl⟩
  have h := sx_letE hV1 h
  refine sv_iast (pc := 17) hG dX5_noteReferences_17 lay_71 (by decide) hV1 ?_
  refine sx_aload_n (pc := 18) dX5_noteReferences_18 sx_m0 ?_
  refine sv_getO (pc := 19) hG dX5_noteReferences_19 f_5_12 lay_69 rfl cr_69_1 ?_
  refine sv_getA (pc := 22) hG dX5_noteReferences_22 f_5_275 lay_70 rfl cr_70_6 ?_
  refine sx_iconst (pc := 25) (v := 2) dX5_noteReferences_25 (by decide) ?_
  refine sx_iload_n (pc := 26) dX5_noteReferences_26 sx_m1 ?_
  obtain ⟨V2, hV2⟩ : ∃ z : sv_V, z = sv_I V1 71 (2 : Int32).toNatClampNeg l1 := ⟨_, rfl⟩
  have h := sx_letE hV2 h
  refine sv_iast (pc := 27) hG dX5_noteReferences_27 lay_71 (by decide) hV2 ?_
  refine sx_iload_n (pc := 28) dX5_noteReferences_28 sx_m2 ?_
  refine sx_if_eq (pc := 29) (tgt := 42) dX5_noteReferences_29 (by decide) (fun c3 => ?_) (fun c3 => ?_)
  · have h := sx_pos c3 h
    exact sv_vret (pc := 42) dX5_noteReferences_42 rfl h hP
  · have h := sx_neg c3 h
    refine sx_aload_n (pc := 32) dX5_noteReferences_32 sx_m0 ?_
    refine sv_getO (pc := 33) hG dX5_noteReferences_33 f_5_12 lay_69 rfl cr_69_1 ?_
    refine sv_getA (pc := 36) hG dX5_noteReferences_36 f_5_275 lay_70 rfl cr_70_6 ?_
    refine sx_iconst (pc := 39) (v := 0) dX5_noteReferences_39 (by decide) ?_
    refine sx_iload_n (pc := 40) dX5_noteReferences_40 sx_m1 ?_
    obtain ⟨V4, hV4⟩ : ∃ z : sv_V, z = sv_I V2 71 (0 : Int32).toNatClampNeg l1 := ⟨_, rfl⟩
    have h := sx_letE hV4 h
    refine sv_iast (pc := 41) hG dX5_noteReferences_41 lay_71 (by decide) hV4 ?_
    exact sv_vret (pc := 42) dX5_noteReferences_42 rfl h hP
theorem dX6_forgetAll_0 : decode cX6_forgetAll 0 = .ok (.aload_n 0, 1) := by decide +kernel
theorem dX6_forgetAll_1 : decode cX6_forgetAll 1 = .ok (.iconst 0, 1) := by decide +kernel
theorem dX6_forgetAll_2 : decode cX6_forgetAll 2 = .ok (.putfield 54, 3) := by decide +kernel
theorem dX6_forgetAll_5 : decode cX6_forgetAll 5 = .ok (.aload_n 0, 1) := by decide +kernel
theorem dX6_forgetAll_6 : decode cX6_forgetAll 6 = .ok (.iconst 0, 1) := by decide +kernel
theorem dX6_forgetAll_7 : decode cX6_forgetAll 7 = .ok (.putfield 58, 3) := by decide +kernel
theorem dX6_forgetAll_10 : decode cX6_forgetAll 10 = .ok (.aload_n 0, 1) := by decide +kernel
theorem dX6_forgetAll_11 : decode cX6_forgetAll 11 = .ok (.getfield 47, 3) := by decide +kernel
theorem dX6_forgetAll_14 : decode cX6_forgetAll 14 = .ok (.iconst 0, 1) := by decide +kernel
theorem dX6_forgetAll_15 : decode cX6_forgetAll 15 = .ok (.putfield 62, 3) := by decide +kernel
theorem dX6_forgetAll_18 : decode cX6_forgetAll 18 = .ok (.return_, 1) := by decide +kernel
def F_X6_forgetAll  (V : sv_V) : Option sv_V := sx_let (sv_I V 30 7 (0 : Int32)) (fun V1 => sx_let (sv_I V1 30 8 (0 : Int32)) (fun V2 => sx_let (sv_I V2 69 16 (0 : Int32)) (fun V3 => some V3)))
set_option maxRecDepth 20000 in
theorem t_X6_forgetAll {g : sx_G} (hG : sx_Go g) {P : Option Value → sv_V → Prop} {Vr : sv_V} (hP : P none Vr)  {V : sv_V} (h : F_X6_forgetAll  V = some Vr) : sv_N g qX6_forgetAll 0 0 [(0, .ref 30)] [] V P := by
  unfold F_X6_forgetAll at h
  refine sx_aload_n (pc := 0) dX6_forgetAll_0 sx_m0 ?_
  refine sx_iconst (pc := 1) (v := 0) dX6_forgetAll_1 (by decide) ?_
  obtain ⟨V1, hV1⟩ : ∃ z : sv_V, z = sv_I V 30 7 (0 : Int32) := ⟨_, rfl⟩
  have h := sx_letE hV1 h
  refine sv_putI (pc := 2) hG dX6_forgetAll_2 f_6_54 lay_30 rfl hV1 ?_
  refine sx_aload_n (pc := 5) dX6_forgetAll_5 sx_m0 ?_
  refine sx_iconst (pc := 6) (v := 0) dX6_forgetAll_6 (by decide) ?_
  obtain ⟨V2, hV2⟩ : ∃ z : sv_V, z = sv_I V1 30 8 (0 : Int32) := ⟨_, rfl⟩
  have h := sx_letE hV2 h
  refine sv_putZ (pc := 7) hG dX6_forgetAll_7 f_6_58 lay_30 rfl rfl hV2 ?_
  refine sx_aload_n (pc := 10) dX6_forgetAll_10 sx_m0 ?_
  refine sv_getO (pc := 11) hG dX6_forgetAll_11 f_6_47 lay_30 rfl cr_30_2 ?_
  refine sx_iconst (pc := 14) (v := 0) dX6_forgetAll_14 (by decide) ?_
  obtain ⟨V3, hV3⟩ : ∃ z : sv_V, z = sv_I V2 69 16 (0 : Int32) := ⟨_, rfl⟩
  have h := sx_letE hV3 h
  refine sv_putI (pc := 15) hG dX6_forgetAll_15 f_6_62 lay_69 rfl hV3 ?_
  exact sv_vret (pc := 18) dX6_forgetAll_18 rfl h hP
theorem dX6_keptOf_0 : decode cX6_keptOf 0 = .ok (.aload_n 0, 1) := by decide +kernel
theorem dX6_keptOf_1 : decode cX6_keptOf 1 = .ok (.getfield 54, 3) := by decide +kernel
theorem dX6_keptOf_4 : decode cX6_keptOf 4 = .ok (.ifCond .ne 5, 3) := by decide +kernel
theorem dX6_keptOf_7 : decode cX6_keptOf 7 = .ok (.iconst 0, 1) := by decide +kernel
theorem dX6_keptOf_8 : decode cX6_keptOf 8 = .ok (.ireturn, 1) := by decide +kernel
theorem dX6_keptOf_9 : decode cX6_keptOf 9 = .ok (.aload_n 0, 1) := by decide +kernel
theorem dX6_keptOf_10 : decode cX6_keptOf 10 = .ok (.getfield 58, 3) := by decide +kernel
theorem dX6_keptOf_13 : decode cX6_keptOf 13 = .ok (.ifCond .eq 22, 3) := by decide +kernel
theorem dX6_keptOf_16 : decode cX6_keptOf 16 = .ok (.aload_n 0, 1) := by decide +kernel
theorem dX6_keptOf_17 : decode cX6_keptOf 17 = .ok (.getfield 65, 3) := by decide +kernel
theorem dX6_keptOf_20 : decode cX6_keptOf 20 = .ok (.ifCond .eq 15, 3) := by decide +kernel
theorem dX6_keptOf_23 : decode cX6_keptOf 23 = .ok (.aload_n 0, 1) := by decide +kernel
theorem dX6_keptOf_24 : decode cX6_keptOf 24 = .ok (.getfield 18, 3) := by decide +kernel
theorem dX6_keptOf_27 : decode cX6_keptOf 27 = .ok (.getfield 68, 3) := by decide +kernel
theorem dX6_keptOf_30 : decode cX6_keptOf 30 = .ok (.iload_n 1, 1) := by decide +kernel
theorem dX6_keptOf_31 : decode cX6_keptOf 31 = .ok (.iaload, 1) := by decide +kernel
theorem dX6_keptOf_32 : decode cX6_keptOf 32 = .ok (.goto 12, 3) := by decide +kernel
theorem dX6_keptOf_35 : decode cX6_keptOf 35 = .ok (.aload_n 0, 1) := by decide +kernel
theorem dX6_keptOf_36 : decode cX6_keptOf 36 = .ok (.getfield 12, 3) := by decide +kernel
theorem dX6_keptOf_39 : decode cX6_keptOf 39 = .ok (.getfield 68, 3) := by decide +kernel
theorem dX6_keptOf_42 : decode cX6_keptOf 42 = .ok (.iload_n 1, 1) := by decide +kernel
theorem dX6_keptOf_43 : decode cX6_keptOf 43 = .ok (.iaload, 1) := by decide +kernel
theorem dX6_keptOf_44 : decode cX6_keptOf 44 = .ok (.ireturn, 1) := by decide +kernel
def F_X6_keptOf (l1 : Int32) (V : sv_V) : Option (Int32 × sv_V) := if (V.1 30 7) = 0 then (some ((0 : Int32), V)) else (if (V.1 30 8) = 0 then (if sx_in l1 9 = true then some (V.1 44 l1.toNatClampNeg, V) else none) else (if (V.1 30 9) = 0 then (if sx_in l1 9 = true then some (V.1 44 l1.toNatClampNeg, V) else none) else (if sx_in l1 9 = true then some (V.1 58 l1.toNatClampNeg, V) else none)))
set_option maxRecDepth 20000 in
theorem t_X6_keptOf {g : sx_G} (hG : sx_Go g) {P : Option Value → sv_V → Prop} {r : Int32} {Vr : sv_V} (hP : P (some (.int r)) Vr) {l1 : Int32} {V : sv_V} (h : F_X6_keptOf l1 V = some (r, Vr)) : sv_N g qX6_keptOf 0 0 [(0, .ref 30), (1, .int l1)] [] V P := by
  unfold F_X6_keptOf at h
  refine sx_aload_n (pc := 0) dX6_keptOf_0 sx_m0 ?_
  refine sv_getI (pc := 1) hG dX6_keptOf_1 f_6_54 lay_30 rfl ?_
  refine sx_if_ne (pc := 4) (tgt := 9) dX6_keptOf_4 (by decide) (fun c1 => ?_) (fun c1 => ?_)
  · have h := sx_neg c1 h
    refine sx_aload_n (pc := 9) dX6_keptOf_9 sx_m0 ?_
    refine sv_getZ (pc := 10) hG dX6_keptOf_10 f_6_58 lay_30 rfl ?_
    refine sx_if_eq (pc := 13) (tgt := 35) dX6_keptOf_13 (by decide) (fun c2 => ?_) (fun c2 => ?_)
    · have h := sx_pos c2 h
      refine sx_aload_n (pc := 35) dX6_keptOf_35 sx_m0 ?_
      refine sv_getO (pc := 36) hG dX6_keptOf_36 f_6_12 lay_30 rfl cr_30_3 ?_
      refine sv_getA (pc := 39) hG dX6_keptOf_39 f_6_68 lay_31 rfl cr_31_5 ?_
      refine sx_iload_n (pc := 42) dX6_keptOf_42 sx_m1 ?_
      obtain ⟨g3, h⟩ := sx_grd h
      refine sv_iald (pc := 43) hG dX6_keptOf_43 lay_44 g3 ?_
      exact sv_iret (pc := 44) dX6_keptOf_44 rfl h hP
    · have h := sx_neg c2 h
      refine sx_aload_n (pc := 16) dX6_keptOf_16 sx_m0 ?_
      refine sv_getZ (pc := 17) hG dX6_keptOf_17 f_6_65 lay_30 rfl ?_
      refine sx_if_eq (pc := 20) (tgt := 35) dX6_keptOf_20 (by decide) (fun c4 => ?_) (fun c4 => ?_)
      · have h := sx_pos c4 h
        refine sx_aload_n (pc := 35) dX6_keptOf_35 sx_m0 ?_
        refine sv_getO (pc := 36) hG dX6_keptOf_36 f_6_12 lay_30 rfl cr_30_3 ?_
        refine sv_getA (pc := 39) hG dX6_keptOf_39 f_6_68 lay_31 rfl cr_31_5 ?_
        refine sx_iload_n (pc := 42) dX6_keptOf_42 sx_m1 ?_
        obtain ⟨g5, h⟩ := sx_grd h
        refine sv_iald (pc := 43) hG dX6_keptOf_43 lay_44 g5 ?_
        exact sv_iret (pc := 44) dX6_keptOf_44 rfl h hP
      · have h := sx_neg c4 h
        refine sx_aload_n (pc := 23) dX6_keptOf_23 sx_m0 ?_
        refine sv_getO (pc := 24) hG dX6_keptOf_24 f_6_18 lay_30 rfl cr_30_4 ?_
        refine sv_getA (pc := 27) hG dX6_keptOf_27 f_6_68 lay_45 rfl cr_45_5 ?_
        refine sx_iload_n (pc := 30) dX6_keptOf_30 sx_m1 ?_
        obtain ⟨g6, h⟩ := sx_grd h
        refine sv_iald (pc := 31) hG dX6_keptOf_31 lay_58 g6 ?_
        refine sx_goto (pc := 32) (tgt := 44) dX6_keptOf_32 (by decide) ?_
        exact sv_iret (pc := 44) dX6_keptOf_44 rfl h hP
  · have h := sx_pos c1 h
    refine sx_iconst (pc := 7) (v := 0) dX6_keptOf_7 (by decide) ?_
    exact sv_iret (pc := 8) dX6_keptOf_8 rfl h hP
theorem dX7_hasCvt_0 : decode cX7_hasCvt 0 = .ok (.iload_n 1, 1) := by decide +kernel
theorem dX7_hasCvt_1 : decode cX7_hasCvt 1 = .ok (.ifCond .lt 15, 3) := by decide +kernel
theorem dX7_hasCvt_4 : decode cX7_hasCvt 4 = .ok (.iload_n 1, 1) := by decide +kernel
theorem dX7_hasCvt_5 : decode cX7_hasCvt 5 = .ok (.aload_n 0, 1) := by decide +kernel
theorem dX7_hasCvt_6 : decode cX7_hasCvt 6 = .ok (.getfield 44, 3) := by decide +kernel
theorem dX7_hasCvt_9 : decode cX7_hasCvt 9 = .ok (.if_icmp .ge 7, 3) := by decide +kernel
theorem dX7_hasCvt_12 : decode cX7_hasCvt 12 = .ok (.iconst 1, 1) := by decide +kernel
theorem dX7_hasCvt_13 : decode cX7_hasCvt 13 = .ok (.goto 4, 3) := by decide +kernel
theorem dX7_hasCvt_16 : decode cX7_hasCvt 16 = .ok (.iconst 0, 1) := by decide +kernel
theorem dX7_hasCvt_17 : decode cX7_hasCvt 17 = .ok (.ireturn, 1) := by decide +kernel
def F_X7_hasCvt (l0 : Nat) (l1 : Int32) (V : sv_V) : Option (Int32 × sv_V) := if l1 < 0 then (some ((0 : Int32), V)) else (if lay l0 = .inl 7 then if (V.1 l0 1) ≤ l1 then (some ((0 : Int32), V)) else (some ((1 : Int32), V)) else none)
set_option maxRecDepth 20000 in
theorem t_X7_hasCvt {g : sx_G} (hG : sx_Go g) {P : Option Value → sv_V → Prop} {r : Int32} {Vr : sv_V} (hP : P (some (.int r)) Vr) {l0 : Nat} {l1 : Int32} {V : sv_V} (h : F_X7_hasCvt l0 l1 V = some (r, Vr)) : sv_N g qX7_hasCvt 0 0 [(0, .ref l0), (1, .int l1)] [] V P := by
  unfold F_X7_hasCvt at h
  refine sx_iload_n (pc := 0) dX7_hasCvt_0 sx_m1 ?_
  refine sx_if_lt (pc := 1) (tgt := 16) dX7_hasCvt_1 (by decide) (fun c1 => ?_) (fun c1 => ?_)
  · have h := sx_pos c1 h
    refine sx_iconst (pc := 16) (v := 0) dX7_hasCvt_16 (by decide) ?_
    exact sv_zret (pc := 17) dX7_hasCvt_17 rfl rfl h hP
  · have h := sx_neg c1 h
    refine sx_iload_n (pc := 4) dX7_hasCvt_4 sx_m1 ?_
    refine sx_aload_n (pc := 5) dX7_hasCvt_5 sx_m0 ?_
    obtain ⟨g2, h⟩ := sx_grd h
    refine sv_getI (pc := 6) hG dX7_hasCvt_6 f_7_44 g2 rfl ?_
    refine sx_icmp_ge (pc := 9) (tgt := 16) dX7_hasCvt_9 (by decide) (fun c3 => ?_) (fun c3 => ?_)
    · have h := sx_pos c3 h
      refine sx_iconst (pc := 16) (v := 0) dX7_hasCvt_16 (by decide) ?_
      exact sv_zret (pc := 17) dX7_hasCvt_17 rfl rfl h hP
    · have h := sx_neg c3 h
      refine sx_iconst (pc := 12) (v := 1) dX7_hasCvt_12 (by decide) ?_
      refine sx_goto (pc := 13) (tgt := 17) dX7_hasCvt_13 (by decide) ?_
      exact sv_zret (pc := 17) dX7_hasCvt_17 rfl rfl h hP
theorem dX7_hasStorage_0 : decode cX7_hasStorage 0 = .ok (.iload_n 1, 1) := by decide +kernel
theorem dX7_hasStorage_1 : decode cX7_hasStorage 1 = .ok (.ifCond .lt 15, 3) := by decide +kernel
theorem dX7_hasStorage_4 : decode cX7_hasStorage 4 = .ok (.iload_n 1, 1) := by decide +kernel
theorem dX7_hasStorage_5 : decode cX7_hasStorage 5 = .ok (.aload_n 0, 1) := by decide +kernel
theorem dX7_hasStorage_6 : decode cX7_hasStorage 6 = .ok (.getfield 67, 3) := by decide +kernel
theorem dX7_hasStorage_9 : decode cX7_hasStorage 9 = .ok (.if_icmp .ge 7, 3) := by decide +kernel
theorem dX7_hasStorage_12 : decode cX7_hasStorage 12 = .ok (.iconst 1, 1) := by decide +kernel
theorem dX7_hasStorage_13 : decode cX7_hasStorage 13 = .ok (.goto 4, 3) := by decide +kernel
theorem dX7_hasStorage_16 : decode cX7_hasStorage 16 = .ok (.iconst 0, 1) := by decide +kernel
theorem dX7_hasStorage_17 : decode cX7_hasStorage 17 = .ok (.ireturn, 1) := by decide +kernel
def F_X7_hasStorage (l0 : Nat) (l1 : Int32) (V : sv_V) : Option (Int32 × sv_V) := if l1 < 0 then (some ((0 : Int32), V)) else (if lay l0 = .inl 7 then if (V.1 l0 3) ≤ l1 then (some ((0 : Int32), V)) else (some ((1 : Int32), V)) else none)
set_option maxRecDepth 20000 in
theorem t_X7_hasStorage {g : sx_G} (hG : sx_Go g) {P : Option Value → sv_V → Prop} {r : Int32} {Vr : sv_V} (hP : P (some (.int r)) Vr) {l0 : Nat} {l1 : Int32} {V : sv_V} (h : F_X7_hasStorage l0 l1 V = some (r, Vr)) : sv_N g qX7_hasStorage 0 0 [(0, .ref l0), (1, .int l1)] [] V P := by
  unfold F_X7_hasStorage at h
  refine sx_iload_n (pc := 0) dX7_hasStorage_0 sx_m1 ?_
  refine sx_if_lt (pc := 1) (tgt := 16) dX7_hasStorage_1 (by decide) (fun c1 => ?_) (fun c1 => ?_)
  · have h := sx_pos c1 h
    refine sx_iconst (pc := 16) (v := 0) dX7_hasStorage_16 (by decide) ?_
    exact sv_zret (pc := 17) dX7_hasStorage_17 rfl rfl h hP
  · have h := sx_neg c1 h
    refine sx_iload_n (pc := 4) dX7_hasStorage_4 sx_m1 ?_
    refine sx_aload_n (pc := 5) dX7_hasStorage_5 sx_m0 ?_
    obtain ⟨g2, h⟩ := sx_grd h
    refine sv_getI (pc := 6) hG dX7_hasStorage_6 f_7_67 g2 rfl ?_
    refine sx_icmp_ge (pc := 9) (tgt := 16) dX7_hasStorage_9 (by decide) (fun c3 => ?_) (fun c3 => ?_)
    · have h := sx_pos c3 h
      refine sx_iconst (pc := 16) (v := 0) dX7_hasStorage_16 (by decide) ?_
      exact sv_zret (pc := 17) dX7_hasStorage_17 rfl rfl h hP
    · have h := sx_neg c3 h
      refine sx_iconst (pc := 12) (v := 1) dX7_hasStorage_12 (by decide) ?_
      refine sx_goto (pc := 13) (tgt := 17) dX7_hasStorage_13 (by decide) ?_
      exact sv_zret (pc := 17) dX7_hasStorage_17 rfl rfl h hP
theorem dX8_has_0 : decode cX8_has 0 = .ok (.iload_n 1, 1) := by decide +kernel
theorem dX8_has_1 : decode cX8_has 1 = .ok (.ifCond .lt 20, 3) := by decide +kernel
theorem dX8_has_4 : decode cX8_has 4 = .ok (.iload_n 1, 1) := by decide +kernel
theorem dX8_has_5 : decode cX8_has 5 = .ok (.aload_n 0, 1) := by decide +kernel
theorem dX8_has_6 : decode cX8_has 6 = .ok (.getfield 43, 3) := by decide +kernel
theorem dX8_has_9 : decode cX8_has 9 = .ok (.aload_n 0, 1) := by decide +kernel
theorem dX8_has_10 : decode cX8_has 10 = .ok (.getfield 39, 3) := by decide +kernel
theorem dX8_has_13 : decode cX8_has 13 = .ok (.iadd, 1) := by decide +kernel
theorem dX8_has_14 : decode cX8_has 14 = .ok (.if_icmp .ge 7, 3) := by decide +kernel
theorem dX8_has_17 : decode cX8_has 17 = .ok (.iconst 1, 1) := by decide +kernel
theorem dX8_has_18 : decode cX8_has 18 = .ok (.goto 4, 3) := by decide +kernel
theorem dX8_has_21 : decode cX8_has 21 = .ok (.iconst 0, 1) := by decide +kernel
theorem dX8_has_22 : decode cX8_has 22 = .ok (.ireturn, 1) := by decide +kernel
def F_X8_has (l0 : Nat) (l1 : Int32) (V : sv_V) : Option (Int32 × sv_V) := if l1 < 0 then (some ((0 : Int32), V)) else (if lay l0 = .inl 8 then if ((V.1 l0 9) + (V.1 l0 11)) ≤ l1 then (some ((0 : Int32), V)) else (some ((1 : Int32), V)) else none)
set_option maxRecDepth 20000 in
theorem t_X8_has {g : sx_G} (hG : sx_Go g) {P : Option Value → sv_V → Prop} {r : Int32} {Vr : sv_V} (hP : P (some (.int r)) Vr) {l0 : Nat} {l1 : Int32} {V : sv_V} (h : F_X8_has l0 l1 V = some (r, Vr)) : sv_N g qX8_has 0 0 [(0, .ref l0), (1, .int l1)] [] V P := by
  unfold F_X8_has at h
  refine sx_iload_n (pc := 0) dX8_has_0 sx_m1 ?_
  refine sx_if_lt (pc := 1) (tgt := 21) dX8_has_1 (by decide) (fun c1 => ?_) (fun c1 => ?_)
  · have h := sx_pos c1 h
    refine sx_iconst (pc := 21) (v := 0) dX8_has_21 (by decide) ?_
    exact sv_zret (pc := 22) dX8_has_22 rfl rfl h hP
  · have h := sx_neg c1 h
    refine sx_iload_n (pc := 4) dX8_has_4 sx_m1 ?_
    refine sx_aload_n (pc := 5) dX8_has_5 sx_m0 ?_
    obtain ⟨g2, h⟩ := sx_grd h
    refine sv_getI (pc := 6) hG dX8_has_6 f_8_43 g2 rfl ?_
    refine sx_aload_n (pc := 9) dX8_has_9 sx_m0 ?_
    refine sv_getI (pc := 10) hG dX8_has_10 f_8_39 g2 rfl ?_
    refine sx_iadd (pc := 13) dX8_has_13 ?_
    refine sx_icmp_ge (pc := 14) (tgt := 21) dX8_has_14 (by decide) (fun c3 => ?_) (fun c3 => ?_)
    · have h := sx_pos c3 h
      refine sx_iconst (pc := 21) (v := 0) dX8_has_21 (by decide) ?_
      exact sv_zret (pc := 22) dX8_has_22 rfl rfl h hP
    · have h := sx_neg c3 h
      refine sx_iconst (pc := 17) (v := 1) dX8_has_17 (by decide) ?_
      refine sx_goto (pc := 18) (tgt := 22) dX8_has_18 (by decide) ?_
      exact sv_zret (pc := 22) dX8_has_22 rfl rfl h hP
theorem dX8_firstOf_0 : decode cX8_firstOf 0 = .ok (.iload_n 1, 1) := by decide +kernel
theorem dX8_firstOf_1 : decode cX8_firstOf 1 = .ok (.ifCond .ne 7, 3) := by decide +kernel
theorem dX8_firstOf_4 : decode cX8_firstOf 4 = .ok (.iconst 0, 1) := by decide +kernel
theorem dX8_firstOf_5 : decode cX8_firstOf 5 = .ok (.goto 13, 3) := by decide +kernel
theorem dX8_firstOf_8 : decode cX8_firstOf 8 = .ok (.aload_n 0, 1) := by decide +kernel
theorem dX8_firstOf_9 : decode cX8_firstOf 9 = .ok (.getfield 9, 3) := by decide +kernel
theorem dX8_firstOf_12 : decode cX8_firstOf 12 = .ok (.iload_n 1, 1) := by decide +kernel
theorem dX8_firstOf_13 : decode cX8_firstOf 13 = .ok (.iconst 1, 1) := by decide +kernel
theorem dX8_firstOf_14 : decode cX8_firstOf 14 = .ok (.isub, 1) := by decide +kernel
theorem dX8_firstOf_15 : decode cX8_firstOf 15 = .ok (.iaload, 1) := by decide +kernel
theorem dX8_firstOf_16 : decode cX8_firstOf 16 = .ok (.iconst 1, 1) := by decide +kernel
theorem dX8_firstOf_17 : decode cX8_firstOf 17 = .ok (.iadd, 1) := by decide +kernel
theorem dX8_firstOf_18 : decode cX8_firstOf 18 = .ok (.ireturn, 1) := by decide +kernel
def F_X8_firstOf (l0 : Nat) (l1 : Int32) (V : sv_V) : Option (Int32 × sv_V) := if l1 = 0 then (some ((0 : Int32), V)) else (if lay l0 = .inl 8 then (cr l0 6).bind (fun b3 => (sv_len 0 b3).bind (fun n5 => if sx_in (l1 - (1 : Int32)) n5 = true then some ((V.1 b3 (l1 - (1 : Int32)).toNatClampNeg) + (1 : Int32), V) else none)) else none)
set_option maxRecDepth 20000 in
theorem t_X8_firstOf {g : sx_G} (hG : sx_Go g) {P : Option Value → sv_V → Prop} {r : Int32} {Vr : sv_V} (hP : P (some (.int r)) Vr) {l0 : Nat} {l1 : Int32} {V : sv_V} (h : F_X8_firstOf l0 l1 V = some (r, Vr)) : sv_N g qX8_firstOf 0 0 [(0, .ref l0), (1, .int l1)] [] V P := by
  unfold F_X8_firstOf at h
  refine sx_iload_n (pc := 0) dX8_firstOf_0 sx_m1 ?_
  refine sx_if_ne (pc := 1) (tgt := 8) dX8_firstOf_1 (by decide) (fun c1 => ?_) (fun c1 => ?_)
  · have h := sx_neg c1 h
    refine sx_aload_n (pc := 8) dX8_firstOf_8 sx_m0 ?_
    obtain ⟨g2, h⟩ := sx_grd h
    obtain ⟨b3, g4, h⟩ := sx_bnd h
    refine sv_getA (pc := 9) hG dX8_firstOf_9 f_8_9 g2 rfl g4 ?_
    refine sx_iload_n (pc := 12) dX8_firstOf_12 sx_m1 ?_
    refine sx_iconst (pc := 13) (v := 1) dX8_firstOf_13 (by decide) ?_
    refine sx_isub (pc := 14) dX8_firstOf_14 ?_
    obtain ⟨n5, g6, h⟩ := sx_bnd h
    obtain ⟨g7, h⟩ := sx_grd h
    refine sv_iald (pc := 15) hG dX8_firstOf_15 (sv_len_e g6) g7 ?_
    refine sx_iconst (pc := 16) (v := 1) dX8_firstOf_16 (by decide) ?_
    refine sx_iadd (pc := 17) dX8_firstOf_17 ?_
    exact sv_iret (pc := 18) dX8_firstOf_18 rfl h hP
  · have h := sx_pos c1 h
    refine sx_iconst (pc := 4) (v := 0) dX8_firstOf_4 (by decide) ?_
    refine sx_goto (pc := 5) (tgt := 18) dX8_firstOf_5 (by decide) ?_
    exact sv_iret (pc := 18) dX8_firstOf_18 rfl h hP
theorem dX8_contourOf_0 : decode cX8_contourOf 0 = .ok (.iconst 0, 1) := by decide +kernel
theorem dX8_contourOf_1 : decode cX8_contourOf 1 = .ok (.istore_n 2, 1) := by decide +kernel
theorem dX8_contourOf_2 : decode cX8_contourOf 2 = .ok (.iload_n 2, 1) := by decide +kernel
theorem dX8_contourOf_3 : decode cX8_contourOf 3 = .ok (.aload_n 0, 1) := by decide +kernel
theorem dX8_contourOf_4 : decode cX8_contourOf 4 = .ok (.getfield 46, 3) := by decide +kernel
theorem dX8_contourOf_7 : decode cX8_contourOf 7 = .ok (.if_icmp .ge 21, 3) := by decide +kernel
theorem dX8_contourOf_10 : decode cX8_contourOf 10 = .ok (.iload_n 1, 1) := by decide +kernel
theorem dX8_contourOf_11 : decode cX8_contourOf 11 = .ok (.aload_n 0, 1) := by decide +kernel
theorem dX8_contourOf_12 : decode cX8_contourOf 12 = .ok (.getfield 9, 3) := by decide +kernel
theorem dX8_contourOf_15 : decode cX8_contourOf 15 = .ok (.iload_n 2, 1) := by decide +kernel
theorem dX8_contourOf_16 : decode cX8_contourOf 16 = .ok (.iaload, 1) := by decide +kernel
theorem dX8_contourOf_17 : decode cX8_contourOf 17 = .ok (.if_icmp .gt 5, 3) := by decide +kernel
theorem dX8_contourOf_20 : decode cX8_contourOf 20 = .ok (.iload_n 2, 1) := by decide +kernel
theorem dX8_contourOf_21 : decode cX8_contourOf 21 = .ok (.ireturn, 1) := by decide +kernel
theorem dX8_contourOf_22 : decode cX8_contourOf 22 = .ok (.iinc 2 1, 3) := by decide +kernel
theorem dX8_contourOf_25 : decode cX8_contourOf 25 = .ok (.goto (-23), 3) := by decide +kernel
theorem dX8_contourOf_28 : decode cX8_contourOf 28 = .ok (.iconst 0, 1) := by decide +kernel
theorem dX8_contourOf_29 : decode cX8_contourOf 29 = .ok (.ireturn, 1) := by decide +kernel
def B_X8_contourOf_2 (N : Nat) (k2 : Nat → Int32 → Int32 → sv_V → Option (Int32 × sv_V)) (l0 : Nat) (l1 : Int32) (l2 : Int32) (V : sv_V) : Option (Int32 × sv_V) := if lay l0 = .inl 8 then if (V.1 l0 10) ≤ l2 then (some ((0 : Int32), V)) else ((cr l0 6).bind (fun b3 => (sv_len 0 b3).bind (fun n5 => if sx_in l2 n5 = true then if (V.1 b3 l2.toNatClampNeg) < l1 then (sx_let (l2 + 1) (fun x9 => k2 l0 l1 x9 V)) else (some (l2, V)) else none))) else none
set_option maxRecDepth 20000 in
theorem tB_X8_contourOf_2 {g : sx_G} (hG : sx_Go g) {P : Option Value → sv_V → Prop} {r : Int32} {Vr : sv_V} (hP : P (some (.int r)) Vr) {N : Nat} {k2 : Nat → Int32 → Int32 → sv_V → Option (Int32 × sv_V)} (hk2 : ∀ (l0 : Nat) (l1 : Int32) (l2 : Int32) (V : sv_V), k2 l0 l1 l2 V = some (r, Vr) → sv_N g qX8_contourOf 0 2 [(0, .ref l0), (1, .int l1), (2, .int l2)] [] V P) {l0 : Nat} {l1 : Int32} {l2 : Int32} {V : sv_V} (h : B_X8_contourOf_2 N k2 l0 l1 l2 V = some (r, Vr)) : sv_N g qX8_contourOf 0 2 [(0, .ref l0), (1, .int l1), (2, .int l2)] [] V P := by
  unfold B_X8_contourOf_2 at h
  refine sx_iload_n (pc := 2) dX8_contourOf_2 sx_m2 ?_
  refine sx_aload_n (pc := 3) dX8_contourOf_3 sx_m0 ?_
  obtain ⟨g1, h⟩ := sx_grd h
  refine sv_getI (pc := 4) hG dX8_contourOf_4 f_8_46 g1 rfl ?_
  refine sx_icmp_ge (pc := 7) (tgt := 28) dX8_contourOf_7 (by decide) (fun c2 => ?_) (fun c2 => ?_)
  · have h := sx_pos c2 h
    refine sx_iconst (pc := 28) (v := 0) dX8_contourOf_28 (by decide) ?_
    exact sv_iret (pc := 29) dX8_contourOf_29 rfl h hP
  · have h := sx_neg c2 h
    refine sx_iload_n (pc := 10) dX8_contourOf_10 sx_m1 ?_
    refine sx_aload_n (pc := 11) dX8_contourOf_11 sx_m0 ?_
    obtain ⟨b3, g4, h⟩ := sx_bnd h
    refine sv_getA (pc := 12) hG dX8_contourOf_12 f_8_9 g1 rfl g4 ?_
    refine sx_iload_n (pc := 15) dX8_contourOf_15 sx_m2 ?_
    obtain ⟨n5, g6, h⟩ := sx_bnd h
    obtain ⟨g7, h⟩ := sx_grd h
    refine sv_iald (pc := 16) hG dX8_contourOf_16 (sv_len_e g6) g7 ?_
    refine sx_icmp_gt (pc := 17) (tgt := 22) dX8_contourOf_17 (by decide) (fun c8 => ?_) (fun c8 => ?_)
    · have h := sx_pos c8 h
      obtain ⟨x9, hx9⟩ : ∃ z : Int32, z = l2 + 1 := ⟨_, rfl⟩
      have h := sx_letE hx9 h
      refine sx_iinc (pc := 22) (v := x9) (lo' := [(2, .int x9), (0, .ref l0), (1, .int l1)]) dX8_contourOf_22 sx_m2 (by rw [hx9]; rfl) (by decide) rfl ?_
      refine sx_goto (pc := 25) (tgt := 2) dX8_contourOf_25 (by decide) ?_
      refine sx_wk (sx_s1 sx_m1 (sx_s1 sx_m2 (sx_s1 sx_m0 sx_s0))) ?_
      exact hk2 _ _ _ _ h
    · have h := sx_neg c8 h
      refine sx_iload_n (pc := 20) dX8_contourOf_20 sx_m2 ?_
      exact sv_iret (pc := 21) dX8_contourOf_21 rfl h hP
theorem tL_X8_contourOf_2 {g : sx_G} (hG : sx_Go g) {P : Option Value → sv_V → Prop} {r : Int32} {Vr : sv_V} (hP : P (some (.int r)) Vr) {N : Nat}   : ∀ (n : Nat) (l0 : Nat) (l1 : Int32) (l2 : Int32) (V : sv_V), sx_lp4 (B_X8_contourOf_2 N ) n l0 l1 l2 V = some (r, Vr) → sv_N g qX8_contourOf 0 2 [(0, .ref l0), (1, .int l1), (2, .int l2)] [] V P :=
  sx_lp4_ind (fun k0 ih _ _ _ V h => tB_X8_contourOf_2 hG hP ih h)
def F_X8_contourOf (N : Nat) (l0 : Nat) (l1 : Int32) (V : sv_V) : Option (Int32 × sv_V) := sx_lp4 (B_X8_contourOf_2 N ) N l0 l1 (0 : Int32) V
set_option maxRecDepth 20000 in
theorem t_X8_contourOf {g : sx_G} (hG : sx_Go g) {P : Option Value → sv_V → Prop} {r : Int32} {Vr : sv_V} (hP : P (some (.int r)) Vr) {N : Nat} {l0 : Nat} {l1 : Int32} {V : sv_V} (h : F_X8_contourOf N l0 l1 V = some (r, Vr)) : sv_N g qX8_contourOf 0 0 [(0, .ref l0), (1, .int l1)] [] V P := by
  unfold F_X8_contourOf at h
  refine sx_iconst (pc := 0) (v := 0) dX8_contourOf_0 (by decide) ?_
  refine sx_istore_n (pc := 1) (lo' := [(2, .int (0 : Int32)), (0, .ref l0), (1, .int l1)]) dX8_contourOf_1 (by decide) rfl ?_
  refine sx_wk (sx_s1 sx_m1 (sx_s1 sx_m2 (sx_s1 sx_m0 sx_s0))) ?_
  exact tL_X8_contourOf_2 hG hP  N _ _ _ _ h
theorem dX8_copyFrom_0 : decode cX8_copyFrom 0 = .ok (.aload_n 0, 1) := by decide +kernel
theorem dX8_copyFrom_1 : decode cX8_copyFrom 1 = .ok (.aload_n 1, 1) := by decide +kernel
theorem dX8_copyFrom_2 : decode cX8_copyFrom 2 = .ok (.getfield 43, 3) := by decide +kernel
theorem dX8_copyFrom_5 : decode cX8_copyFrom 5 = .ok (.putfield 43, 3) := by decide +kernel
theorem dX8_copyFrom_8 : decode cX8_copyFrom 8 = .ok (.aload_n 1, 1) := by decide +kernel
theorem dX8_copyFrom_9 : decode cX8_copyFrom 9 = .ok (.getfield 21, 3) := by decide +kernel
theorem dX8_copyFrom_12 : decode cX8_copyFrom 12 = .ok (.iconst 0, 1) := by decide +kernel
theorem dX8_copyFrom_13 : decode cX8_copyFrom 13 = .ok (.aload_n 0, 1) := by decide +kernel
theorem dX8_copyFrom_14 : decode cX8_copyFrom 14 = .ok (.getfield 21, 3) := by decide +kernel
theorem dX8_copyFrom_17 : decode cX8_copyFrom 17 = .ok (.iconst 0, 1) := by decide +kernel
theorem dX8_copyFrom_18 : decode cX8_copyFrom 18 = .ok (.aload_n 0, 1) := by decide +kernel
theorem dX8_copyFrom_19 : decode cX8_copyFrom 19 = .ok (.getfield 43, 3) := by decide +kernel
theorem dX8_copyFrom_22 : decode cX8_copyFrom 22 = .ok (.invokestatic 55, 3) := by decide +kernel
theorem dX8_copyFrom_25 : decode cX8_copyFrom 25 = .ok (.aload_n 1, 1) := by decide +kernel
theorem dX8_copyFrom_26 : decode cX8_copyFrom 26 = .ok (.getfield 24, 3) := by decide +kernel
theorem dX8_copyFrom_29 : decode cX8_copyFrom 29 = .ok (.iconst 0, 1) := by decide +kernel
theorem dX8_copyFrom_30 : decode cX8_copyFrom 30 = .ok (.aload_n 0, 1) := by decide +kernel
theorem dX8_copyFrom_31 : decode cX8_copyFrom 31 = .ok (.getfield 24, 3) := by decide +kernel
theorem dX8_copyFrom_34 : decode cX8_copyFrom 34 = .ok (.iconst 0, 1) := by decide +kernel
theorem dX8_copyFrom_35 : decode cX8_copyFrom 35 = .ok (.aload_n 0, 1) := by decide +kernel
theorem dX8_copyFrom_36 : decode cX8_copyFrom 36 = .ok (.getfield 43, 3) := by decide +kernel
theorem dX8_copyFrom_39 : decode cX8_copyFrom 39 = .ok (.invokestatic 55, 3) := by decide +kernel
theorem dX8_copyFrom_42 : decode cX8_copyFrom 42 = .ok (.aload_n 1, 1) := by decide +kernel
theorem dX8_copyFrom_43 : decode cX8_copyFrom 43 = .ok (.getfield 27, 3) := by decide +kernel
theorem dX8_copyFrom_46 : decode cX8_copyFrom 46 = .ok (.iconst 0, 1) := by decide +kernel
theorem dX8_copyFrom_47 : decode cX8_copyFrom 47 = .ok (.aload_n 0, 1) := by decide +kernel
theorem dX8_copyFrom_48 : decode cX8_copyFrom 48 = .ok (.getfield 27, 3) := by decide +kernel
theorem dX8_copyFrom_51 : decode cX8_copyFrom 51 = .ok (.iconst 0, 1) := by decide +kernel
theorem dX8_copyFrom_52 : decode cX8_copyFrom 52 = .ok (.aload_n 0, 1) := by decide +kernel
theorem dX8_copyFrom_53 : decode cX8_copyFrom 53 = .ok (.getfield 43, 3) := by decide +kernel
theorem dX8_copyFrom_56 : decode cX8_copyFrom 56 = .ok (.invokestatic 55, 3) := by decide +kernel
theorem dX8_copyFrom_59 : decode cX8_copyFrom 59 = .ok (.aload_n 1, 1) := by decide +kernel
theorem dX8_copyFrom_60 : decode cX8_copyFrom 60 = .ok (.getfield 30, 3) := by decide +kernel
theorem dX8_copyFrom_63 : decode cX8_copyFrom 63 = .ok (.iconst 0, 1) := by decide +kernel
theorem dX8_copyFrom_64 : decode cX8_copyFrom 64 = .ok (.aload_n 0, 1) := by decide +kernel
theorem dX8_copyFrom_65 : decode cX8_copyFrom 65 = .ok (.getfield 30, 3) := by decide +kernel
theorem dX8_copyFrom_68 : decode cX8_copyFrom 68 = .ok (.iconst 0, 1) := by decide +kernel
theorem dX8_copyFrom_69 : decode cX8_copyFrom 69 = .ok (.aload_n 0, 1) := by decide +kernel
theorem dX8_copyFrom_70 : decode cX8_copyFrom 70 = .ok (.getfield 43, 3) := by decide +kernel
theorem dX8_copyFrom_73 : decode cX8_copyFrom 73 = .ok (.invokestatic 55, 3) := by decide +kernel
theorem dX8_copyFrom_76 : decode cX8_copyFrom 76 = .ok (.aload_n 1, 1) := by decide +kernel
theorem dX8_copyFrom_77 : decode cX8_copyFrom 77 = .ok (.getfield 33, 3) := by decide +kernel
theorem dX8_copyFrom_80 : decode cX8_copyFrom 80 = .ok (.iconst 0, 1) := by decide +kernel
theorem dX8_copyFrom_81 : decode cX8_copyFrom 81 = .ok (.aload_n 0, 1) := by decide +kernel
theorem dX8_copyFrom_82 : decode cX8_copyFrom 82 = .ok (.getfield 33, 3) := by decide +kernel
theorem dX8_copyFrom_85 : decode cX8_copyFrom 85 = .ok (.iconst 0, 1) := by decide +kernel
theorem dX8_copyFrom_86 : decode cX8_copyFrom 86 = .ok (.aload_n 0, 1) := by decide +kernel
theorem dX8_copyFrom_87 : decode cX8_copyFrom 87 = .ok (.getfield 43, 3) := by decide +kernel
theorem dX8_copyFrom_90 : decode cX8_copyFrom 90 = .ok (.invokestatic 55, 3) := by decide +kernel
theorem dX8_copyFrom_93 : decode cX8_copyFrom 93 = .ok (.return_, 1) := by decide +kernel
def F_X8_copyFrom (l0 : Nat) (l1 : Nat) (V : sv_V) : Option sv_V := if lay l1 = .inl 8 then if lay l0 = .inl 8 then sx_let (sv_I V l0 9 (V.1 l1 9)) (fun V3 => (cr l1 0).bind (fun b4 => (cr l0 0).bind (fun b6 => (sv_len 0 b4).bind (fun n8 => (sv_len 0 b6).bind (fun n10 => if sv_cpo (0 : Int32) (V3.1 l0 9) n8 = true then if sv_cpo (0 : Int32) (V3.1 l0 9) n10 = true then sx_let (sv_C V3 b4 (0 : Int32).toNatClampNeg b6 (0 : Int32).toNatClampNeg (V3.1 l0 9).toNatClampNeg) (fun V14 => (cr l1 1).bind (fun b15 => (cr l0 1).bind (fun b17 => (sv_len 0 b15).bind (fun n19 => (sv_len 0 b17).bind (fun n21 => if sv_cpo (0 : Int32) (V14.1 l0 9) n19 = true then if sv_cpo (0 : Int32) (V14.1 l0 9) n21 = true then sx_let (sv_C V14 b15 (0 : Int32).toNatClampNeg b17 (0 : Int32).toNatClampNeg (V14.1 l0 9).toNatClampNeg) (fun V25 => (cr l1 2).bind (fun b26 => (cr l0 2).bind (fun b28 => (sv_len 0 b26).bind (fun n30 => (sv_len 0 b28).bind (fun n32 => if sv_cpo (0 : Int32) (V25.1 l0 9) n30 = true then if sv_cpo (0 : Int32) (V25.1 l0 9) n32 = true then sx_let (sv_C V25 b26 (0 : Int32).toNatClampNeg b28 (0 : Int32).toNatClampNeg (V25.1 l0 9).toNatClampNeg) (fun V36 => (cr l1 3).bind (fun b37 => (cr l0 3).bind (fun b39 => (sv_len 0 b37).bind (fun n41 => (sv_len 0 b39).bind (fun n43 => if sv_cpo (0 : Int32) (V36.1 l0 9) n41 = true then if sv_cpo (0 : Int32) (V36.1 l0 9) n43 = true then sx_let (sv_C V36 b37 (0 : Int32).toNatClampNeg b39 (0 : Int32).toNatClampNeg (V36.1 l0 9).toNatClampNeg) (fun V47 => (cr l1 4).bind (fun b48 => (cr l0 4).bind (fun b50 => (sv_len 0 b48).bind (fun n52 => (sv_len 0 b50).bind (fun n54 => if sv_cpo (0 : Int32) (V47.1 l0 9) n52 = true then if sv_cpo (0 : Int32) (V47.1 l0 9) n54 = true then sx_let (sv_C V47 b48 (0 : Int32).toNatClampNeg b50 (0 : Int32).toNatClampNeg (V47.1 l0 9).toNatClampNeg) (fun V58 => some V58) else none else none))))) else none else none))))) else none else none))))) else none else none))))) else none else none))))) else none else none
set_option maxRecDepth 20000 in
theorem t_X8_copyFrom {g : sx_G} (hG : sx_Go g) {P : Option Value → sv_V → Prop} {Vr : sv_V} (hP : P none Vr) {l0 : Nat} {l1 : Nat} {V : sv_V} (h : F_X8_copyFrom l0 l1 V = some Vr) : sv_N g qX8_copyFrom 1 0 [(0, .ref l0), (1, .ref l1)] [] V P := by
  unfold F_X8_copyFrom at h
  refine sx_aload_n (pc := 0) dX8_copyFrom_0 sx_m0 ?_
  refine sx_aload_n (pc := 1) dX8_copyFrom_1 sx_m1 ?_
  obtain ⟨g1, h⟩ := sx_grd h
  refine sv_getI (pc := 2) hG dX8_copyFrom_2 f_8_43 g1 rfl ?_
  obtain ⟨g2, h⟩ := sx_grd h
  obtain ⟨V3, hV3⟩ : ∃ z : sv_V, z = sv_I V l0 9 (V.1 l1 9) := ⟨_, rfl⟩
  have h := sx_letE hV3 h
  refine sv_putI (pc := 5) hG dX8_copyFrom_5 f_8_43 g2 rfl hV3 ?_
  refine sx_aload_n (pc := 8) dX8_copyFrom_8 sx_m1 ?_
  obtain ⟨b4, g5, h⟩ := sx_bnd h
  refine sv_getA (pc := 9) hG dX8_copyFrom_9 f_8_21 g1 rfl g5 ?_
  refine sx_iconst (pc := 12) (v := 0) dX8_copyFrom_12 (by decide) ?_
  refine sx_aload_n (pc := 13) dX8_copyFrom_13 sx_m0 ?_
  obtain ⟨b6, g7, h⟩ := sx_bnd h
  refine sv_getA (pc := 14) hG dX8_copyFrom_14 f_8_21 g2 rfl g7 ?_
  refine sx_iconst (pc := 17) (v := 0) dX8_copyFrom_17 (by decide) ?_
  refine sx_aload_n (pc := 18) dX8_copyFrom_18 sx_m0 ?_
  refine sv_getI (pc := 19) hG dX8_copyFrom_19 f_8_43 g2 rfl ?_
  obtain ⟨n8, g9, h⟩ := sx_bnd h
  obtain ⟨n10, g11, h⟩ := sx_bnd h
  obtain ⟨g12, h⟩ := sx_grd h
  obtain ⟨g13, h⟩ := sx_grd h
  obtain ⟨V14, hV14⟩ : ∃ z : sv_V, z = sv_C V3 b4 (0 : Int32).toNatClampNeg b6 (0 : Int32).toNatClampNeg (V3.1 l0 9).toNatClampNeg := ⟨_, rfl⟩
  have h := sx_letE hV14 h
  refine sv_copyI (pc := 22) hG dX8_copyFrom_22 l_X8_55 (sv_len_e g9) (sv_len_e g11) g12 g13 (by decide) (Nat.le_of_ble_eq_true rfl) hV14 ?_
  refine sx_aload_n (pc := 25) dX8_copyFrom_25 sx_m1 ?_
  obtain ⟨b15, g16, h⟩ := sx_bnd h
  refine sv_getA (pc := 26) hG dX8_copyFrom_26 f_8_24 g1 rfl g16 ?_
  refine sx_iconst (pc := 29) (v := 0) dX8_copyFrom_29 (by decide) ?_
  refine sx_aload_n (pc := 30) dX8_copyFrom_30 sx_m0 ?_
  obtain ⟨b17, g18, h⟩ := sx_bnd h
  refine sv_getA (pc := 31) hG dX8_copyFrom_31 f_8_24 g2 rfl g18 ?_
  refine sx_iconst (pc := 34) (v := 0) dX8_copyFrom_34 (by decide) ?_
  refine sx_aload_n (pc := 35) dX8_copyFrom_35 sx_m0 ?_
  refine sv_getI (pc := 36) hG dX8_copyFrom_36 f_8_43 g2 rfl ?_
  obtain ⟨n19, g20, h⟩ := sx_bnd h
  obtain ⟨n21, g22, h⟩ := sx_bnd h
  obtain ⟨g23, h⟩ := sx_grd h
  obtain ⟨g24, h⟩ := sx_grd h
  obtain ⟨V25, hV25⟩ : ∃ z : sv_V, z = sv_C V14 b15 (0 : Int32).toNatClampNeg b17 (0 : Int32).toNatClampNeg (V14.1 l0 9).toNatClampNeg := ⟨_, rfl⟩
  have h := sx_letE hV25 h
  refine sv_copyI (pc := 39) hG dX8_copyFrom_39 l_X8_55 (sv_len_e g20) (sv_len_e g22) g23 g24 (by decide) (Nat.le_of_ble_eq_true rfl) hV25 ?_
  refine sx_aload_n (pc := 42) dX8_copyFrom_42 sx_m1 ?_
  obtain ⟨b26, g27, h⟩ := sx_bnd h
  refine sv_getA (pc := 43) hG dX8_copyFrom_43 f_8_27 g1 rfl g27 ?_
  refine sx_iconst (pc := 46) (v := 0) dX8_copyFrom_46 (by decide) ?_
  refine sx_aload_n (pc := 47) dX8_copyFrom_47 sx_m0 ?_
  obtain ⟨b28, g29, h⟩ := sx_bnd h
  refine sv_getA (pc := 48) hG dX8_copyFrom_48 f_8_27 g2 rfl g29 ?_
  refine sx_iconst (pc := 51) (v := 0) dX8_copyFrom_51 (by decide) ?_
  refine sx_aload_n (pc := 52) dX8_copyFrom_52 sx_m0 ?_
  refine sv_getI (pc := 53) hG dX8_copyFrom_53 f_8_43 g2 rfl ?_
  obtain ⟨n30, g31, h⟩ := sx_bnd h
  obtain ⟨n32, g33, h⟩ := sx_bnd h
  obtain ⟨g34, h⟩ := sx_grd h
  obtain ⟨g35, h⟩ := sx_grd h
  obtain ⟨V36, hV36⟩ : ∃ z : sv_V, z = sv_C V25 b26 (0 : Int32).toNatClampNeg b28 (0 : Int32).toNatClampNeg (V25.1 l0 9).toNatClampNeg := ⟨_, rfl⟩
  have h := sx_letE hV36 h
  refine sv_copyI (pc := 56) hG dX8_copyFrom_56 l_X8_55 (sv_len_e g31) (sv_len_e g33) g34 g35 (by decide) (Nat.le_of_ble_eq_true rfl) hV36 ?_
  refine sx_aload_n (pc := 59) dX8_copyFrom_59 sx_m1 ?_
  obtain ⟨b37, g38, h⟩ := sx_bnd h
  refine sv_getA (pc := 60) hG dX8_copyFrom_60 f_8_30 g1 rfl g38 ?_
  refine sx_iconst (pc := 63) (v := 0) dX8_copyFrom_63 (by decide) ?_
  refine sx_aload_n (pc := 64) dX8_copyFrom_64 sx_m0 ?_
  obtain ⟨b39, g40, h⟩ := sx_bnd h
  refine sv_getA (pc := 65) hG dX8_copyFrom_65 f_8_30 g2 rfl g40 ?_
  refine sx_iconst (pc := 68) (v := 0) dX8_copyFrom_68 (by decide) ?_
  refine sx_aload_n (pc := 69) dX8_copyFrom_69 sx_m0 ?_
  refine sv_getI (pc := 70) hG dX8_copyFrom_70 f_8_43 g2 rfl ?_
  obtain ⟨n41, g42, h⟩ := sx_bnd h
  obtain ⟨n43, g44, h⟩ := sx_bnd h
  obtain ⟨g45, h⟩ := sx_grd h
  obtain ⟨g46, h⟩ := sx_grd h
  obtain ⟨V47, hV47⟩ : ∃ z : sv_V, z = sv_C V36 b37 (0 : Int32).toNatClampNeg b39 (0 : Int32).toNatClampNeg (V36.1 l0 9).toNatClampNeg := ⟨_, rfl⟩
  have h := sx_letE hV47 h
  refine sv_copyI (pc := 73) hG dX8_copyFrom_73 l_X8_55 (sv_len_e g42) (sv_len_e g44) g45 g46 (by decide) (Nat.le_of_ble_eq_true rfl) hV47 ?_
  refine sx_aload_n (pc := 76) dX8_copyFrom_76 sx_m1 ?_
  obtain ⟨b48, g49, h⟩ := sx_bnd h
  refine sv_getA (pc := 77) hG dX8_copyFrom_77 f_8_33 g1 rfl g49 ?_
  refine sx_iconst (pc := 80) (v := 0) dX8_copyFrom_80 (by decide) ?_
  refine sx_aload_n (pc := 81) dX8_copyFrom_81 sx_m0 ?_
  obtain ⟨b50, g51, h⟩ := sx_bnd h
  refine sv_getA (pc := 82) hG dX8_copyFrom_82 f_8_33 g2 rfl g51 ?_
  refine sx_iconst (pc := 85) (v := 0) dX8_copyFrom_85 (by decide) ?_
  refine sx_aload_n (pc := 86) dX8_copyFrom_86 sx_m0 ?_
  refine sv_getI (pc := 87) hG dX8_copyFrom_87 f_8_43 g2 rfl ?_
  obtain ⟨n52, g53, h⟩ := sx_bnd h
  obtain ⟨n54, g55, h⟩ := sx_bnd h
  obtain ⟨g56, h⟩ := sx_grd h
  obtain ⟨g57, h⟩ := sx_grd h
  obtain ⟨V58, hV58⟩ : ∃ z : sv_V, z = sv_C V47 b48 (0 : Int32).toNatClampNeg b50 (0 : Int32).toNatClampNeg (V47.1 l0 9).toNatClampNeg := ⟨_, rfl⟩
  have h := sx_letE hV58 h
  refine sv_copyI (pc := 90) hG dX8_copyFrom_90 l_X8_55 (sv_len_e g53) (sv_len_e g55) g56 g57 (by decide) (Nat.le_of_ble_eq_true rfl) hV58 ?_
  exact sv_vret (pc := 93) dX8_copyFrom_93 rfl h hP
theorem dX8_endProgram_0 : decode cX8_endProgram 0 = .ok (.iconst 0, 1) := by decide +kernel
theorem dX8_endProgram_1 : decode cX8_endProgram 1 = .ok (.istore_n 1, 1) := by decide +kernel
theorem dX8_endProgram_2 : decode cX8_endProgram 2 = .ok (.iload_n 1, 1) := by decide +kernel
theorem dX8_endProgram_3 : decode cX8_endProgram 3 = .ok (.aload_n 0, 1) := by decide +kernel
theorem dX8_endProgram_4 : decode cX8_endProgram 4 = .ok (.getfield 39, 3) := by decide +kernel
theorem dX8_endProgram_7 : decode cX8_endProgram 7 = .ok (.if_icmp .ge 43, 3) := by decide +kernel
theorem dX8_endProgram_10 : decode cX8_endProgram 10 = .ok (.aload_n 0, 1) := by decide +kernel
theorem dX8_endProgram_11 : decode cX8_endProgram 11 = .ok (.getfield 15, 3) := by decide +kernel
theorem dX8_endProgram_14 : decode cX8_endProgram 14 = .ok (.iload_n 1, 1) := by decide +kernel
theorem dX8_endProgram_15 : decode cX8_endProgram 15 = .ok (.aload_n 0, 1) := by decide +kernel
theorem dX8_endProgram_16 : decode cX8_endProgram 16 = .ok (.getfield 21, 3) := by decide +kernel
theorem dX8_endProgram_19 : decode cX8_endProgram 19 = .ok (.aload_n 0, 1) := by decide +kernel
theorem dX8_endProgram_20 : decode cX8_endProgram 20 = .ok (.getfield 43, 3) := by decide +kernel
theorem dX8_endProgram_23 : decode cX8_endProgram 23 = .ok (.iload_n 1, 1) := by decide +kernel
theorem dX8_endProgram_24 : decode cX8_endProgram 24 = .ok (.iadd, 1) := by decide +kernel
theorem dX8_endProgram_25 : decode cX8_endProgram 25 = .ok (.iaload, 1) := by decide +kernel
theorem dX8_endProgram_26 : decode cX8_endProgram 26 = .ok (.iastore, 1) := by decide +kernel
theorem dX8_endProgram_27 : decode cX8_endProgram 27 = .ok (.aload_n 0, 1) := by decide +kernel
theorem dX8_endProgram_28 : decode cX8_endProgram 28 = .ok (.getfield 18, 3) := by decide +kernel
theorem dX8_endProgram_31 : decode cX8_endProgram 31 = .ok (.iload_n 1, 1) := by decide +kernel
theorem dX8_endProgram_32 : decode cX8_endProgram 32 = .ok (.aload_n 0, 1) := by decide +kernel
theorem dX8_endProgram_33 : decode cX8_endProgram 33 = .ok (.getfield 24, 3) := by decide +kernel
theorem dX8_endProgram_36 : decode cX8_endProgram 36 = .ok (.aload_n 0, 1) := by decide +kernel
theorem dX8_endProgram_37 : decode cX8_endProgram 37 = .ok (.getfield 43, 3) := by decide +kernel
theorem dX8_endProgram_40 : decode cX8_endProgram 40 = .ok (.iload_n 1, 1) := by decide +kernel
theorem dX8_endProgram_41 : decode cX8_endProgram 41 = .ok (.iadd, 1) := by decide +kernel
theorem dX8_endProgram_42 : decode cX8_endProgram 42 = .ok (.iaload, 1) := by decide +kernel
theorem dX8_endProgram_43 : decode cX8_endProgram 43 = .ok (.iastore, 1) := by decide +kernel
theorem dX8_endProgram_44 : decode cX8_endProgram 44 = .ok (.iinc 1 1, 3) := by decide +kernel
theorem dX8_endProgram_47 : decode cX8_endProgram 47 = .ok (.goto (-45), 3) := by decide +kernel
theorem dX8_endProgram_50 : decode cX8_endProgram 50 = .ok (.return_, 1) := by decide +kernel
def B_X8_endProgram_2 (N : Nat) (k2 : Nat → Int32 → sv_V → Option sv_V) (l0 : Nat) (l1 : Int32) (V : sv_V) : Option sv_V := if lay l0 = .inl 8 then if (V.1 l0 11) ≤ l1 then (some V) else ((cr l0 7).bind (fun b3 => (cr l0 0).bind (fun b5 => (sv_len 0 b5).bind (fun n7 => if sx_in ((V.1 l0 9) + l1) n7 = true then (sv_len 0 b3).bind (fun n10 => if sx_in l1 n10 = true then sx_let (sv_I V b3 l1.toNatClampNeg (V.1 b5 ((V.1 l0 9) + l1).toNatClampNeg)) (fun V13 => (cr l0 8).bind (fun b14 => (cr l0 1).bind (fun b16 => (sv_len 0 b16).bind (fun n18 => if sx_in ((V13.1 l0 9) + l1) n18 = true then (sv_len 0 b14).bind (fun n21 => if sx_in l1 n21 = true then sx_let (sv_I V13 b14 l1.toNatClampNeg (V13.1 b16 ((V13.1 l0 9) + l1).toNatClampNeg)) (fun V24 => sx_let (l1 + 1) (fun x25 => k2 l0 x25 V24)) else none) else none)))) else none) else none)))) else none
set_option maxRecDepth 20000 in
theorem tB_X8_endProgram_2 {g : sx_G} (hG : sx_Go g) {P : Option Value → sv_V → Prop} {Vr : sv_V} (hP : P none Vr) {N : Nat} {k2 : Nat → Int32 → sv_V → Option sv_V} (hk2 : ∀ (l0 : Nat) (l1 : Int32) (V : sv_V), k2 l0 l1 V = some Vr → sv_N g qX8_endProgram 0 2 [(0, .ref l0), (1, .int l1)] [] V P) {l0 : Nat} {l1 : Int32} {V : sv_V} (h : B_X8_endProgram_2 N k2 l0 l1 V = some Vr) : sv_N g qX8_endProgram 0 2 [(0, .ref l0), (1, .int l1)] [] V P := by
  unfold B_X8_endProgram_2 at h
  refine sx_iload_n (pc := 2) dX8_endProgram_2 sx_m1 ?_
  refine sx_aload_n (pc := 3) dX8_endProgram_3 sx_m0 ?_
  obtain ⟨g1, h⟩ := sx_grd h
  refine sv_getI (pc := 4) hG dX8_endProgram_4 f_8_39 g1 rfl ?_
  refine sx_icmp_ge (pc := 7) (tgt := 50) dX8_endProgram_7 (by decide) (fun c2 => ?_) (fun c2 => ?_)
  · have h := sx_pos c2 h
    exact sv_vret (pc := 50) dX8_endProgram_50 rfl h hP
  · have h := sx_neg c2 h
    refine sx_aload_n (pc := 10) dX8_endProgram_10 sx_m0 ?_
    obtain ⟨b3, g4, h⟩ := sx_bnd h
    refine sv_getA (pc := 11) hG dX8_endProgram_11 f_8_15 g1 rfl g4 ?_
    refine sx_iload_n (pc := 14) dX8_endProgram_14 sx_m1 ?_
    refine sx_aload_n (pc := 15) dX8_endProgram_15 sx_m0 ?_
    obtain ⟨b5, g6, h⟩ := sx_bnd h
    refine sv_getA (pc := 16) hG dX8_endProgram_16 f_8_21 g1 rfl g6 ?_
    refine sx_aload_n (pc := 19) dX8_endProgram_19 sx_m0 ?_
    refine sv_getI (pc := 20) hG dX8_endProgram_20 f_8_43 g1 rfl ?_
    refine sx_iload_n (pc := 23) dX8_endProgram_23 sx_m1 ?_
    refine sx_iadd (pc := 24) dX8_endProgram_24 ?_
    obtain ⟨n7, g8, h⟩ := sx_bnd h
    obtain ⟨g9, h⟩ := sx_grd h
    refine sv_iald (pc := 25) hG dX8_endProgram_25 (sv_len_e g8) g9 ?_
    obtain ⟨n10, g11, h⟩ := sx_bnd h
    obtain ⟨g12, h⟩ := sx_grd h
    obtain ⟨V13, hV13⟩ : ∃ z : sv_V, z = sv_I V b3 l1.toNatClampNeg (V.1 b5 ((V.1 l0 9) + l1).toNatClampNeg) := ⟨_, rfl⟩
    have h := sx_letE hV13 h
    refine sv_iast (pc := 26) hG dX8_endProgram_26 (sv_len_e g11) g12 hV13 ?_
    refine sx_aload_n (pc := 27) dX8_endProgram_27 sx_m0 ?_
    obtain ⟨b14, g15, h⟩ := sx_bnd h
    refine sv_getA (pc := 28) hG dX8_endProgram_28 f_8_18 g1 rfl g15 ?_
    refine sx_iload_n (pc := 31) dX8_endProgram_31 sx_m1 ?_
    refine sx_aload_n (pc := 32) dX8_endProgram_32 sx_m0 ?_
    obtain ⟨b16, g17, h⟩ := sx_bnd h
    refine sv_getA (pc := 33) hG dX8_endProgram_33 f_8_24 g1 rfl g17 ?_
    refine sx_aload_n (pc := 36) dX8_endProgram_36 sx_m0 ?_
    refine sv_getI (pc := 37) hG dX8_endProgram_37 f_8_43 g1 rfl ?_
    refine sx_iload_n (pc := 40) dX8_endProgram_40 sx_m1 ?_
    refine sx_iadd (pc := 41) dX8_endProgram_41 ?_
    obtain ⟨n18, g19, h⟩ := sx_bnd h
    obtain ⟨g20, h⟩ := sx_grd h
    refine sv_iald (pc := 42) hG dX8_endProgram_42 (sv_len_e g19) g20 ?_
    obtain ⟨n21, g22, h⟩ := sx_bnd h
    obtain ⟨g23, h⟩ := sx_grd h
    obtain ⟨V24, hV24⟩ : ∃ z : sv_V, z = sv_I V13 b14 l1.toNatClampNeg (V13.1 b16 ((V13.1 l0 9) + l1).toNatClampNeg) := ⟨_, rfl⟩
    have h := sx_letE hV24 h
    refine sv_iast (pc := 43) hG dX8_endProgram_43 (sv_len_e g22) g23 hV24 ?_
    obtain ⟨x25, hx25⟩ : ∃ z : Int32, z = l1 + 1 := ⟨_, rfl⟩
    have h := sx_letE hx25 h
    refine sx_iinc (pc := 44) (v := x25) (lo' := [(1, .int x25), (0, .ref l0)]) dX8_endProgram_44 sx_m1 (by rw [hx25]; rfl) (by decide) rfl ?_
    refine sx_goto (pc := 47) (tgt := 2) dX8_endProgram_47 (by decide) ?_
    refine sx_wk (sx_s1 sx_m1 (sx_s1 sx_m0 sx_s0)) ?_
    exact hk2 _ _ _ h
theorem tL_X8_endProgram_2 {g : sx_G} (hG : sx_Go g) {P : Option Value → sv_V → Prop} {Vr : sv_V} (hP : P none Vr) {N : Nat}   : ∀ (n : Nat) (l0 : Nat) (l1 : Int32) (V : sv_V), sx_lp3 (B_X8_endProgram_2 N ) n l0 l1 V = some Vr → sv_N g qX8_endProgram 0 2 [(0, .ref l0), (1, .int l1)] [] V P :=
  sx_lp3_ind (fun k0 ih _ _ V h => tB_X8_endProgram_2 hG hP ih h)
def F_X8_endProgram (N : Nat) (l0 : Nat) (V : sv_V) : Option sv_V := sx_lp3 (B_X8_endProgram_2 N ) N l0 (0 : Int32) V
set_option maxRecDepth 20000 in
theorem t_X8_endProgram {g : sx_G} (hG : sx_Go g) {P : Option Value → sv_V → Prop} {Vr : sv_V} (hP : P none Vr) {N : Nat} {l0 : Nat} {V : sv_V} (h : F_X8_endProgram N l0 V = some Vr) : sv_N g qX8_endProgram 0 0 [(0, .ref l0)] [] V P := by
  unfold F_X8_endProgram at h
  refine sx_iconst (pc := 0) (v := 0) dX8_endProgram_0 (by decide) ?_
  refine sx_istore_n (pc := 1) (lo' := [(1, .int (0 : Int32)), (0, .ref l0)]) dX8_endProgram_1 (by decide) rfl ?_
  refine sx_wk (sx_s1 sx_m1 (sx_s1 sx_m0 sx_s0)) ?_
  exact tL_X8_endProgram_2 hG hP  N _ _ _ h
theorem dX8_shift_0 : decode cX8_shift 0 = .ok (.iload_n 1, 1) := by decide +kernel
theorem dX8_shift_1 : decode cX8_shift 1 = .ok (.istore 4, 2) := by decide +kernel
theorem dX8_shift_3 : decode cX8_shift 3 = .ok (.iload 4, 2) := by decide +kernel
theorem dX8_shift_5 : decode cX8_shift 5 = .ok (.aload_n 0, 1) := by decide +kernel
theorem dX8_shift_6 : decode cX8_shift 6 = .ok (.getfield 43, 3) := by decide +kernel
theorem dX8_shift_9 : decode cX8_shift 9 = .ok (.if_icmp .ge 31, 3) := by decide +kernel
theorem dX8_shift_12 : decode cX8_shift 12 = .ok (.aload_n 0, 1) := by decide +kernel
theorem dX8_shift_13 : decode cX8_shift 13 = .ok (.getfield 21, 3) := by decide +kernel
theorem dX8_shift_16 : decode cX8_shift 16 = .ok (.iload 4, 2) := by decide +kernel
theorem dX8_shift_18 : decode cX8_shift 18 = .ok (.dup2, 1) := by decide +kernel
theorem dX8_shift_19 : decode cX8_shift 19 = .ok (.iaload, 1) := by decide +kernel
theorem dX8_shift_20 : decode cX8_shift 20 = .ok (.iload_n 2, 1) := by decide +kernel
theorem dX8_shift_21 : decode cX8_shift 21 = .ok (.iadd, 1) := by decide +kernel
theorem dX8_shift_22 : decode cX8_shift 22 = .ok (.iastore, 1) := by decide +kernel
theorem dX8_shift_23 : decode cX8_shift 23 = .ok (.aload_n 0, 1) := by decide +kernel
theorem dX8_shift_24 : decode cX8_shift 24 = .ok (.getfield 24, 3) := by decide +kernel
theorem dX8_shift_27 : decode cX8_shift 27 = .ok (.iload 4, 2) := by decide +kernel
theorem dX8_shift_29 : decode cX8_shift 29 = .ok (.dup2, 1) := by decide +kernel
theorem dX8_shift_30 : decode cX8_shift 30 = .ok (.iaload, 1) := by decide +kernel
theorem dX8_shift_31 : decode cX8_shift 31 = .ok (.iload_n 3, 1) := by decide +kernel
theorem dX8_shift_32 : decode cX8_shift 32 = .ok (.iadd, 1) := by decide +kernel
theorem dX8_shift_33 : decode cX8_shift 33 = .ok (.iastore, 1) := by decide +kernel
theorem dX8_shift_34 : decode cX8_shift 34 = .ok (.iinc 4 1, 3) := by decide +kernel
theorem dX8_shift_37 : decode cX8_shift 37 = .ok (.goto (-34), 3) := by decide +kernel
theorem dX8_shift_40 : decode cX8_shift 40 = .ok (.return_, 1) := by decide +kernel
def B_X8_shift_3 (N : Nat) (k3 : Nat → Int32 → Int32 → Int32 → sv_V → Option sv_V) (l0 : Nat) (l2 : Int32) (l3 : Int32) (l4 : Int32) (V : sv_V) : Option sv_V := if lay l0 = .inl 8 then if (V.1 l0 9) ≤ l4 then (some V) else ((cr l0 0).bind (fun b3 => (sv_len 0 b3).bind (fun n5 => if sx_in l4 n5 = true then if sx_in l4 n5 = true then sx_let (sv_I V b3 l4.toNatClampNeg ((V.1 b3 l4.toNatClampNeg) + l2)) (fun V9 => (cr l0 1).bind (fun b10 => (sv_len 0 b10).bind (fun n12 => if sx_in l4 n12 = true then if sx_in l4 n12 = true then sx_let (sv_I V9 b10 l4.toNatClampNeg ((V9.1 b10 l4.toNatClampNeg) + l3)) (fun V16 => sx_let (l4 + 1) (fun x17 => k3 l0 l2 l3 x17 V16)) else none else none))) else none else none))) else none
set_option maxRecDepth 20000 in
theorem tB_X8_shift_3 {g : sx_G} (hG : sx_Go g) {P : Option Value → sv_V → Prop} {Vr : sv_V} (hP : P none Vr) {N : Nat} {k3 : Nat → Int32 → Int32 → Int32 → sv_V → Option sv_V} (hk3 : ∀ (l0 : Nat) (l2 : Int32) (l3 : Int32) (l4 : Int32) (V : sv_V), k3 l0 l2 l3 l4 V = some Vr → sv_N g qX8_shift 0 3 [(0, .ref l0), (2, .int l2), (3, .int l3), (4, .int l4)] [] V P) {l0 : Nat} {l2 : Int32} {l3 : Int32} {l4 : Int32} {V : sv_V} (h : B_X8_shift_3 N k3 l0 l2 l3 l4 V = some Vr) : sv_N g qX8_shift 0 3 [(0, .ref l0), (2, .int l2), (3, .int l3), (4, .int l4)] [] V P := by
  unfold B_X8_shift_3 at h
  refine sx_iload (pc := 3) dX8_shift_3 sx_m3 ?_
  refine sx_aload_n (pc := 5) dX8_shift_5 sx_m0 ?_
  obtain ⟨g1, h⟩ := sx_grd h
  refine sv_getI (pc := 6) hG dX8_shift_6 f_8_43 g1 rfl ?_
  refine sx_icmp_ge (pc := 9) (tgt := 40) dX8_shift_9 (by decide) (fun c2 => ?_) (fun c2 => ?_)
  · have h := sx_pos c2 h
    exact sv_vret (pc := 40) dX8_shift_40 rfl h hP
  · have h := sx_neg c2 h
    refine sx_aload_n (pc := 12) dX8_shift_12 sx_m0 ?_
    obtain ⟨b3, g4, h⟩ := sx_bnd h
    refine sv_getA (pc := 13) hG dX8_shift_13 f_8_21 g1 rfl g4 ?_
    refine sx_iload (pc := 16) dX8_shift_16 sx_m3 ?_
    refine sx_dup2 (pc := 18) dX8_shift_18 rfl rfl ?_
    obtain ⟨n5, g6, h⟩ := sx_bnd h
    obtain ⟨g7, h⟩ := sx_grd h
    refine sv_iald (pc := 19) hG dX8_shift_19 (sv_len_e g6) g7 ?_
    refine sx_iload_n (pc := 20) dX8_shift_20 sx_m1 ?_
    refine sx_iadd (pc := 21) dX8_shift_21 ?_
    obtain ⟨g8, h⟩ := sx_grd h
    obtain ⟨V9, hV9⟩ : ∃ z : sv_V, z = sv_I V b3 l4.toNatClampNeg ((V.1 b3 l4.toNatClampNeg) + l2) := ⟨_, rfl⟩
    have h := sx_letE hV9 h
    refine sv_iast (pc := 22) hG dX8_shift_22 (sv_len_e g6) g8 hV9 ?_
    refine sx_aload_n (pc := 23) dX8_shift_23 sx_m0 ?_
    obtain ⟨b10, g11, h⟩ := sx_bnd h
    refine sv_getA (pc := 24) hG dX8_shift_24 f_8_24 g1 rfl g11 ?_
    refine sx_iload (pc := 27) dX8_shift_27 sx_m3 ?_
    refine sx_dup2 (pc := 29) dX8_shift_29 rfl rfl ?_
    obtain ⟨n12, g13, h⟩ := sx_bnd h
    obtain ⟨g14, h⟩ := sx_grd h
    refine sv_iald (pc := 30) hG dX8_shift_30 (sv_len_e g13) g14 ?_
    refine sx_iload_n (pc := 31) dX8_shift_31 sx_m2 ?_
    refine sx_iadd (pc := 32) dX8_shift_32 ?_
    obtain ⟨g15, h⟩ := sx_grd h
    obtain ⟨V16, hV16⟩ : ∃ z : sv_V, z = sv_I V9 b10 l4.toNatClampNeg ((V9.1 b10 l4.toNatClampNeg) + l3) := ⟨_, rfl⟩
    have h := sx_letE hV16 h
    refine sv_iast (pc := 33) hG dX8_shift_33 (sv_len_e g13) g15 hV16 ?_
    obtain ⟨x17, hx17⟩ : ∃ z : Int32, z = l4 + 1 := ⟨_, rfl⟩
    have h := sx_letE hx17 h
    refine sx_iinc (pc := 34) (v := x17) (lo' := [(4, .int x17), (0, .ref l0), (2, .int l2), (3, .int l3)]) dX8_shift_34 sx_m3 (by rw [hx17]; rfl) (by decide) rfl ?_
    refine sx_goto (pc := 37) (tgt := 3) dX8_shift_37 (by decide) ?_
    refine sx_wk (sx_s1 sx_m1 (sx_s1 sx_m2 (sx_s1 sx_m3 (sx_s1 sx_m0 sx_s0)))) ?_
    exact hk3 _ _ _ _ _ h
theorem tL_X8_shift_3 {g : sx_G} (hG : sx_Go g) {P : Option Value → sv_V → Prop} {Vr : sv_V} (hP : P none Vr) {N : Nat}   : ∀ (n : Nat) (l0 : Nat) (l2 : Int32) (l3 : Int32) (l4 : Int32) (V : sv_V), sx_lp5 (B_X8_shift_3 N ) n l0 l2 l3 l4 V = some Vr → sv_N g qX8_shift 0 3 [(0, .ref l0), (2, .int l2), (3, .int l3), (4, .int l4)] [] V P :=
  sx_lp5_ind (fun k0 ih _ _ _ _ V h => tB_X8_shift_3 hG hP ih h)
def F_X8_shift (N : Nat) (l0 : Nat) (l1 : Int32) (l2 : Int32) (l3 : Int32) (V : sv_V) : Option sv_V := sx_lp5 (B_X8_shift_3 N ) N l0 l2 l3 l1 V
set_option maxRecDepth 20000 in
theorem t_X8_shift {g : sx_G} (hG : sx_Go g) {P : Option Value → sv_V → Prop} {Vr : sv_V} (hP : P none Vr) {N : Nat} {l0 : Nat} {l1 : Int32} {l2 : Int32} {l3 : Int32} {V : sv_V} (h : F_X8_shift N l0 l1 l2 l3 V = some Vr) : sv_N g qX8_shift 0 0 [(0, .ref l0), (1, .int l1), (2, .int l2), (3, .int l3)] [] V P := by
  unfold F_X8_shift at h
  refine sx_iload_n (pc := 0) dX8_shift_0 sx_m1 ?_
  refine sx_istore (pc := 1) (lo' := [(4, .int l1), (0, .ref l0), (1, .int l1), (2, .int l2), (3, .int l3)]) dX8_shift_1 (by decide) rfl ?_
  refine sx_wk (sx_s1 sx_m1 (sx_s1 sx_m3 (sx_s1 sx_m4 (sx_s1 sx_m0 sx_s0)))) ?_
  exact tL_X8_shift_3 hG hP  N _ _ _ _ _ h
theorem dX9_useWayForP_0 : decode cX9_useWayForP 0 = .ok (.aload_n 0, 1) := by decide +kernel
theorem dX9_useWayForP_1 : decode cX9_useWayForP 1 = .ok (.aload_n 0, 1) := by decide +kernel
theorem dX9_useWayForP_2 : decode cX9_useWayForP 2 = .ok (.getfield 35, 3) := by decide +kernel
theorem dX9_useWayForP_5 : decode cX9_useWayForP 5 = .ok (.putfield 47, 3) := by decide +kernel
theorem dX9_useWayForP_8 : decode cX9_useWayForP 8 = .ok (.aload_n 0, 1) := by decide +kernel
theorem dX9_useWayForP_9 : decode cX9_useWayForP 9 = .ok (.aload_n 0, 1) := by decide +kernel
theorem dX9_useWayForP_10 : decode cX9_useWayForP 10 = .ok (.getfield 38, 3) := by decide +kernel
theorem dX9_useWayForP_13 : decode cX9_useWayForP 13 = .ok (.putfield 50, 3) := by decide +kernel
theorem dX9_useWayForP_16 : decode cX9_useWayForP 16 = .ok (.aload_n 0, 1) := by decide +kernel
theorem dX9_useWayForP_17 : decode cX9_useWayForP 17 = .ok (.aload_n 0, 1) := by decide +kernel
theorem dX9_useWayForP_18 : decode cX9_useWayForP 18 = .ok (.getfield 35, 3) := by decide +kernel
theorem dX9_useWayForP_21 : decode cX9_useWayForP 21 = .ok (.putfield 53, 3) := by decide +kernel
theorem dX9_useWayForP_24 : decode cX9_useWayForP 24 = .ok (.aload_n 0, 1) := by decide +kernel
theorem dX9_useWayForP_25 : decode cX9_useWayForP 25 = .ok (.aload_n 0, 1) := by decide +kernel
theorem dX9_useWayForP_26 : decode cX9_useWayForP 26 = .ok (.getfield 38, 3) := by decide +kernel
theorem dX9_useWayForP_29 : decode cX9_useWayForP 29 = .ok (.putfield 56, 3) := by decide +kernel
theorem dX9_useWayForP_32 : decode cX9_useWayForP 32 = .ok (.return_, 1) := by decide +kernel
def F_X9_useWayForP  (V : sv_V) : Option sv_V := sx_let (sv_I V 70 2 (V.1 70 12)) (fun V1 => sx_let (sv_I V1 70 3 (V1.1 70 13)) (fun V2 => sx_let (sv_I V2 70 4 (V2.1 70 12)) (fun V3 => sx_let (sv_I V3 70 5 (V3.1 70 13)) (fun V4 => some V4))))
set_option maxRecDepth 20000 in
theorem t_X9_useWayForP {g : sx_G} (hG : sx_Go g) {P : Option Value → sv_V → Prop} {Vr : sv_V} (hP : P none Vr)  {V : sv_V} (h : F_X9_useWayForP  V = some Vr) : sv_N g qX9_useWayForP 0 0 [(0, .ref 70)] [] V P := by
  unfold F_X9_useWayForP at h
  refine sx_aload_n (pc := 0) dX9_useWayForP_0 sx_m0 ?_
  refine sx_aload_n (pc := 1) dX9_useWayForP_1 sx_m0 ?_
  refine sv_getI (pc := 2) hG dX9_useWayForP_2 f_9_35 lay_70 rfl ?_
  obtain ⟨V1, hV1⟩ : ∃ z : sv_V, z = sv_I V 70 2 (V.1 70 12) := ⟨_, rfl⟩
  have h := sx_letE hV1 h
  refine sv_putI (pc := 5) hG dX9_useWayForP_5 f_9_47 lay_70 rfl hV1 ?_
  refine sx_aload_n (pc := 8) dX9_useWayForP_8 sx_m0 ?_
  refine sx_aload_n (pc := 9) dX9_useWayForP_9 sx_m0 ?_
  refine sv_getI (pc := 10) hG dX9_useWayForP_10 f_9_38 lay_70 rfl ?_
  obtain ⟨V2, hV2⟩ : ∃ z : sv_V, z = sv_I V1 70 3 (V1.1 70 13) := ⟨_, rfl⟩
  have h := sx_letE hV2 h
  refine sv_putI (pc := 13) hG dX9_useWayForP_13 f_9_50 lay_70 rfl hV2 ?_
  refine sx_aload_n (pc := 16) dX9_useWayForP_16 sx_m0 ?_
  refine sx_aload_n (pc := 17) dX9_useWayForP_17 sx_m0 ?_
  refine sv_getI (pc := 18) hG dX9_useWayForP_18 f_9_35 lay_70 rfl ?_
  obtain ⟨V3, hV3⟩ : ∃ z : sv_V, z = sv_I V2 70 4 (V2.1 70 12) := ⟨_, rfl⟩
  have h := sx_letE hV3 h
  refine sv_putI (pc := 21) hG dX9_useWayForP_21 f_9_53 lay_70 rfl hV3 ?_
  refine sx_aload_n (pc := 24) dX9_useWayForP_24 sx_m0 ?_
  refine sx_aload_n (pc := 25) dX9_useWayForP_25 sx_m0 ?_
  refine sv_getI (pc := 26) hG dX9_useWayForP_26 f_9_38 lay_70 rfl ?_
  obtain ⟨V4, hV4⟩ : ∃ z : sv_V, z = sv_I V3 70 5 (V3.1 70 13) := ⟨_, rfl⟩
  have h := sx_letE hV4 h
  refine sv_putI (pc := 29) hG dX9_useWayForP_29 f_9_56 lay_70 rfl hV4 ?_
  exact sv_vret (pc := 32) dX9_useWayForP_32 rfl h hP
theorem dX9_useWayForF_0 : decode cX9_useWayForF 0 = .ok (.aload_n 0, 1) := by decide +kernel
theorem dX9_useWayForF_1 : decode cX9_useWayForF 1 = .ok (.aload_n 0, 1) := by decide +kernel
theorem dX9_useWayForF_2 : decode cX9_useWayForF 2 = .ok (.getfield 35, 3) := by decide +kernel
theorem dX9_useWayForF_5 : decode cX9_useWayForF 5 = .ok (.putfield 59, 3) := by decide +kernel
theorem dX9_useWayForF_8 : decode cX9_useWayForF 8 = .ok (.aload_n 0, 1) := by decide +kernel
theorem dX9_useWayForF_9 : decode cX9_useWayForF 9 = .ok (.aload_n 0, 1) := by decide +kernel
theorem dX9_useWayForF_10 : decode cX9_useWayForF 10 = .ok (.getfield 38, 3) := by decide +kernel
theorem dX9_useWayForF_13 : decode cX9_useWayForF 13 = .ok (.putfield 62, 3) := by decide +kernel
theorem dX9_useWayForF_16 : decode cX9_useWayForF 16 = .ok (.return_, 1) := by decide +kernel
def F_X9_useWayForF  (V : sv_V) : Option sv_V := sx_let (sv_I V 70 0 (V.1 70 12)) (fun V1 => sx_let (sv_I V1 70 1 (V1.1 70 13)) (fun V2 => some V2))
set_option maxRecDepth 20000 in
theorem t_X9_useWayForF {g : sx_G} (hG : sx_Go g) {P : Option Value → sv_V → Prop} {Vr : sv_V} (hP : P none Vr)  {V : sv_V} (h : F_X9_useWayForF  V = some Vr) : sv_N g qX9_useWayForF 0 0 [(0, .ref 70)] [] V P := by
  unfold F_X9_useWayForF at h
  refine sx_aload_n (pc := 0) dX9_useWayForF_0 sx_m0 ?_
  refine sx_aload_n (pc := 1) dX9_useWayForF_1 sx_m0 ?_
  refine sv_getI (pc := 2) hG dX9_useWayForF_2 f_9_35 lay_70 rfl ?_
  obtain ⟨V1, hV1⟩ : ∃ z : sv_V, z = sv_I V 70 0 (V.1 70 12) := ⟨_, rfl⟩
  have h := sx_letE hV1 h
  refine sv_putI (pc := 5) hG dX9_useWayForF_5 f_9_59 lay_70 rfl hV1 ?_
  refine sx_aload_n (pc := 8) dX9_useWayForF_8 sx_m0 ?_
  refine sx_aload_n (pc := 9) dX9_useWayForF_9 sx_m0 ?_
  refine sv_getI (pc := 10) hG dX9_useWayForF_10 f_9_38 lay_70 rfl ?_
  obtain ⟨V2, hV2⟩ : ∃ z : sv_V, z = sv_I V1 70 1 (V1.1 70 13) := ⟨_, rfl⟩
  have h := sx_letE hV2 h
  refine sv_putI (pc := 13) hG dX9_useWayForF_13 f_9_62 lay_70 rfl hV2 ?_
  exact sv_vret (pc := 16) dX9_useWayForF_16 rfl h hP
theorem dX9_turnWayLeft_0 : decode cX9_turnWayLeft 0 = .ok (.aload_n 0, 1) := by decide +kernel
theorem dX9_turnWayLeft_1 : decode cX9_turnWayLeft 1 = .ok (.getfield 35, 3) := by decide +kernel
theorem dX9_turnWayLeft_4 : decode cX9_turnWayLeft 4 = .ok (.istore_n 1, 1) := by decide +kernel
theorem dX9_turnWayLeft_5 : decode cX9_turnWayLeft 5 = .ok (.aload_n 0, 1) := by decide +kernel
theorem dX9_turnWayLeft_6 : decode cX9_turnWayLeft 6 = .ok (.aload_n 0, 1) := by decide +kernel
theorem dX9_turnWayLeft_7 : decode cX9_turnWayLeft 7 = .ok (.getfield 38, 3) := by decide +kernel
theorem dX9_turnWayLeft_10 : decode cX9_turnWayLeft 10 = .ok (.ineg, 1) := by decide +kernel
theorem dX9_turnWayLeft_11 : decode cX9_turnWayLeft 11 = .ok (.putfield 35, 3) := by decide +kernel
theorem dX9_turnWayLeft_14 : decode cX9_turnWayLeft 14 = .ok (.aload_n 0, 1) := by decide +kernel
theorem dX9_turnWayLeft_15 : decode cX9_turnWayLeft 15 = .ok (.iload_n 1, 1) := by decide +kernel
theorem dX9_turnWayLeft_16 : decode cX9_turnWayLeft 16 = .ok (.putfield 38, 3) := by decide +kernel
theorem dX9_turnWayLeft_19 : decode cX9_turnWayLeft 19 = .ok (.return_, 1) := by decide +kernel
def F_X9_turnWayLeft  (V : sv_V) : Option sv_V := sx_let (V.1 70 12) (fun x1 => sx_let (sv_I V 70 12 (-(V.1 70 13))) (fun V2 => sx_let (sv_I V2 70 13 x1) (fun V3 => some V3)))
set_option maxRecDepth 20000 in
theorem t_X9_turnWayLeft {g : sx_G} (hG : sx_Go g) {P : Option Value → sv_V → Prop} {Vr : sv_V} (hP : P none Vr)  {V : sv_V} (h : F_X9_turnWayLeft  V = some Vr) : sv_N g qX9_turnWayLeft 0 0 [(0, .ref 70)] [] V P := by
  unfold F_X9_turnWayLeft at h
  refine sx_aload_n (pc := 0) dX9_turnWayLeft_0 sx_m0 ?_
  refine sv_getI (pc := 1) hG dX9_turnWayLeft_1 f_9_35 lay_70 rfl ?_
  refine sv_tI (fun x1 hx1 => ?_)
  have h := sx_letE hx1 h
  refine sx_istore_n (pc := 4) (lo' := [(1, .int x1), (0, .ref 70)]) dX9_turnWayLeft_4 (by decide) rfl ?_
  refine sx_aload_n (pc := 5) dX9_turnWayLeft_5 sx_m1 ?_
  refine sx_aload_n (pc := 6) dX9_turnWayLeft_6 sx_m1 ?_
  refine sv_getI (pc := 7) hG dX9_turnWayLeft_7 f_9_38 lay_70 rfl ?_
  refine sx_ineg (pc := 10) dX9_turnWayLeft_10 ?_
  obtain ⟨V2, hV2⟩ : ∃ z : sv_V, z = sv_I V 70 12 (-(V.1 70 13)) := ⟨_, rfl⟩
  have h := sx_letE hV2 h
  refine sv_putI (pc := 11) hG dX9_turnWayLeft_11 f_9_35 lay_70 rfl hV2 ?_
  refine sx_aload_n (pc := 14) dX9_turnWayLeft_14 sx_m1 ?_
  refine sx_iload_n (pc := 15) dX9_turnWayLeft_15 sx_m0 ?_
  obtain ⟨V3, hV3⟩ : ∃ z : sv_V, z = sv_I V2 70 13 x1 := ⟨_, rfl⟩
  have h := sx_letE hV3 h
  refine sv_putI (pc := 16) hG dX9_turnWayLeft_16 f_9_38 lay_70 rfl hV3 ?_
  exact sv_vret (pc := 19) dX9_turnWayLeft_19 rfl h hP
theorem dX9_shareOf_0 : decode cX9_shareOf 0 = .ok (.ldc2_w 75, 3) := by decide +kernel
theorem dX9_shareOf_3 : decode cX9_shareOf 3 = .ok (.lload_n 0, 1) := by decide +kernel
theorem dX9_shareOf_4 : decode cX9_shareOf 4 = .ok (.lmul, 1) := by decide +kernel
theorem dX9_shareOf_5 : decode cX9_shareOf 5 = .ok (.ldc2_w 75, 3) := by decide +kernel
theorem dX9_shareOf_8 : decode cX9_shareOf 8 = .ok (.lload_n 0, 1) := by decide +kernel
theorem dX9_shareOf_9 : decode cX9_shareOf 9 = .ok (.lmul, 1) := by decide +kernel
theorem dX9_shareOf_10 : decode cX9_shareOf 10 = .ok (.lmul, 1) := by decide +kernel
theorem dX9_shareOf_11 : decode cX9_shareOf 11 = .ok (.lstore 4, 2) := by decide +kernel
theorem dX9_shareOf_13 : decode cX9_shareOf 13 = .ok (.iconst 0, 1) := by decide +kernel
theorem dX9_shareOf_14 : decode cX9_shareOf 14 = .ok (.istore 6, 2) := by decide +kernel
theorem dX9_shareOf_16 : decode cX9_shareOf 16 = .ok (.sipush 16384, 3) := by decide +kernel
theorem dX9_shareOf_19 : decode cX9_shareOf 19 = .ok (.istore 7, 2) := by decide +kernel
theorem dX9_shareOf_21 : decode cX9_shareOf 21 = .ok (.iconst 0, 1) := by decide +kernel
theorem dX9_shareOf_22 : decode cX9_shareOf 22 = .ok (.istore 8, 2) := by decide +kernel
theorem dX9_shareOf_24 : decode cX9_shareOf 24 = .ok (.iload 8, 2) := by decide +kernel
theorem dX9_shareOf_26 : decode cX9_shareOf 26 = .ok (.bipush 20, 2) := by decide +kernel
theorem dX9_shareOf_28 : decode cX9_shareOf 28 = .ok (.if_icmp .ge 64, 3) := by decide +kernel
theorem dX9_shareOf_31 : decode cX9_shareOf 31 = .ok (.iload 6, 2) := by decide +kernel
theorem dX9_shareOf_33 : decode cX9_shareOf 33 = .ok (.iload 7, 2) := by decide +kernel
theorem dX9_shareOf_35 : decode cX9_shareOf 35 = .ok (.if_icmp .ge 57, 3) := by decide +kernel
theorem dX9_shareOf_38 : decode cX9_shareOf 38 = .ok (.iload 6, 2) := by decide +kernel
theorem dX9_shareOf_40 : decode cX9_shareOf 40 = .ok (.iload 7, 2) := by decide +kernel
theorem dX9_shareOf_42 : decode cX9_shareOf 42 = .ok (.iadd, 1) := by decide +kernel
theorem dX9_shareOf_43 : decode cX9_shareOf 43 = .ok (.iconst 1, 1) := by decide +kernel
theorem dX9_shareOf_44 : decode cX9_shareOf 44 = .ok (.iadd, 1) := by decide +kernel
theorem dX9_shareOf_45 : decode cX9_shareOf 45 = .ok (.iconst 2, 1) := by decide +kernel
theorem dX9_shareOf_46 : decode cX9_shareOf 46 = .ok (.idiv, 1) := by decide +kernel
theorem dX9_shareOf_47 : decode cX9_shareOf 47 = .ok (.istore 9, 2) := by decide +kernel
theorem dX9_shareOf_49 : decode cX9_shareOf 49 = .ok (.ldc2_w 69, 3) := by decide +kernel
theorem dX9_shareOf_52 : decode cX9_shareOf 52 = .ok (.iload 9, 2) := by decide +kernel
theorem dX9_shareOf_54 : decode cX9_shareOf 54 = .ok (.i2l, 1) := by decide +kernel
theorem dX9_shareOf_55 : decode cX9_shareOf 55 = .ok (.lmul, 1) := by decide +kernel
theorem dX9_shareOf_56 : decode cX9_shareOf 56 = .ok (.lconst 1, 1) := by decide +kernel
theorem dX9_shareOf_57 : decode cX9_shareOf 57 = .ok (.lsub, 1) := by decide +kernel
theorem dX9_shareOf_58 : decode cX9_shareOf 58 = .ok (.lstore 10, 2) := by decide +kernel
theorem dX9_shareOf_60 : decode cX9_shareOf 60 = .ok (.lload 10, 2) := by decide +kernel
theorem dX9_shareOf_62 : decode cX9_shareOf 62 = .ok (.lload 10, 2) := by decide +kernel
theorem dX9_shareOf_64 : decode cX9_shareOf 64 = .ok (.lmul, 1) := by decide +kernel
theorem dX9_shareOf_65 : decode cX9_shareOf 65 = .ok (.lload_n 2, 1) := by decide +kernel
theorem dX9_shareOf_66 : decode cX9_shareOf 66 = .ok (.lmul, 1) := by decide +kernel
theorem dX9_shareOf_67 : decode cX9_shareOf 67 = .ok (.lload 4, 2) := by decide +kernel
theorem dX9_shareOf_69 : decode cX9_shareOf 69 = .ok (.lcmp, 1) := by decide +kernel
theorem dX9_shareOf_70 : decode cX9_shareOf 70 = .ok (.ifCond .gt 10, 3) := by decide +kernel
theorem dX9_shareOf_73 : decode cX9_shareOf 73 = .ok (.iload 9, 2) := by decide +kernel
theorem dX9_shareOf_75 : decode cX9_shareOf 75 = .ok (.istore 6, 2) := by decide +kernel
theorem dX9_shareOf_77 : decode cX9_shareOf 77 = .ok (.goto 9, 3) := by decide +kernel
theorem dX9_shareOf_80 : decode cX9_shareOf 80 = .ok (.iload 9, 2) := by decide +kernel
theorem dX9_shareOf_82 : decode cX9_shareOf 82 = .ok (.iconst 1, 1) := by decide +kernel
theorem dX9_shareOf_83 : decode cX9_shareOf 83 = .ok (.isub, 1) := by decide +kernel
theorem dX9_shareOf_84 : decode cX9_shareOf 84 = .ok (.istore 7, 2) := by decide +kernel
theorem dX9_shareOf_86 : decode cX9_shareOf 86 = .ok (.iinc 8 1, 3) := by decide +kernel
theorem dX9_shareOf_89 : decode cX9_shareOf 89 = .ok (.goto (-65), 3) := by decide +kernel
theorem dX9_shareOf_92 : decode cX9_shareOf 92 = .ok (.lload_n 0, 1) := by decide +kernel
theorem dX9_shareOf_93 : decode cX9_shareOf 93 = .ok (.lconst 0, 1) := by decide +kernel
theorem dX9_shareOf_94 : decode cX9_shareOf 94 = .ok (.lcmp, 1) := by decide +kernel
theorem dX9_shareOf_95 : decode cX9_shareOf 95 = .ok (.ifCond .ge 9, 3) := by decide +kernel
theorem dX9_shareOf_98 : decode cX9_shareOf 98 = .ok (.iload 6, 2) := by decide +kernel
theorem dX9_shareOf_100 : decode cX9_shareOf 100 = .ok (.ineg, 1) := by decide +kernel
theorem dX9_shareOf_101 : decode cX9_shareOf 101 = .ok (.goto 5, 3) := by decide +kernel
theorem dX9_shareOf_104 : decode cX9_shareOf 104 = .ok (.iload 6, 2) := by decide +kernel
theorem dX9_shareOf_106 : decode cX9_shareOf 106 = .ok (.ireturn, 1) := by decide +kernel
def B_X9_shareOf_86 (N : Nat) (k24 : Int64 → Int64 → Int64 → Int32 → Int32 → Int32 → sv_V → Option (Int32 × sv_V)) (l0 : Int64) (l2 : Int64) (l4 : Int64) (l6 : Int32) (l7 : Int32) (l8 : Int32) (V : sv_V) : Option (Int32 × sv_V) := sx_let (l8 + 1) (fun x1 => k24 l0 l2 l4 l6 l7 x1 V)
set_option maxRecDepth 20000 in
theorem tB_X9_shareOf_86 {g : sx_G} (hG : sx_Go g) {P : Option Value → sv_V → Prop} {r : Int32} {Vr : sv_V} (hP : P (some (.int r)) Vr) {N : Nat} {k24 : Int64 → Int64 → Int64 → Int32 → Int32 → Int32 → sv_V → Option (Int32 × sv_V)} (hk24 : ∀ (l0 : Int64) (l2 : Int64) (l4 : Int64) (l6 : Int32) (l7 : Int32) (l8 : Int32) (V : sv_V), k24 l0 l2 l4 l6 l7 l8 V = some (r, Vr) → sv_N g qX9_shareOf 0 24 [(0, .long l0), (2, .long l2), (4, .long l4), (6, .int l6), (7, .int l7), (8, .int l8)] [] V P) {l0 : Int64} {l2 : Int64} {l4 : Int64} {l6 : Int32} {l7 : Int32} {l8 : Int32} {V : sv_V} (h : B_X9_shareOf_86 N k24 l0 l2 l4 l6 l7 l8 V = some (r, Vr)) : sv_N g qX9_shareOf 0 86 [(0, .long l0), (2, .long l2), (4, .long l4), (6, .int l6), (7, .int l7), (8, .int l8)] [] V P := by
  unfold B_X9_shareOf_86 at h
  obtain ⟨x1, hx1⟩ : ∃ z : Int32, z = l8 + 1 := ⟨_, rfl⟩
  have h := sx_letE hx1 h
  refine sx_iinc (pc := 86) (v := x1) (lo' := [(8, .int x1), (0, .long l0), (2, .long l2), (4, .long l4), (6, .int l6), (7, .int l7)]) dX9_shareOf_86 sx_m5 (by rw [hx1]; rfl) (by decide) rfl ?_
  refine sx_goto (pc := 89) (tgt := 24) dX9_shareOf_89 (by decide) ?_
  refine sx_wk (sx_s1 sx_m1 (sx_s1 sx_m2 (sx_s1 sx_m3 (sx_s1 sx_m4 (sx_s1 sx_m5 (sx_s1 sx_m0 sx_s0)))))) ?_
  exact hk24 _ _ _ _ _ _ _ h
def B_X9_shareOf_92 (N : Nat)  (l0 : Int64) (l6 : Int32) (V : sv_V) : Option (Int32 × sv_V) := if 0 ≤ (lg_cmp l0 (0 : Int64)) then (some (l6, V)) else (some (-l6, V))
set_option maxRecDepth 20000 in
theorem tB_X9_shareOf_92 {g : sx_G} (hG : sx_Go g) {P : Option Value → sv_V → Prop} {r : Int32} {Vr : sv_V} (hP : P (some (.int r)) Vr) {N : Nat}   {l0 : Int64} {l6 : Int32} {V : sv_V} (h : B_X9_shareOf_92 N  l0 l6 V = some (r, Vr)) : sv_N g qX9_shareOf 0 92 [(0, .long l0), (6, .int l6)] [] V P := by
  unfold B_X9_shareOf_92 at h
  refine sx_lload_n (pc := 92) dX9_shareOf_92 sx_m0 ?_
  refine sx_lconst (pc := 93) (v := 0) dX9_shareOf_93 rfl ?_
  refine sx_lcmp (pc := 94) dX9_shareOf_94 ?_
  refine sx_if_ge (pc := 95) (tgt := 104) dX9_shareOf_95 (by decide) (fun c2 => ?_) (fun c2 => ?_)
  · have h := sx_pos c2 h
    refine sx_iload (pc := 104) dX9_shareOf_104 sx_m1 ?_
    exact sv_iret (pc := 106) dX9_shareOf_106 rfl h hP
  · have h := sx_neg c2 h
    refine sx_iload (pc := 98) dX9_shareOf_98 sx_m1 ?_
    refine sx_ineg (pc := 100) dX9_shareOf_100 ?_
    refine sx_goto (pc := 101) (tgt := 106) dX9_shareOf_101 (by decide) ?_
    exact sv_iret (pc := 106) dX9_shareOf_106 rfl h hP
def B_X9_shareOf_24 (N : Nat) (k24 : Int64 → Int64 → Int64 → Int32 → Int32 → Int32 → sv_V → Option (Int32 × sv_V)) (l0 : Int64) (l2 : Int64) (l4 : Int64) (l6 : Int32) (l7 : Int32) (l8 : Int32) (V : sv_V) : Option (Int32 × sv_V) := if (20 : Int32) ≤ l8 then (B_X9_shareOf_92 N  l0 l6 V) else (if l7 ≤ l6 then (B_X9_shareOf_92 N  l0 l6 V) else (sx_let (((l6 + l7) + (1 : Int32)) / (2 : Int32)) (fun x5 => sx_let (((2 : Int64) * x5.toInt64) - (1 : Int64)) (fun x6 => if 0 < (lg_cmp ((x6 * x6) * l2) l4) then (sx_let (x5 - (1 : Int32)) (fun x8 => B_X9_shareOf_86 N k24 l0 l2 l4 l6 x8 l8 V)) else (B_X9_shareOf_86 N k24 l0 l2 l4 x5 l7 l8 V)))))
set_option maxRecDepth 20000 in
theorem tB_X9_shareOf_24 {g : sx_G} (hG : sx_Go g) {P : Option Value → sv_V → Prop} {r : Int32} {Vr : sv_V} (hP : P (some (.int r)) Vr) {N : Nat} {k24 : Int64 → Int64 → Int64 → Int32 → Int32 → Int32 → sv_V → Option (Int32 × sv_V)} (hk24 : ∀ (l0 : Int64) (l2 : Int64) (l4 : Int64) (l6 : Int32) (l7 : Int32) (l8 : Int32) (V : sv_V), k24 l0 l2 l4 l6 l7 l8 V = some (r, Vr) → sv_N g qX9_shareOf 0 24 [(0, .long l0), (2, .long l2), (4, .long l4), (6, .int l6), (7, .int l7), (8, .int l8)] [] V P) {l0 : Int64} {l2 : Int64} {l4 : Int64} {l6 : Int32} {l7 : Int32} {l8 : Int32} {V : sv_V} (h : B_X9_shareOf_24 N k24 l0 l2 l4 l6 l7 l8 V = some (r, Vr)) : sv_N g qX9_shareOf 0 24 [(0, .long l0), (2, .long l2), (4, .long l4), (6, .int l6), (7, .int l7), (8, .int l8)] [] V P := by
  unfold B_X9_shareOf_24 at h
  refine sx_iload (pc := 24) dX9_shareOf_24 sx_m5 ?_
  refine sx_bipush (pc := 26) (v := 20) dX9_shareOf_26 (by decide) ?_
  refine sx_icmp_ge (pc := 28) (tgt := 92) dX9_shareOf_28 (by decide) (fun c3 => ?_) (fun c3 => ?_)
  · have h := sx_pos c3 h
    refine sx_wk (sx_s1 sx_m0 (sx_s1 sx_m3 sx_s0)) ?_
    exact tB_X9_shareOf_92 hG hP  h
  · have h := sx_neg c3 h
    refine sx_iload (pc := 31) dX9_shareOf_31 sx_m3 ?_
    refine sx_iload (pc := 33) dX9_shareOf_33 sx_m4 ?_
    refine sx_icmp_ge (pc := 35) (tgt := 92) dX9_shareOf_35 (by decide) (fun c4 => ?_) (fun c4 => ?_)
    · have h := sx_pos c4 h
      refine sx_wk (sx_s1 sx_m0 (sx_s1 sx_m3 sx_s0)) ?_
      exact tB_X9_shareOf_92 hG hP  h
    · have h := sx_neg c4 h
      refine sx_iload (pc := 38) dX9_shareOf_38 sx_m3 ?_
      refine sx_iload (pc := 40) dX9_shareOf_40 sx_m4 ?_
      refine sx_iadd (pc := 42) dX9_shareOf_42 ?_
      refine sx_iconst (pc := 43) (v := 1) dX9_shareOf_43 (by decide) ?_
      refine sx_iadd (pc := 44) dX9_shareOf_44 ?_
      refine sx_iconst (pc := 45) (v := 2) dX9_shareOf_45 (by decide) ?_
      refine sx_idiv (pc := 46) dX9_shareOf_46 (by decide) ?_
      refine sv_tI (fun x5 hx5 => ?_)
      have h := sx_letE hx5 h
      refine sx_istore (pc := 47) (lo' := [(9, .int x5), (0, .long l0), (2, .long l2), (4, .long l4), (6, .int l6), (7, .int l7), (8, .int l8)]) dX9_shareOf_47 (by decide) rfl ?_
      refine sx_ldc2 (pc := 49) dX9_shareOf_49 k_X9_69 ?_
      refine sx_iload (pc := 52) dX9_shareOf_52 sx_m0 ?_
      refine sx_i2l (pc := 54) dX9_shareOf_54 ?_
      refine sx_lmul (pc := 55) dX9_shareOf_55 ?_
      refine sx_lconst (pc := 56) (v := 1) dX9_shareOf_56 rfl ?_
      refine sx_lsub (pc := 57) dX9_shareOf_57 ?_
      refine sv_tJ (fun x6 hx6 => ?_)
      have h := sx_letE hx6 h
      refine sx_lstore (pc := 58) (lo' := [(10, .long x6), (9, .int x5), (0, .long l0), (2, .long l2), (4, .long l4), (6, .int l6), (7, .int l7), (8, .int l8)]) dX9_shareOf_58 (by decide) rfl ?_
      refine sx_lload (pc := 60) dX9_shareOf_60 sx_m0 ?_
      refine sx_lload (pc := 62) dX9_shareOf_62 sx_m0 ?_
      refine sx_lmul (pc := 64) dX9_shareOf_64 ?_
      refine sx_lload_n (pc := 65) dX9_shareOf_65 sx_m3 ?_
      refine sx_lmul (pc := 66) dX9_shareOf_66 ?_
      refine sx_lload (pc := 67) dX9_shareOf_67 sx_m4 ?_
      refine sx_lcmp (pc := 69) dX9_shareOf_69 ?_
      refine sx_if_gt (pc := 70) (tgt := 80) dX9_shareOf_70 (by decide) (fun c7 => ?_) (fun c7 => ?_)
      · have h := sx_pos c7 h
        refine sx_iload (pc := 80) dX9_shareOf_80 sx_m1 ?_
        refine sx_iconst (pc := 82) (v := 1) dX9_shareOf_82 (by decide) ?_
        refine sx_isub (pc := 83) dX9_shareOf_83 ?_
        refine sv_tI (fun x8 hx8 => ?_)
        have h := sx_letE hx8 h
        refine sx_istore (pc := 84) (lo' := [(7, .int x8), (10, .long x6), (9, .int x5), (0, .long l0), (2, .long l2), (4, .long l4), (6, .int l6), (8, .int l8)]) dX9_shareOf_84 (by decide) rfl ?_
        refine sx_wk (sx_s1 sx_m3 (sx_s1 sx_m4 (sx_s1 sx_m5 (sx_s1 sx_m6 (sx_s1 sx_m0 (sx_s1 sx_m7 sx_s0)))))) ?_
        exact tB_X9_shareOf_86 hG hP hk24 h
      · have h := sx_neg c7 h
        refine sx_iload (pc := 73) dX9_shareOf_73 sx_m1 ?_
        refine sx_istore (pc := 75) (lo' := [(6, .int x5), (10, .long x6), (9, .int x5), (0, .long l0), (2, .long l2), (4, .long l4), (7, .int l7), (8, .int l8)]) dX9_shareOf_75 (by decide) rfl ?_
        refine sx_goto (pc := 77) (tgt := 86) dX9_shareOf_77 (by decide) ?_
        refine sx_wk (sx_s1 sx_m3 (sx_s1 sx_m4 (sx_s1 sx_m5 (sx_s1 sx_m0 (sx_s1 sx_m6 (sx_s1 sx_m7 sx_s0)))))) ?_
        exact tB_X9_shareOf_86 hG hP hk24 h
theorem tL_X9_shareOf_24 {g : sx_G} (hG : sx_Go g) {P : Option Value → sv_V → Prop} {r : Int32} {Vr : sv_V} (hP : P (some (.int r)) Vr) {N : Nat}   : ∀ (n : Nat) (l0 : Int64) (l2 : Int64) (l4 : Int64) (l6 : Int32) (l7 : Int32) (l8 : Int32) (V : sv_V), sx_lp7 (B_X9_shareOf_24 N ) n l0 l2 l4 l6 l7 l8 V = some (r, Vr) → sv_N g qX9_shareOf 0 24 [(0, .long l0), (2, .long l2), (4, .long l4), (6, .int l6), (7, .int l7), (8, .int l8)] [] V P :=
  sx_lp7_ind (fun k0 ih _ _ _ _ _ _ V h => tB_X9_shareOf_24 hG hP ih h)
def F_X9_shareOf (N : Nat) (l0 : Int64) (l2 : Int64) (V : sv_V) : Option (Int32 × sv_V) := sx_let (((32768 : Int64) * l0) * ((32768 : Int64) * l0)) (fun x9 => sx_lp7 (B_X9_shareOf_24 N ) N l0 l2 x9 (0 : Int32) (16384 : Int32) (0 : Int32) V)
set_option maxRecDepth 20000 in
theorem t_X9_shareOf {g : sx_G} (hG : sx_Go g) {P : Option Value → sv_V → Prop} {r : Int32} {Vr : sv_V} (hP : P (some (.int r)) Vr) {N : Nat} {l0 : Int64} {l2 : Int64} {V : sv_V} (h : F_X9_shareOf N l0 l2 V = some (r, Vr)) : sv_N g qX9_shareOf 0 0 [(0, .long l0), (2, .long l2)] [] V P := by
  unfold F_X9_shareOf at h
  refine sx_ldc2 (pc := 0) dX9_shareOf_0 k_X9_75 ?_
  refine sx_lload_n (pc := 3) dX9_shareOf_3 sx_m0 ?_
  refine sx_lmul (pc := 4) dX9_shareOf_4 ?_
  refine sx_ldc2 (pc := 5) dX9_shareOf_5 k_X9_75 ?_
  refine sx_lload_n (pc := 8) dX9_shareOf_8 sx_m0 ?_
  refine sx_lmul (pc := 9) dX9_shareOf_9 ?_
  refine sx_lmul (pc := 10) dX9_shareOf_10 ?_
  refine sv_tJ (fun x9 hx9 => ?_)
  have h := sx_letE hx9 h
  refine sx_lstore (pc := 11) (lo' := [(4, .long x9), (0, .long l0), (2, .long l2)]) dX9_shareOf_11 (by decide) rfl ?_
  refine sx_iconst (pc := 13) (v := 0) dX9_shareOf_13 (by decide) ?_
  refine sx_istore (pc := 14) (lo' := [(6, .int (0 : Int32)), (4, .long x9), (0, .long l0), (2, .long l2)]) dX9_shareOf_14 (by decide) rfl ?_
  refine sx_sipush (pc := 16) (v := 16384) dX9_shareOf_16 (by decide) ?_
  refine sx_istore (pc := 19) (lo' := [(7, .int (16384 : Int32)), (6, .int (0 : Int32)), (4, .long x9), (0, .long l0), (2, .long l2)]) dX9_shareOf_19 (by decide) rfl ?_
  refine sx_iconst (pc := 21) (v := 0) dX9_shareOf_21 (by decide) ?_
  refine sx_istore (pc := 22) (lo' := [(8, .int (0 : Int32)), (7, .int (16384 : Int32)), (6, .int (0 : Int32)), (4, .long x9), (0, .long l0), (2, .long l2)]) dX9_shareOf_22 (by decide) rfl ?_
  refine sx_wk (sx_s1 sx_m4 (sx_s1 sx_m5 (sx_s1 sx_m3 (sx_s1 sx_m2 (sx_s1 sx_m1 (sx_s1 sx_m0 sx_s0)))))) ?_
  exact tL_X9_shareOf_24 hG hP  N _ _ _ _ _ _ _ h
theorem dX9_roundBy_0 : decode cX9_roundBy 0 = .ok (.aload_n 0, 1) := by decide +kernel
theorem dX9_roundBy_1 : decode cX9_roundBy 1 = .ok (.iload_n 1, 1) := by decide +kernel
theorem dX9_roundBy_2 : decode cX9_roundBy 2 = .ok (.bipush 61, 2) := by decide +kernel
theorem dX9_roundBy_4 : decode cX9_roundBy 4 = .ok (.if_icmp .ne 8, 3) := by decide +kernel
theorem dX9_roundBy_7 : decode cX9_roundBy 7 = .ok (.bipush 32, 2) := by decide +kernel
theorem dX9_roundBy_9 : decode cX9_roundBy 9 = .ok (.goto 15, 3) := by decide +kernel
theorem dX9_roundBy_12 : decode cX9_roundBy 12 = .ok (.iload_n 1, 1) := by decide +kernel
theorem dX9_roundBy_13 : decode cX9_roundBy 13 = .ok (.bipush 122, 2) := by decide +kernel
theorem dX9_roundBy_15 : decode cX9_roundBy 15 = .ok (.if_icmp .ne 7, 3) := by decide +kernel
theorem dX9_roundBy_18 : decode cX9_roundBy 18 = .ok (.iconst 0, 1) := by decide +kernel
theorem dX9_roundBy_19 : decode cX9_roundBy 19 = .ok (.goto 5, 3) := by decide +kernel
theorem dX9_roundBy_22 : decode cX9_roundBy 22 = .ok (.bipush 64, 2) := by decide +kernel
theorem dX9_roundBy_24 : decode cX9_roundBy 24 = .ok (.putfield 77, 3) := by decide +kernel
theorem dX9_roundBy_27 : decode cX9_roundBy 27 = .ok (.aload_n 0, 1) := by decide +kernel
theorem dX9_roundBy_28 : decode cX9_roundBy 28 = .ok (.iload_n 1, 1) := by decide +kernel
theorem dX9_roundBy_29 : decode cX9_roundBy 29 = .ok (.bipush 25, 2) := by decide +kernel
theorem dX9_roundBy_31 : decode cX9_roundBy 31 = .ok (.if_icmp .ne 8, 3) := by decide +kernel
theorem dX9_roundBy_34 : decode cX9_roundBy 34 = .ok (.bipush 32, 2) := by decide +kernel
theorem dX9_roundBy_36 : decode cX9_roundBy 36 = .ok (.goto 4, 3) := by decide +kernel
theorem dX9_roundBy_39 : decode cX9_roundBy 39 = .ok (.iconst 0, 1) := by decide +kernel
theorem dX9_roundBy_40 : decode cX9_roundBy 40 = .ok (.putfield 80, 3) := by decide +kernel
theorem dX9_roundBy_43 : decode cX9_roundBy 43 = .ok (.iload_n 1, 1) := by decide +kernel
theorem dX9_roundBy_44 : decode cX9_roundBy 44 = .ok (.lookupswitch 62 #[(61, 36), (124, 45), (125, 54)], 36) := by decide +kernel
theorem dX9_roundBy_80 : decode cX9_roundBy 80 = .ok (.aload_n 0, 1) := by decide +kernel
theorem dX9_roundBy_81 : decode cX9_roundBy 81 = .ok (.bipush 16, 2) := by decide +kernel
theorem dX9_roundBy_83 : decode cX9_roundBy 83 = .ok (.putfield 83, 3) := by decide +kernel
theorem dX9_roundBy_86 : decode cX9_roundBy 86 = .ok (.goto 26, 3) := by decide +kernel
theorem dX9_roundBy_89 : decode cX9_roundBy 89 = .ok (.aload_n 0, 1) := by decide +kernel
theorem dX9_roundBy_90 : decode cX9_roundBy 90 = .ok (.bipush 63, 2) := by decide +kernel
theorem dX9_roundBy_92 : decode cX9_roundBy 92 = .ok (.putfield 83, 3) := by decide +kernel
theorem dX9_roundBy_95 : decode cX9_roundBy 95 = .ok (.goto 17, 3) := by decide +kernel
theorem dX9_roundBy_98 : decode cX9_roundBy 98 = .ok (.aload_n 0, 1) := by decide +kernel
theorem dX9_roundBy_99 : decode cX9_roundBy 99 = .ok (.iconst 0, 1) := by decide +kernel
theorem dX9_roundBy_100 : decode cX9_roundBy 100 = .ok (.putfield 83, 3) := by decide +kernel
theorem dX9_roundBy_103 : decode cX9_roundBy 103 = .ok (.goto 9, 3) := by decide +kernel
theorem dX9_roundBy_106 : decode cX9_roundBy 106 = .ok (.aload_n 0, 1) := by decide +kernel
theorem dX9_roundBy_107 : decode cX9_roundBy 107 = .ok (.bipush 32, 2) := by decide +kernel
theorem dX9_roundBy_109 : decode cX9_roundBy 109 = .ok (.putfield 83, 3) := by decide +kernel
theorem dX9_roundBy_112 : decode cX9_roundBy 112 = .ok (.return_, 1) := by decide +kernel
def B_X9_roundBy_40  (l1 : Int32) (s1 : Int32) (V : sv_V) : Option sv_V := sx_let (sv_I V 70 10 s1) (fun V1 => if l1 = 61 then (sx_let (sv_I V1 70 11 (16 : Int32)) (fun V3 => some V3)) else (if l1 = 124 then (sx_let (sv_I V1 70 11 (63 : Int32)) (fun V5 => some V5)) else (if l1 = 125 then (sx_let (sv_I V1 70 11 (0 : Int32)) (fun V7 => some V7)) else (sx_let (sv_I V1 70 11 (32 : Int32)) (fun V8 => some V8)))))
set_option maxRecDepth 20000 in
theorem tB_X9_roundBy_40 {g : sx_G} (hG : sx_Go g) {P : Option Value → sv_V → Prop} {Vr : sv_V} (hP : P none Vr)   {l1 : Int32} {s1 : Int32} {V : sv_V} (h : B_X9_roundBy_40  l1 s1 V = some Vr) : sv_N g qX9_roundBy 0 40 [(0, .ref 70), (1, .int l1)] [.int s1, .ref 70] V P := by
  unfold B_X9_roundBy_40 at h
  obtain ⟨V1, hV1⟩ : ∃ z : sv_V, z = sv_I V 70 10 s1 := ⟨_, rfl⟩
  have h := sx_letE hV1 h
  refine sv_putI (pc := 40) hG dX9_roundBy_40 f_9_80 lay_70 rfl hV1 ?_
  refine sx_iload_n (pc := 43) dX9_roundBy_43 sx_m1 ?_
  by_cases c2 : l1 = 61
  · have h := sx_pos c2 h
    refine sx_look (pc := 44) (off := 36) (tgt := 80) dX9_roundBy_44 (by decide) (by rw [c2]; rfl) (by decide) ?_
    refine sx_aload_n (pc := 80) dX9_roundBy_80 sx_m0 ?_
    refine sx_bipush (pc := 81) (v := 16) dX9_roundBy_81 (by decide) ?_
    obtain ⟨V3, hV3⟩ : ∃ z : sv_V, z = sv_I V1 70 11 (16 : Int32) := ⟨_, rfl⟩
    have h := sx_letE hV3 h
    refine sv_putI (pc := 83) hG dX9_roundBy_83 f_9_83 lay_70 rfl hV3 ?_
    refine sx_goto (pc := 86) (tgt := 112) dX9_roundBy_86 (by decide) ?_
    exact sv_vret (pc := 112) dX9_roundBy_112 rfl h hP
  have h := sx_neg c2 h
  by_cases c4 : l1 = 124
  · have h := sx_pos c4 h
    refine sx_look (pc := 44) (off := 45) (tgt := 89) dX9_roundBy_44 (by decide) (by rw [c4]; rfl) (by decide) ?_
    refine sx_aload_n (pc := 89) dX9_roundBy_89 sx_m0 ?_
    refine sx_bipush (pc := 90) (v := 63) dX9_roundBy_90 (by decide) ?_
    obtain ⟨V5, hV5⟩ : ∃ z : sv_V, z = sv_I V1 70 11 (63 : Int32) := ⟨_, rfl⟩
    have h := sx_letE hV5 h
    refine sv_putI (pc := 92) hG dX9_roundBy_92 f_9_83 lay_70 rfl hV5 ?_
    refine sx_goto (pc := 95) (tgt := 112) dX9_roundBy_95 (by decide) ?_
    exact sv_vret (pc := 112) dX9_roundBy_112 rfl h hP
  have h := sx_neg c4 h
  by_cases c6 : l1 = 125
  · have h := sx_pos c6 h
    refine sx_look (pc := 44) (off := 54) (tgt := 98) dX9_roundBy_44 (by decide) (by rw [c6]; rfl) (by decide) ?_
    refine sx_aload_n (pc := 98) dX9_roundBy_98 sx_m0 ?_
    refine sx_iconst (pc := 99) (v := 0) dX9_roundBy_99 (by decide) ?_
    obtain ⟨V7, hV7⟩ : ∃ z : sv_V, z = sv_I V1 70 11 (0 : Int32) := ⟨_, rfl⟩
    have h := sx_letE hV7 h
    refine sv_putI (pc := 100) hG dX9_roundBy_100 f_9_83 lay_70 rfl hV7 ?_
    refine sx_goto (pc := 103) (tgt := 112) dX9_roundBy_103 (by decide) ?_
    exact sv_vret (pc := 112) dX9_roundBy_112 rfl h hP
  have h := sx_neg c6 h
  refine sx_look (pc := 44) (off := 62) (tgt := 106) dX9_roundBy_44 (by decide) (by show Op.lookupswitch.offset [(61, 36), (124, 45), (125, 54)] 62 l1.toInt = 62; rw [lv_osw (a := 61) c2 rfl, lv_osw (a := 124) c4 rfl, lv_osw (a := 125) c6 rfl]; rfl) (by decide) ?_
  refine sx_aload_n (pc := 106) dX9_roundBy_106 sx_m0 ?_
  refine sx_bipush (pc := 107) (v := 32) dX9_roundBy_107 (by decide) ?_
  obtain ⟨V8, hV8⟩ : ∃ z : sv_V, z = sv_I V1 70 11 (32 : Int32) := ⟨_, rfl⟩
  have h := sx_letE hV8 h
  refine sv_putI (pc := 109) hG dX9_roundBy_109 f_9_83 lay_70 rfl hV8 ?_
  exact sv_vret (pc := 112) dX9_roundBy_112 rfl h hP
def B_X9_roundBy_24  (l1 : Int32) (s1 : Int32) (V : sv_V) : Option sv_V := sx_let (sv_I V 70 9 s1) (fun V9 => if l1 = (25 : Int32) then (B_X9_roundBy_40  l1 (32 : Int32) V9) else (B_X9_roundBy_40  l1 (0 : Int32) V9))
set_option maxRecDepth 20000 in
theorem tB_X9_roundBy_24 {g : sx_G} (hG : sx_Go g) {P : Option Value → sv_V → Prop} {Vr : sv_V} (hP : P none Vr)   {l1 : Int32} {s1 : Int32} {V : sv_V} (h : B_X9_roundBy_24  l1 s1 V = some Vr) : sv_N g qX9_roundBy 0 24 [(0, .ref 70), (1, .int l1)] [.int s1, .ref 70] V P := by
  unfold B_X9_roundBy_24 at h
  obtain ⟨V9, hV9⟩ : ∃ z : sv_V, z = sv_I V 70 9 s1 := ⟨_, rfl⟩
  have h := sx_letE hV9 h
  refine sv_putI (pc := 24) hG dX9_roundBy_24 f_9_77 lay_70 rfl hV9 ?_
  refine sx_aload_n (pc := 27) dX9_roundBy_27 sx_m0 ?_
  refine sx_iload_n (pc := 28) dX9_roundBy_28 sx_m1 ?_
  refine sx_bipush (pc := 29) (v := 25) dX9_roundBy_29 (by decide) ?_
  refine sx_icmp_ne (pc := 31) (tgt := 39) dX9_roundBy_31 (by decide) (fun c10 => ?_) (fun c10 => ?_)
  · have h := sx_neg c10 h
    refine sx_iconst (pc := 39) (v := 0) dX9_roundBy_39 (by decide) ?_
    refine sx_wk (sx_s1 sx_m0 (sx_s1 sx_m1 sx_s0)) ?_
    exact tB_X9_roundBy_40 hG hP  h
  · have h := sx_pos c10 h
    refine sx_bipush (pc := 34) (v := 32) dX9_roundBy_34 (by decide) ?_
    refine sx_goto (pc := 36) (tgt := 40) dX9_roundBy_36 (by decide) ?_
    refine sx_wk (sx_s1 sx_m0 (sx_s1 sx_m1 sx_s0)) ?_
    exact tB_X9_roundBy_40 hG hP  h
def F_X9_roundBy (l1 : Int32) (V : sv_V) : Option sv_V := if l1 = (61 : Int32) then (B_X9_roundBy_24  l1 (32 : Int32) V) else (if l1 = (122 : Int32) then (B_X9_roundBy_24  l1 (0 : Int32) V) else (B_X9_roundBy_24  l1 (64 : Int32) V))
set_option maxRecDepth 20000 in
theorem t_X9_roundBy {g : sx_G} (hG : sx_Go g) {P : Option Value → sv_V → Prop} {Vr : sv_V} (hP : P none Vr) {l1 : Int32} {V : sv_V} (h : F_X9_roundBy l1 V = some Vr) : sv_N g qX9_roundBy 0 0 [(0, .ref 70), (1, .int l1)] [] V P := by
  unfold F_X9_roundBy at h
  refine sx_aload_n (pc := 0) dX9_roundBy_0 sx_m0 ?_
  refine sx_iload_n (pc := 1) dX9_roundBy_1 sx_m1 ?_
  refine sx_bipush (pc := 2) (v := 61) dX9_roundBy_2 (by decide) ?_
  refine sx_icmp_ne (pc := 4) (tgt := 12) dX9_roundBy_4 (by decide) (fun c11 => ?_) (fun c11 => ?_)
  · have h := sx_neg c11 h
    refine sx_iload_n (pc := 12) dX9_roundBy_12 sx_m1 ?_
    refine sx_bipush (pc := 13) (v := 122) dX9_roundBy_13 (by decide) ?_
    refine sx_icmp_ne (pc := 15) (tgt := 22) dX9_roundBy_15 (by decide) (fun c12 => ?_) (fun c12 => ?_)
    · have h := sx_neg c12 h
      refine sx_bipush (pc := 22) (v := 64) dX9_roundBy_22 (by decide) ?_
      refine sx_wk (sx_s1 sx_m0 (sx_s1 sx_m1 sx_s0)) ?_
      exact tB_X9_roundBy_24 hG hP  h
    · have h := sx_pos c12 h
      refine sx_iconst (pc := 18) (v := 0) dX9_roundBy_18 (by decide) ?_
      refine sx_goto (pc := 19) (tgt := 24) dX9_roundBy_19 (by decide) ?_
      refine sx_wk (sx_s1 sx_m0 (sx_s1 sx_m1 sx_s0)) ?_
      exact tB_X9_roundBy_24 hG hP  h
  · have h := sx_pos c11 h
    refine sx_bipush (pc := 7) (v := 32) dX9_roundBy_7 (by decide) ?_
    refine sx_goto (pc := 9) (tgt := 24) dX9_roundBy_9 (by decide) ?_
    refine sx_wk (sx_s1 sx_m0 (sx_s1 sx_m1 sx_s0)) ?_
    exact tB_X9_roundBy_24 hG hP  h
theorem dX9_roundFinely_0 : decode cX9_roundFinely 0 = .ok (.iload_n 1, 1) := by decide +kernel
theorem dX9_roundFinely_1 : decode cX9_roundFinely 1 = .ok (.bipush 6, 2) := by decide +kernel
theorem dX9_roundFinely_3 : decode cX9_roundFinely 3 = .ok (.ishr, 1) := by decide +kernel
theorem dX9_roundFinely_4 : decode cX9_roundFinely 4 = .ok (.iconst 3, 1) := by decide +kernel
theorem dX9_roundFinely_5 : decode cX9_roundFinely 5 = .ok (.iand, 1) := by decide +kernel
theorem dX9_roundFinely_6 : decode cX9_roundFinely 6 = .ok (.istore_n 3, 1) := by decide +kernel
theorem dX9_roundFinely_7 : decode cX9_roundFinely 7 = .ok (.iload_n 3, 1) := by decide +kernel
theorem dX9_roundFinely_8 : decode cX9_roundFinely 8 = .ok (.iconst 3, 1) := by decide +kernel
theorem dX9_roundFinely_9 : decode cX9_roundFinely 9 = .ok (.if_icmp .ne 5, 3) := by decide +kernel
theorem dX9_roundFinely_12 : decode cX9_roundFinely 12 = .ok (.iconst 0, 1) := by decide +kernel
theorem dX9_roundFinely_13 : decode cX9_roundFinely 13 = .ok (.ireturn, 1) := by decide +kernel
theorem dX9_roundFinely_14 : decode cX9_roundFinely 14 = .ok (.aload_n 0, 1) := by decide +kernel
theorem dX9_roundFinely_15 : decode cX9_roundFinely 15 = .ok (.iload_n 2, 1) := by decide +kernel
theorem dX9_roundFinely_16 : decode cX9_roundFinely 16 = .ok (.bipush 118, 2) := by decide +kernel
theorem dX9_roundFinely_18 : decode cX9_roundFinely 18 = .ok (.if_icmp .ne 10, 3) := by decide +kernel
theorem dX9_roundFinely_21 : decode cX9_roundFinely 21 = .ok (.bipush 32, 2) := by decide +kernel
theorem dX9_roundFinely_23 : decode cX9_roundFinely 23 = .ok (.iload_n 3, 1) := by decide +kernel
theorem dX9_roundFinely_24 : decode cX9_roundFinely 24 = .ok (.ishl, 1) := by decide +kernel
theorem dX9_roundFinely_25 : decode cX9_roundFinely 25 = .ok (.goto 16, 3) := by decide +kernel
theorem dX9_roundFinely_28 : decode cX9_roundFinely 28 = .ok (.iload_n 3, 1) := by decide +kernel
theorem dX9_roundFinely_29 : decode cX9_roundFinely 29 = .ok (.ifCond .ne 8, 3) := by decide +kernel
theorem dX9_roundFinely_32 : decode cX9_roundFinely 32 = .ok (.bipush 22, 2) := by decide +kernel
theorem dX9_roundFinely_34 : decode cX9_roundFinely 34 = .ok (.goto 7, 3) := by decide +kernel
theorem dX9_roundFinely_37 : decode cX9_roundFinely 37 = .ok (.bipush 45, 2) := by decide +kernel
theorem dX9_roundFinely_39 : decode cX9_roundFinely 39 = .ok (.iload_n 3, 1) := by decide +kernel
theorem dX9_roundFinely_40 : decode cX9_roundFinely 40 = .ok (.imul, 1) := by decide +kernel
theorem dX9_roundFinely_41 : decode cX9_roundFinely 41 = .ok (.putfield 77, 3) := by decide +kernel
theorem dX9_roundFinely_44 : decode cX9_roundFinely 44 = .ok (.aload_n 0, 1) := by decide +kernel
theorem dX9_roundFinely_45 : decode cX9_roundFinely 45 = .ok (.iload_n 1, 1) := by decide +kernel
theorem dX9_roundFinely_46 : decode cX9_roundFinely 46 = .ok (.iconst 4, 1) := by decide +kernel
theorem dX9_roundFinely_47 : decode cX9_roundFinely 47 = .ok (.ishr, 1) := by decide +kernel
theorem dX9_roundFinely_48 : decode cX9_roundFinely 48 = .ok (.iconst 3, 1) := by decide +kernel
theorem dX9_roundFinely_49 : decode cX9_roundFinely 49 = .ok (.iand, 1) := by decide +kernel
theorem dX9_roundFinely_50 : decode cX9_roundFinely 50 = .ok (.aload_n 0, 1) := by decide +kernel
theorem dX9_roundFinely_51 : decode cX9_roundFinely 51 = .ok (.getfield 77, 3) := by decide +kernel
theorem dX9_roundFinely_54 : decode cX9_roundFinely 54 = .ok (.imul, 1) := by decide +kernel
theorem dX9_roundFinely_55 : decode cX9_roundFinely 55 = .ok (.iconst 4, 1) := by decide +kernel
theorem dX9_roundFinely_56 : decode cX9_roundFinely 56 = .ok (.idiv, 1) := by decide +kernel
theorem dX9_roundFinely_57 : decode cX9_roundFinely 57 = .ok (.putfield 80, 3) := by decide +kernel
theorem dX9_roundFinely_60 : decode cX9_roundFinely 60 = .ok (.iload_n 1, 1) := by decide +kernel
theorem dX9_roundFinely_61 : decode cX9_roundFinely 61 = .ok (.bipush 15, 2) := by decide +kernel
theorem dX9_roundFinely_63 : decode cX9_roundFinely 63 = .ok (.iand, 1) := by decide +kernel
theorem dX9_roundFinely_64 : decode cX9_roundFinely 64 = .ok (.istore 4, 2) := by decide +kernel
theorem dX9_roundFinely_66 : decode cX9_roundFinely 66 = .ok (.aload_n 0, 1) := by decide +kernel
theorem dX9_roundFinely_67 : decode cX9_roundFinely 67 = .ok (.iload 4, 2) := by decide +kernel
theorem dX9_roundFinely_69 : decode cX9_roundFinely 69 = .ok (.ifCond .ne 12, 3) := by decide +kernel
theorem dX9_roundFinely_72 : decode cX9_roundFinely 72 = .ok (.aload_n 0, 1) := by decide +kernel
theorem dX9_roundFinely_73 : decode cX9_roundFinely 73 = .ok (.getfield 77, 3) := by decide +kernel
theorem dX9_roundFinely_76 : decode cX9_roundFinely 76 = .ok (.iconst 1, 1) := by decide +kernel
theorem dX9_roundFinely_77 : decode cX9_roundFinely 77 = .ok (.isub, 1) := by decide +kernel
theorem dX9_roundFinely_78 : decode cX9_roundFinely 78 = .ok (.goto 15, 3) := by decide +kernel
theorem dX9_roundFinely_81 : decode cX9_roundFinely 81 = .ok (.iload 4, 2) := by decide +kernel
theorem dX9_roundFinely_83 : decode cX9_roundFinely 83 = .ok (.iconst 4, 1) := by decide +kernel
theorem dX9_roundFinely_84 : decode cX9_roundFinely 84 = .ok (.isub, 1) := by decide +kernel
theorem dX9_roundFinely_85 : decode cX9_roundFinely 85 = .ok (.aload_n 0, 1) := by decide +kernel
theorem dX9_roundFinely_86 : decode cX9_roundFinely 86 = .ok (.getfield 77, 3) := by decide +kernel
theorem dX9_roundFinely_89 : decode cX9_roundFinely 89 = .ok (.imul, 1) := by decide +kernel
theorem dX9_roundFinely_90 : decode cX9_roundFinely 90 = .ok (.bipush 8, 2) := by decide +kernel
theorem dX9_roundFinely_92 : decode cX9_roundFinely 92 = .ok (.idiv, 1) := by decide +kernel
theorem dX9_roundFinely_93 : decode cX9_roundFinely 93 = .ok (.putfield 83, 3) := by decide +kernel
theorem dX9_roundFinely_96 : decode cX9_roundFinely 96 = .ok (.iconst 1, 1) := by decide +kernel
theorem dX9_roundFinely_97 : decode cX9_roundFinely 97 = .ok (.ireturn, 1) := by decide +kernel
def B_X9_roundFinely_41  (l1 : Int32) (s1 : Int32) (V : sv_V) : Option (Int32 × sv_V) := sx_let (sv_I V 70 9 s1) (fun V1 => sx_let (sv_I V1 70 10 ((((l1 >>> ((4 : Int32) &&& 31)) &&& (3 : Int32)) * (V1.1 70 9)) / (4 : Int32))) (fun V2 => sx_let (l1 &&& (15 : Int32)) (fun x3 => if x3 = 0 then (sx_let (sv_I V2 70 11 ((V2.1 70 9) - (1 : Int32))) (fun V6 => some ((1 : Int32), V6))) else (sx_let (sv_I V2 70 11 (((x3 - (4 : Int32)) * (V2.1 70 9)) / (8 : Int32))) (fun V5 => some ((1 : Int32), V5))))))
set_option maxRecDepth 20000 in
theorem tB_X9_roundFinely_41 {g : sx_G} (hG : sx_Go g) {P : Option Value → sv_V → Prop} {r : Int32} {Vr : sv_V} (hP : P (some (.int r)) Vr)   {l1 : Int32} {s1 : Int32} {V : sv_V} (h : B_X9_roundFinely_41  l1 s1 V = some (r, Vr)) : sv_N g qX9_roundFinely 0 41 [(0, .ref 70), (1, .int l1)] [.int s1, .ref 70] V P := by
  unfold B_X9_roundFinely_41 at h
  obtain ⟨V1, hV1⟩ : ∃ z : sv_V, z = sv_I V 70 9 s1 := ⟨_, rfl⟩
  have h := sx_letE hV1 h
  refine sv_putI (pc := 41) hG dX9_roundFinely_41 f_9_77 lay_70 rfl hV1 ?_
  refine sx_aload_n (pc := 44) dX9_roundFinely_44 sx_m0 ?_
  refine sx_iload_n (pc := 45) dX9_roundFinely_45 sx_m1 ?_
  refine sx_iconst (pc := 46) (v := 4) dX9_roundFinely_46 (by decide) ?_
  refine sx_ishr (pc := 47) dX9_roundFinely_47 ?_
  refine sx_iconst (pc := 48) (v := 3) dX9_roundFinely_48 (by decide) ?_
  refine sx_iand (pc := 49) dX9_roundFinely_49 ?_
  refine sx_aload_n (pc := 50) dX9_roundFinely_50 sx_m0 ?_
  refine sv_getI (pc := 51) hG dX9_roundFinely_51 f_9_77 lay_70 rfl ?_
  refine sx_imul (pc := 54) dX9_roundFinely_54 ?_
  refine sx_iconst (pc := 55) (v := 4) dX9_roundFinely_55 (by decide) ?_
  refine sx_idiv (pc := 56) dX9_roundFinely_56 (by decide) ?_
  obtain ⟨V2, hV2⟩ : ∃ z : sv_V, z = sv_I V1 70 10 ((((l1 >>> ((4 : Int32) &&& 31)) &&& (3 : Int32)) * (V1.1 70 9)) / (4 : Int32)) := ⟨_, rfl⟩
  have h := sx_letE hV2 h
  refine sv_putI (pc := 57) hG dX9_roundFinely_57 f_9_80 lay_70 rfl hV2 ?_
  refine sx_iload_n (pc := 60) dX9_roundFinely_60 sx_m1 ?_
  refine sx_bipush (pc := 61) (v := 15) dX9_roundFinely_61 (by decide) ?_
  refine sx_iand (pc := 63) dX9_roundFinely_63 ?_
  refine sv_tI (fun x3 hx3 => ?_)
  have h := sx_letE hx3 h
  refine sx_istore (pc := 64) (lo' := [(4, .int x3), (0, .ref 70), (1, .int l1)]) dX9_roundFinely_64 (by decide) rfl ?_
  refine sx_aload_n (pc := 66) dX9_roundFinely_66 sx_m1 ?_
  refine sx_iload (pc := 67) dX9_roundFinely_67 sx_m0 ?_
  refine sx_if_ne (pc := 69) (tgt := 81) dX9_roundFinely_69 (by decide) (fun c4 => ?_) (fun c4 => ?_)
  · have h := sx_neg c4 h
    refine sx_iload (pc := 81) dX9_roundFinely_81 sx_m0 ?_
    refine sx_iconst (pc := 83) (v := 4) dX9_roundFinely_83 (by decide) ?_
    refine sx_isub (pc := 84) dX9_roundFinely_84 ?_
    refine sx_aload_n (pc := 85) dX9_roundFinely_85 sx_m1 ?_
    refine sv_getI (pc := 86) hG dX9_roundFinely_86 f_9_77 lay_70 rfl ?_
    refine sx_imul (pc := 89) dX9_roundFinely_89 ?_
    refine sx_bipush (pc := 90) (v := 8) dX9_roundFinely_90 (by decide) ?_
    refine sx_idiv (pc := 92) dX9_roundFinely_92 (by decide) ?_
    obtain ⟨V5, hV5⟩ : ∃ z : sv_V, z = sv_I V2 70 11 (((x3 - (4 : Int32)) * (V2.1 70 9)) / (8 : Int32)) := ⟨_, rfl⟩
    have h := sx_letE hV5 h
    refine sv_putI (pc := 93) hG dX9_roundFinely_93 f_9_83 lay_70 rfl hV5 ?_
    refine sx_iconst (pc := 96) (v := 1) dX9_roundFinely_96 (by decide) ?_
    exact sv_zret (pc := 97) dX9_roundFinely_97 rfl rfl h hP
  · have h := sx_pos c4 h
    refine sx_aload_n (pc := 72) dX9_roundFinely_72 sx_m1 ?_
    refine sv_getI (pc := 73) hG dX9_roundFinely_73 f_9_77 lay_70 rfl ?_
    refine sx_iconst (pc := 76) (v := 1) dX9_roundFinely_76 (by decide) ?_
    refine sx_isub (pc := 77) dX9_roundFinely_77 ?_
    refine sx_goto (pc := 78) (tgt := 93) dX9_roundFinely_78 (by decide) ?_
    obtain ⟨V6, hV6⟩ : ∃ z : sv_V, z = sv_I V2 70 11 ((V2.1 70 9) - (1 : Int32)) := ⟨_, rfl⟩
    have h := sx_letE hV6 h
    refine sv_putI (pc := 93) hG dX9_roundFinely_93 f_9_83 lay_70 rfl hV6 ?_
    refine sx_iconst (pc := 96) (v := 1) dX9_roundFinely_96 (by decide) ?_
    exact sv_zret (pc := 97) dX9_roundFinely_97 rfl rfl h hP
def F_X9_roundFinely (l1 : Int32) (l2 : Int32) (V : sv_V) : Option (Int32 × sv_V) := sx_let ((l1 >>> ((6 : Int32) &&& 31)) &&& (3 : Int32)) (fun x7 => if x7 = (3 : Int32) then (some ((0 : Int32), V)) else (if l2 = (118 : Int32) then (B_X9_roundFinely_41  l1 ((32 : Int32) <<< (x7 &&& 31)) V) else (if x7 = 0 then (B_X9_roundFinely_41  l1 (22 : Int32) V) else (B_X9_roundFinely_41  l1 ((45 : Int32) * x7) V))))
set_option maxRecDepth 20000 in
theorem t_X9_roundFinely {g : sx_G} (hG : sx_Go g) {P : Option Value → sv_V → Prop} {r : Int32} {Vr : sv_V} (hP : P (some (.int r)) Vr) {l1 : Int32} {l2 : Int32} {V : sv_V} (h : F_X9_roundFinely l1 l2 V = some (r, Vr)) : sv_N g qX9_roundFinely 0 0 [(0, .ref 70), (1, .int l1), (2, .int l2)] [] V P := by
  unfold F_X9_roundFinely at h
  refine sx_iload_n (pc := 0) dX9_roundFinely_0 sx_m1 ?_
  refine sx_bipush (pc := 1) (v := 6) dX9_roundFinely_1 (by decide) ?_
  refine sx_ishr (pc := 3) dX9_roundFinely_3 ?_
  refine sx_iconst (pc := 4) (v := 3) dX9_roundFinely_4 (by decide) ?_
  refine sx_iand (pc := 5) dX9_roundFinely_5 ?_
  refine sv_tI (fun x7 hx7 => ?_)
  have h := sx_letE hx7 h
  refine sx_istore_n (pc := 6) (lo' := [(3, .int x7), (0, .ref 70), (1, .int l1), (2, .int l2)]) dX9_roundFinely_6 (by decide) rfl ?_
  refine sx_iload_n (pc := 7) dX9_roundFinely_7 sx_m0 ?_
  refine sx_iconst (pc := 8) (v := 3) dX9_roundFinely_8 (by decide) ?_
  refine sx_icmp_ne (pc := 9) (tgt := 14) dX9_roundFinely_9 (by decide) (fun c8 => ?_) (fun c8 => ?_)
  · have h := sx_neg c8 h
    refine sx_aload_n (pc := 14) dX9_roundFinely_14 sx_m1 ?_
    refine sx_iload_n (pc := 15) dX9_roundFinely_15 sx_m3 ?_
    refine sx_bipush (pc := 16) (v := 118) dX9_roundFinely_16 (by decide) ?_
    refine sx_icmp_ne (pc := 18) (tgt := 28) dX9_roundFinely_18 (by decide) (fun c9 => ?_) (fun c9 => ?_)
    · have h := sx_neg c9 h
      refine sx_iload_n (pc := 28) dX9_roundFinely_28 sx_m0 ?_
      refine sx_if_ne (pc := 29) (tgt := 37) dX9_roundFinely_29 (by decide) (fun c10 => ?_) (fun c10 => ?_)
      · have h := sx_neg c10 h
        refine sx_bipush (pc := 37) (v := 45) dX9_roundFinely_37 (by decide) ?_
        refine sx_iload_n (pc := 39) dX9_roundFinely_39 sx_m0 ?_
        refine sx_imul (pc := 40) dX9_roundFinely_40 ?_
        refine sx_wk (sx_s1 sx_m1 (sx_s1 sx_m2 sx_s0)) ?_
        exact tB_X9_roundFinely_41 hG hP  h
      · have h := sx_pos c10 h
        refine sx_bipush (pc := 32) (v := 22) dX9_roundFinely_32 (by decide) ?_
        refine sx_goto (pc := 34) (tgt := 41) dX9_roundFinely_34 (by decide) ?_
        refine sx_wk (sx_s1 sx_m1 (sx_s1 sx_m2 sx_s0)) ?_
        exact tB_X9_roundFinely_41 hG hP  h
    · have h := sx_pos c9 h
      refine sx_bipush (pc := 21) (v := 32) dX9_roundFinely_21 (by decide) ?_
      refine sx_iload_n (pc := 23) dX9_roundFinely_23 sx_m0 ?_
      refine sx_ishl (pc := 24) dX9_roundFinely_24 ?_
      refine sx_goto (pc := 25) (tgt := 41) dX9_roundFinely_25 (by decide) ?_
      refine sx_wk (sx_s1 sx_m1 (sx_s1 sx_m2 sx_s0)) ?_
      exact tB_X9_roundFinely_41 hG hP  h
  · have h := sx_pos c8 h
    refine sx_iconst (pc := 12) (v := 0) dX9_roundFinely_12 (by decide) ?_
    exact sv_zret (pc := 13) dX9_roundFinely_13 rfl rfl h hP
theorem dX10_addLine_0 : decode cX10_addLine 0 = .ok (.aload_n 0, 1) := by decide +kernel
theorem dX10_addLine_1 : decode cX10_addLine 1 = .ok (.getfield 37, 3) := by decide +kernel
theorem dX10_addLine_4 : decode cX10_addLine 4 = .ok (.bipush 100, 2) := by decide +kernel
theorem dX10_addLine_6 : decode cX10_addLine 6 = .ok (.if_icmp .lt 4, 3) := by decide +kernel
theorem dX10_addLine_9 : decode cX10_addLine 9 = .ok (.return_, 1) := by decide +kernel
theorem dX10_addLine_10 : decode cX10_addLine 10 = .ok (.aload_n 0, 1) := by decide +kernel
theorem dX10_addLine_11 : decode cX10_addLine 11 = .ok (.getfield 9, 3) := by decide +kernel
theorem dX10_addLine_14 : decode cX10_addLine 14 = .ok (.aload_n 0, 1) := by decide +kernel
theorem dX10_addLine_15 : decode cX10_addLine 15 = .ok (.getfield 37, 3) := by decide +kernel
theorem dX10_addLine_18 : decode cX10_addLine 18 = .ok (.iconst 2, 1) := by decide +kernel
theorem dX10_addLine_19 : decode cX10_addLine 19 = .ok (.aload_n 1, 1) := by decide +kernel
theorem dX10_addLine_20 : decode cX10_addLine 20 = .ok (.getfield 66, 3) := by decide +kernel
theorem dX10_addLine_23 : decode cX10_addLine 23 = .ok (.iload_n 2, 1) := by decide +kernel
theorem dX10_addLine_24 : decode cX10_addLine 24 = .ok (.iaload, 1) := by decide +kernel
theorem dX10_addLine_25 : decode cX10_addLine 25 = .ok (.imul, 1) := by decide +kernel
theorem dX10_addLine_26 : decode cX10_addLine 26 = .ok (.iastore, 1) := by decide +kernel
theorem dX10_addLine_27 : decode cX10_addLine 27 = .ok (.aload_n 0, 1) := by decide +kernel
theorem dX10_addLine_28 : decode cX10_addLine 28 = .ok (.getfield 15, 3) := by decide +kernel
theorem dX10_addLine_31 : decode cX10_addLine 31 = .ok (.aload_n 0, 1) := by decide +kernel
theorem dX10_addLine_32 : decode cX10_addLine 32 = .ok (.getfield 37, 3) := by decide +kernel
theorem dX10_addLine_35 : decode cX10_addLine 35 = .ok (.iconst 2, 1) := by decide +kernel
theorem dX10_addLine_36 : decode cX10_addLine 36 = .ok (.aload_n 1, 1) := by decide +kernel
theorem dX10_addLine_37 : decode cX10_addLine 37 = .ok (.getfield 88, 3) := by decide +kernel
theorem dX10_addLine_40 : decode cX10_addLine 40 = .ok (.iload_n 2, 1) := by decide +kernel
theorem dX10_addLine_41 : decode cX10_addLine 41 = .ok (.iaload, 1) := by decide +kernel
theorem dX10_addLine_42 : decode cX10_addLine 42 = .ok (.imul, 1) := by decide +kernel
theorem dX10_addLine_43 : decode cX10_addLine 43 = .ok (.iastore, 1) := by decide +kernel
theorem dX10_addLine_44 : decode cX10_addLine 44 = .ok (.aload_n 0, 1) := by decide +kernel
theorem dX10_addLine_45 : decode cX10_addLine 45 = .ok (.getfield 18, 3) := by decide +kernel
theorem dX10_addLine_48 : decode cX10_addLine 48 = .ok (.aload_n 0, 1) := by decide +kernel
theorem dX10_addLine_49 : decode cX10_addLine 49 = .ok (.getfield 37, 3) := by decide +kernel
theorem dX10_addLine_52 : decode cX10_addLine 52 = .ok (.iconst 2, 1) := by decide +kernel
theorem dX10_addLine_53 : decode cX10_addLine 53 = .ok (.aload_n 1, 1) := by decide +kernel
theorem dX10_addLine_54 : decode cX10_addLine 54 = .ok (.getfield 66, 3) := by decide +kernel
theorem dX10_addLine_57 : decode cX10_addLine 57 = .ok (.iload_n 2, 1) := by decide +kernel
theorem dX10_addLine_58 : decode cX10_addLine 58 = .ok (.iaload, 1) := by decide +kernel
theorem dX10_addLine_59 : decode cX10_addLine 59 = .ok (.imul, 1) := by decide +kernel
theorem dX10_addLine_60 : decode cX10_addLine 60 = .ok (.iastore, 1) := by decide +kernel
theorem dX10_addLine_61 : decode cX10_addLine 61 = .ok (.aload_n 0, 1) := by decide +kernel
theorem dX10_addLine_62 : decode cX10_addLine 62 = .ok (.getfield 21, 3) := by decide +kernel
theorem dX10_addLine_65 : decode cX10_addLine 65 = .ok (.aload_n 0, 1) := by decide +kernel
theorem dX10_addLine_66 : decode cX10_addLine 66 = .ok (.getfield 37, 3) := by decide +kernel
theorem dX10_addLine_69 : decode cX10_addLine 69 = .ok (.iconst 2, 1) := by decide +kernel
theorem dX10_addLine_70 : decode cX10_addLine 70 = .ok (.aload_n 1, 1) := by decide +kernel
theorem dX10_addLine_71 : decode cX10_addLine 71 = .ok (.getfield 88, 3) := by decide +kernel
theorem dX10_addLine_74 : decode cX10_addLine 74 = .ok (.iload_n 2, 1) := by decide +kernel
theorem dX10_addLine_75 : decode cX10_addLine 75 = .ok (.iaload, 1) := by decide +kernel
theorem dX10_addLine_76 : decode cX10_addLine 76 = .ok (.imul, 1) := by decide +kernel
theorem dX10_addLine_77 : decode cX10_addLine 77 = .ok (.iastore, 1) := by decide +kernel
theorem dX10_addLine_78 : decode cX10_addLine 78 = .ok (.aload_n 0, 1) := by decide +kernel
theorem dX10_addLine_79 : decode cX10_addLine 79 = .ok (.getfield 24, 3) := by decide +kernel
theorem dX10_addLine_82 : decode cX10_addLine 82 = .ok (.aload_n 0, 1) := by decide +kernel
theorem dX10_addLine_83 : decode cX10_addLine 83 = .ok (.getfield 37, 3) := by decide +kernel
theorem dX10_addLine_86 : decode cX10_addLine 86 = .ok (.iconst 2, 1) := by decide +kernel
theorem dX10_addLine_87 : decode cX10_addLine 87 = .ok (.aload_n 1, 1) := by decide +kernel
theorem dX10_addLine_88 : decode cX10_addLine 88 = .ok (.getfield 66, 3) := by decide +kernel
theorem dX10_addLine_91 : decode cX10_addLine 91 = .ok (.iload_n 3, 1) := by decide +kernel
theorem dX10_addLine_92 : decode cX10_addLine 92 = .ok (.iaload, 1) := by decide +kernel
theorem dX10_addLine_93 : decode cX10_addLine 93 = .ok (.imul, 1) := by decide +kernel
theorem dX10_addLine_94 : decode cX10_addLine 94 = .ok (.iastore, 1) := by decide +kernel
theorem dX10_addLine_95 : decode cX10_addLine 95 = .ok (.aload_n 0, 1) := by decide +kernel
theorem dX10_addLine_96 : decode cX10_addLine 96 = .ok (.getfield 27, 3) := by decide +kernel
theorem dX10_addLine_99 : decode cX10_addLine 99 = .ok (.aload_n 0, 1) := by decide +kernel
theorem dX10_addLine_100 : decode cX10_addLine 100 = .ok (.getfield 37, 3) := by decide +kernel
theorem dX10_addLine_103 : decode cX10_addLine 103 = .ok (.iconst 2, 1) := by decide +kernel
theorem dX10_addLine_104 : decode cX10_addLine 104 = .ok (.aload_n 1, 1) := by decide +kernel
theorem dX10_addLine_105 : decode cX10_addLine 105 = .ok (.getfield 88, 3) := by decide +kernel
theorem dX10_addLine_108 : decode cX10_addLine 108 = .ok (.iload_n 3, 1) := by decide +kernel
theorem dX10_addLine_109 : decode cX10_addLine 109 = .ok (.iaload, 1) := by decide +kernel
theorem dX10_addLine_110 : decode cX10_addLine 110 = .ok (.imul, 1) := by decide +kernel
theorem dX10_addLine_111 : decode cX10_addLine 111 = .ok (.iastore, 1) := by decide +kernel
theorem dX10_addLine_112 : decode cX10_addLine 112 = .ok (.aload_n 0, 1) := by decide +kernel
theorem dX10_addLine_113 : decode cX10_addLine 113 = .ok (.getfield 30, 3) := by decide +kernel
theorem dX10_addLine_116 : decode cX10_addLine 116 = .ok (.aload_n 0, 1) := by decide +kernel
theorem dX10_addLine_117 : decode cX10_addLine 117 = .ok (.getfield 37, 3) := by decide +kernel
theorem dX10_addLine_120 : decode cX10_addLine 120 = .ok (.iconst 0, 1) := by decide +kernel
theorem dX10_addLine_121 : decode cX10_addLine 121 = .ok (.bastore, 1) := by decide +kernel
theorem dX10_addLine_122 : decode cX10_addLine 122 = .ok (.aload_n 0, 1) := by decide +kernel
theorem dX10_addLine_123 : decode cX10_addLine 123 = .ok (.dup, 1) := by decide +kernel
theorem dX10_addLine_124 : decode cX10_addLine 124 = .ok (.getfield 37, 3) := by decide +kernel
theorem dX10_addLine_127 : decode cX10_addLine 127 = .ok (.iconst 1, 1) := by decide +kernel
theorem dX10_addLine_128 : decode cX10_addLine 128 = .ok (.iadd, 1) := by decide +kernel
theorem dX10_addLine_129 : decode cX10_addLine 129 = .ok (.putfield 37, 3) := by decide +kernel
theorem dX10_addLine_132 : decode cX10_addLine 132 = .ok (.return_, 1) := by decide +kernel
def F_X10_addLine (l1 : Nat) (l2 : Int32) (l3 : Int32) (V : sv_V) : Option sv_V := if (V.1 60 7) < (100 : Int32) then (if lay l1 = .inl 8 then (cr l1 0).bind (fun b3 => (sv_len 0 b3).bind (fun n5 => if sx_in l2 n5 = true then if sx_in (V.1 60 7) 100 = true then sx_let (sv_I V 61 (V.1 60 7).toNatClampNeg ((2 : Int32) * (V.1 b3 l2.toNatClampNeg))) (fun V9 => (cr l1 1).bind (fun b10 => (sv_len 0 b10).bind (fun n12 => if sx_in l2 n12 = true then if sx_in (V9.1 60 7) 100 = true then sx_let (sv_I V9 62 (V9.1 60 7).toNatClampNeg ((2 : Int32) * (V9.1 b10 l2.toNatClampNeg))) (fun V16 => if sx_in l2 n5 = true then if sx_in (V16.1 60 7) 100 = true then sx_let (sv_I V16 63 (V16.1 60 7).toNatClampNeg ((2 : Int32) * (V16.1 b3 l2.toNatClampNeg))) (fun V19 => if sx_in l2 n12 = true then if sx_in (V19.1 60 7) 100 = true then sx_let (sv_I V19 64 (V19.1 60 7).toNatClampNeg ((2 : Int32) * (V19.1 b10 l2.toNatClampNeg))) (fun V22 => if sx_in l3 n5 = true then if sx_in (V22.1 60 7) 100 = true then sx_let (sv_I V22 65 (V22.1 60 7).toNatClampNeg ((2 : Int32) * (V22.1 b3 l3.toNatClampNeg))) (fun V25 => if sx_in l3 n12 = true then if sx_in (V25.1 60 7) 100 = true then sx_let (sv_I V25 66 (V25.1 60 7).toNatClampNeg ((2 : Int32) * (V25.1 b10 l3.toNatClampNeg))) (fun V28 => if sx_in (V28.1 60 7) 100 = true then sx_let (sv_I V28 67 (V28.1 60 7).toNatClampNeg (0 : Int32)) (fun V30 => sx_let (sv_I V30 60 7 ((V30.1 60 7) + (1 : Int32))) (fun V31 => some V31)) else none) else none else none) else none else none) else none else none) else none else none) else none else none))) else none else none)) else none) else (some V)
set_option maxRecDepth 20000 in
theorem t_X10_addLine {g : sx_G} (hG : sx_Go g) {P : Option Value → sv_V → Prop} {Vr : sv_V} (hP : P none Vr) {l1 : Nat} {l2 : Int32} {l3 : Int32} {V : sv_V} (h : F_X10_addLine l1 l2 l3 V = some Vr) : sv_N g qX10_addLine 0 0 [(0, .ref 60), (1, .ref l1), (2, .int l2), (3, .int l3)] [] V P := by
  unfold F_X10_addLine at h
  refine sx_aload_n (pc := 0) dX10_addLine_0 sx_m0 ?_
  refine sv_getI (pc := 1) hG dX10_addLine_1 f_10_37 lay_60 rfl ?_
  refine sx_bipush (pc := 4) (v := 100) dX10_addLine_4 (by decide) ?_
  refine sx_icmp_lt (pc := 6) (tgt := 10) dX10_addLine_6 (by decide) (fun c1 => ?_) (fun c1 => ?_)
  · have h := sx_pos c1 h
    refine sx_aload_n (pc := 10) dX10_addLine_10 sx_m0 ?_
    refine sv_getA (pc := 11) hG dX10_addLine_11 f_10_9 lay_60 rfl cr_60_0 ?_
    refine sx_aload_n (pc := 14) dX10_addLine_14 sx_m0 ?_
    refine sv_getI (pc := 15) hG dX10_addLine_15 f_10_37 lay_60 rfl ?_
    refine sx_iconst (pc := 18) (v := 2) dX10_addLine_18 (by decide) ?_
    refine sx_aload_n (pc := 19) dX10_addLine_19 sx_m1 ?_
    obtain ⟨g2, h⟩ := sx_grd h
    obtain ⟨b3, g4, h⟩ := sx_bnd h
    refine sv_getA (pc := 20) hG dX10_addLine_20 f_10_66 g2 rfl g4 ?_
    refine sx_iload_n (pc := 23) dX10_addLine_23 sx_m2 ?_
    obtain ⟨n5, g6, h⟩ := sx_bnd h
    obtain ⟨g7, h⟩ := sx_grd h
    refine sv_iald (pc := 24) hG dX10_addLine_24 (sv_len_e g6) g7 ?_
    refine sx_imul (pc := 25) dX10_addLine_25 ?_
    obtain ⟨g8, h⟩ := sx_grd h
    obtain ⟨V9, hV9⟩ : ∃ z : sv_V, z = sv_I V 61 (V.1 60 7).toNatClampNeg ((2 : Int32) * (V.1 b3 l2.toNatClampNeg)) := ⟨_, rfl⟩
    have h := sx_letE hV9 h
    refine sv_iast (pc := 26) hG dX10_addLine_26 lay_61 g8 hV9 ?_
    refine sx_aload_n (pc := 27) dX10_addLine_27 sx_m0 ?_
    refine sv_getA (pc := 28) hG dX10_addLine_28 f_10_15 lay_60 rfl cr_60_1 ?_
    refine sx_aload_n (pc := 31) dX10_addLine_31 sx_m0 ?_
    refine sv_getI (pc := 32) hG dX10_addLine_32 f_10_37 lay_60 rfl ?_
    refine sx_iconst (pc := 35) (v := 2) dX10_addLine_35 (by decide) ?_
    refine sx_aload_n (pc := 36) dX10_addLine_36 sx_m1 ?_
    obtain ⟨b10, g11, h⟩ := sx_bnd h
    refine sv_getA (pc := 37) hG dX10_addLine_37 f_10_88 g2 rfl g11 ?_
    refine sx_iload_n (pc := 40) dX10_addLine_40 sx_m2 ?_
    obtain ⟨n12, g13, h⟩ := sx_bnd h
    obtain ⟨g14, h⟩ := sx_grd h
    refine sv_iald (pc := 41) hG dX10_addLine_41 (sv_len_e g13) g14 ?_
    refine sx_imul (pc := 42) dX10_addLine_42 ?_
    obtain ⟨g15, h⟩ := sx_grd h
    obtain ⟨V16, hV16⟩ : ∃ z : sv_V, z = sv_I V9 62 (V9.1 60 7).toNatClampNeg ((2 : Int32) * (V9.1 b10 l2.toNatClampNeg)) := ⟨_, rfl⟩
    have h := sx_letE hV16 h
    refine sv_iast (pc := 43) hG dX10_addLine_43 lay_62 g15 hV16 ?_
    refine sx_aload_n (pc := 44) dX10_addLine_44 sx_m0 ?_
    refine sv_getA (pc := 45) hG dX10_addLine_45 f_10_18 lay_60 rfl cr_60_2 ?_
    refine sx_aload_n (pc := 48) dX10_addLine_48 sx_m0 ?_
    refine sv_getI (pc := 49) hG dX10_addLine_49 f_10_37 lay_60 rfl ?_
    refine sx_iconst (pc := 52) (v := 2) dX10_addLine_52 (by decide) ?_
    refine sx_aload_n (pc := 53) dX10_addLine_53 sx_m1 ?_
    refine sv_getA (pc := 54) hG dX10_addLine_54 f_10_66 g2 rfl g4 ?_
    refine sx_iload_n (pc := 57) dX10_addLine_57 sx_m2 ?_
    obtain ⟨g17, h⟩ := sx_grd h
    refine sv_iald (pc := 58) hG dX10_addLine_58 (sv_len_e g6) g17 ?_
    refine sx_imul (pc := 59) dX10_addLine_59 ?_
    obtain ⟨g18, h⟩ := sx_grd h
    obtain ⟨V19, hV19⟩ : ∃ z : sv_V, z = sv_I V16 63 (V16.1 60 7).toNatClampNeg ((2 : Int32) * (V16.1 b3 l2.toNatClampNeg)) := ⟨_, rfl⟩
    have h := sx_letE hV19 h
    refine sv_iast (pc := 60) hG dX10_addLine_60 lay_63 g18 hV19 ?_
    refine sx_aload_n (pc := 61) dX10_addLine_61 sx_m0 ?_
    refine sv_getA (pc := 62) hG dX10_addLine_62 f_10_21 lay_60 rfl cr_60_3 ?_
    refine sx_aload_n (pc := 65) dX10_addLine_65 sx_m0 ?_
    refine sv_getI (pc := 66) hG dX10_addLine_66 f_10_37 lay_60 rfl ?_
    refine sx_iconst (pc := 69) (v := 2) dX10_addLine_69 (by decide) ?_
    refine sx_aload_n (pc := 70) dX10_addLine_70 sx_m1 ?_
    refine sv_getA (pc := 71) hG dX10_addLine_71 f_10_88 g2 rfl g11 ?_
    refine sx_iload_n (pc := 74) dX10_addLine_74 sx_m2 ?_
    obtain ⟨g20, h⟩ := sx_grd h
    refine sv_iald (pc := 75) hG dX10_addLine_75 (sv_len_e g13) g20 ?_
    refine sx_imul (pc := 76) dX10_addLine_76 ?_
    obtain ⟨g21, h⟩ := sx_grd h
    obtain ⟨V22, hV22⟩ : ∃ z : sv_V, z = sv_I V19 64 (V19.1 60 7).toNatClampNeg ((2 : Int32) * (V19.1 b10 l2.toNatClampNeg)) := ⟨_, rfl⟩
    have h := sx_letE hV22 h
    refine sv_iast (pc := 77) hG dX10_addLine_77 lay_64 g21 hV22 ?_
    refine sx_aload_n (pc := 78) dX10_addLine_78 sx_m0 ?_
    refine sv_getA (pc := 79) hG dX10_addLine_79 f_10_24 lay_60 rfl cr_60_4 ?_
    refine sx_aload_n (pc := 82) dX10_addLine_82 sx_m0 ?_
    refine sv_getI (pc := 83) hG dX10_addLine_83 f_10_37 lay_60 rfl ?_
    refine sx_iconst (pc := 86) (v := 2) dX10_addLine_86 (by decide) ?_
    refine sx_aload_n (pc := 87) dX10_addLine_87 sx_m1 ?_
    refine sv_getA (pc := 88) hG dX10_addLine_88 f_10_66 g2 rfl g4 ?_
    refine sx_iload_n (pc := 91) dX10_addLine_91 sx_m3 ?_
    obtain ⟨g23, h⟩ := sx_grd h
    refine sv_iald (pc := 92) hG dX10_addLine_92 (sv_len_e g6) g23 ?_
    refine sx_imul (pc := 93) dX10_addLine_93 ?_
    obtain ⟨g24, h⟩ := sx_grd h
    obtain ⟨V25, hV25⟩ : ∃ z : sv_V, z = sv_I V22 65 (V22.1 60 7).toNatClampNeg ((2 : Int32) * (V22.1 b3 l3.toNatClampNeg)) := ⟨_, rfl⟩
    have h := sx_letE hV25 h
    refine sv_iast (pc := 94) hG dX10_addLine_94 lay_65 g24 hV25 ?_
    refine sx_aload_n (pc := 95) dX10_addLine_95 sx_m0 ?_
    refine sv_getA (pc := 96) hG dX10_addLine_96 f_10_27 lay_60 rfl cr_60_5 ?_
    refine sx_aload_n (pc := 99) dX10_addLine_99 sx_m0 ?_
    refine sv_getI (pc := 100) hG dX10_addLine_100 f_10_37 lay_60 rfl ?_
    refine sx_iconst (pc := 103) (v := 2) dX10_addLine_103 (by decide) ?_
    refine sx_aload_n (pc := 104) dX10_addLine_104 sx_m1 ?_
    refine sv_getA (pc := 105) hG dX10_addLine_105 f_10_88 g2 rfl g11 ?_
    refine sx_iload_n (pc := 108) dX10_addLine_108 sx_m3 ?_
    obtain ⟨g26, h⟩ := sx_grd h
    refine sv_iald (pc := 109) hG dX10_addLine_109 (sv_len_e g13) g26 ?_
    refine sx_imul (pc := 110) dX10_addLine_110 ?_
    obtain ⟨g27, h⟩ := sx_grd h
    obtain ⟨V28, hV28⟩ : ∃ z : sv_V, z = sv_I V25 66 (V25.1 60 7).toNatClampNeg ((2 : Int32) * (V25.1 b10 l3.toNatClampNeg)) := ⟨_, rfl⟩
    have h := sx_letE hV28 h
    refine sv_iast (pc := 111) hG dX10_addLine_111 lay_66 g27 hV28 ?_
    refine sx_aload_n (pc := 112) dX10_addLine_112 sx_m0 ?_
    refine sv_getA (pc := 113) hG dX10_addLine_113 f_10_30 lay_60 rfl cr_60_6 ?_
    refine sx_aload_n (pc := 116) dX10_addLine_116 sx_m0 ?_
    refine sv_getI (pc := 117) hG dX10_addLine_117 f_10_37 lay_60 rfl ?_
    refine sx_iconst (pc := 120) (v := 0) dX10_addLine_120 (by decide) ?_
    obtain ⟨g29, h⟩ := sx_grd h
    obtain ⟨V30, hV30⟩ : ∃ z : sv_V, z = sv_I V28 67 (V28.1 60 7).toNatClampNeg (0 : Int32) := ⟨_, rfl⟩
    have h := sx_letE hV30 h
    refine sv_zast (pc := 121) hG dX10_addLine_121 lay_67 g29 rfl hV30 ?_
    refine sx_aload_n (pc := 122) dX10_addLine_122 sx_m0 ?_
    refine sx_dup (pc := 123) dX10_addLine_123 rfl ?_
    refine sv_getI (pc := 124) hG dX10_addLine_124 f_10_37 lay_60 rfl ?_
    refine sx_iconst (pc := 127) (v := 1) dX10_addLine_127 (by decide) ?_
    refine sx_iadd (pc := 128) dX10_addLine_128 ?_
    obtain ⟨V31, hV31⟩ : ∃ z : sv_V, z = sv_I V30 60 7 ((V30.1 60 7) + (1 : Int32)) := ⟨_, rfl⟩
    have h := sx_letE hV31 h
    refine sv_putI (pc := 129) hG dX10_addLine_129 f_10_37 lay_60 rfl hV31 ?_
    exact sv_vret (pc := 132) dX10_addLine_132 rfl h hP
  · have h := sx_neg c1 h
    exact sv_vret (pc := 9) dX10_addLine_9 rfl h hP
theorem dX10_addCurve_0 : decode cX10_addCurve 0 = .ok (.aload_n 0, 1) := by decide +kernel
theorem dX10_addCurve_1 : decode cX10_addCurve 1 = .ok (.getfield 37, 3) := by decide +kernel
theorem dX10_addCurve_4 : decode cX10_addCurve 4 = .ok (.bipush 100, 2) := by decide +kernel
theorem dX10_addCurve_6 : decode cX10_addCurve 6 = .ok (.if_icmp .lt 4, 3) := by decide +kernel
theorem dX10_addCurve_9 : decode cX10_addCurve 9 = .ok (.return_, 1) := by decide +kernel
theorem dX10_addCurve_10 : decode cX10_addCurve 10 = .ok (.aload_n 1, 1) := by decide +kernel
theorem dX10_addCurve_11 : decode cX10_addCurve 11 = .ok (.getfield 78, 3) := by decide +kernel
theorem dX10_addCurve_14 : decode cX10_addCurve 14 = .ok (.iload_n 2, 1) := by decide +kernel
theorem dX10_addCurve_15 : decode cX10_addCurve 15 = .ok (.iaload, 1) := by decide +kernel
theorem dX10_addCurve_16 : decode cX10_addCurve 16 = .ok (.iconst 1, 1) := by decide +kernel
theorem dX10_addCurve_17 : decode cX10_addCurve 17 = .ok (.if_icmp .ne 7, 3) := by decide +kernel
theorem dX10_addCurve_20 : decode cX10_addCurve 20 = .ok (.iload_n 2, 1) := by decide +kernel
theorem dX10_addCurve_21 : decode cX10_addCurve 21 = .ok (.goto 4, 3) := by decide +kernel
theorem dX10_addCurve_24 : decode cX10_addCurve 24 = .ok (.iload_n 3, 1) := by decide +kernel
theorem dX10_addCurve_25 : decode cX10_addCurve 25 = .ok (.istore 5, 2) := by decide +kernel
theorem dX10_addCurve_27 : decode cX10_addCurve 27 = .ok (.aload_n 1, 1) := by decide +kernel
theorem dX10_addCurve_28 : decode cX10_addCurve 28 = .ok (.getfield 78, 3) := by decide +kernel
theorem dX10_addCurve_31 : decode cX10_addCurve 31 = .ok (.iload 4, 2) := by decide +kernel
theorem dX10_addCurve_33 : decode cX10_addCurve 33 = .ok (.iaload, 1) := by decide +kernel
theorem dX10_addCurve_34 : decode cX10_addCurve 34 = .ok (.iconst 1, 1) := by decide +kernel
theorem dX10_addCurve_35 : decode cX10_addCurve 35 = .ok (.if_icmp .ne 8, 3) := by decide +kernel
theorem dX10_addCurve_38 : decode cX10_addCurve 38 = .ok (.iload 4, 2) := by decide +kernel
theorem dX10_addCurve_40 : decode cX10_addCurve 40 = .ok (.goto 4, 3) := by decide +kernel
theorem dX10_addCurve_43 : decode cX10_addCurve 43 = .ok (.iload_n 3, 1) := by decide +kernel
theorem dX10_addCurve_44 : decode cX10_addCurve 44 = .ok (.istore 6, 2) := by decide +kernel
theorem dX10_addCurve_46 : decode cX10_addCurve 46 = .ok (.aload_n 0, 1) := by decide +kernel
theorem dX10_addCurve_47 : decode cX10_addCurve 47 = .ok (.getfield 9, 3) := by decide +kernel
theorem dX10_addCurve_50 : decode cX10_addCurve 50 = .ok (.aload_n 0, 1) := by decide +kernel
theorem dX10_addCurve_51 : decode cX10_addCurve 51 = .ok (.getfield 37, 3) := by decide +kernel
theorem dX10_addCurve_54 : decode cX10_addCurve 54 = .ok (.aload_n 1, 1) := by decide +kernel
theorem dX10_addCurve_55 : decode cX10_addCurve 55 = .ok (.getfield 66, 3) := by decide +kernel
theorem dX10_addCurve_58 : decode cX10_addCurve 58 = .ok (.iload_n 2, 1) := by decide +kernel
theorem dX10_addCurve_59 : decode cX10_addCurve 59 = .ok (.iaload, 1) := by decide +kernel
theorem dX10_addCurve_60 : decode cX10_addCurve 60 = .ok (.aload_n 1, 1) := by decide +kernel
theorem dX10_addCurve_61 : decode cX10_addCurve 61 = .ok (.getfield 66, 3) := by decide +kernel
theorem dX10_addCurve_64 : decode cX10_addCurve 64 = .ok (.iload 5, 2) := by decide +kernel
theorem dX10_addCurve_66 : decode cX10_addCurve 66 = .ok (.iaload, 1) := by decide +kernel
theorem dX10_addCurve_67 : decode cX10_addCurve 67 = .ok (.iadd, 1) := by decide +kernel
theorem dX10_addCurve_68 : decode cX10_addCurve 68 = .ok (.iastore, 1) := by decide +kernel
theorem dX10_addCurve_69 : decode cX10_addCurve 69 = .ok (.aload_n 0, 1) := by decide +kernel
theorem dX10_addCurve_70 : decode cX10_addCurve 70 = .ok (.getfield 15, 3) := by decide +kernel
theorem dX10_addCurve_73 : decode cX10_addCurve 73 = .ok (.aload_n 0, 1) := by decide +kernel
theorem dX10_addCurve_74 : decode cX10_addCurve 74 = .ok (.getfield 37, 3) := by decide +kernel
theorem dX10_addCurve_77 : decode cX10_addCurve 77 = .ok (.aload_n 1, 1) := by decide +kernel
theorem dX10_addCurve_78 : decode cX10_addCurve 78 = .ok (.getfield 88, 3) := by decide +kernel
theorem dX10_addCurve_81 : decode cX10_addCurve 81 = .ok (.iload_n 2, 1) := by decide +kernel
theorem dX10_addCurve_82 : decode cX10_addCurve 82 = .ok (.iaload, 1) := by decide +kernel
theorem dX10_addCurve_83 : decode cX10_addCurve 83 = .ok (.aload_n 1, 1) := by decide +kernel
theorem dX10_addCurve_84 : decode cX10_addCurve 84 = .ok (.getfield 88, 3) := by decide +kernel
theorem dX10_addCurve_87 : decode cX10_addCurve 87 = .ok (.iload 5, 2) := by decide +kernel
theorem dX10_addCurve_89 : decode cX10_addCurve 89 = .ok (.iaload, 1) := by decide +kernel
theorem dX10_addCurve_90 : decode cX10_addCurve 90 = .ok (.iadd, 1) := by decide +kernel
theorem dX10_addCurve_91 : decode cX10_addCurve 91 = .ok (.iastore, 1) := by decide +kernel
theorem dX10_addCurve_92 : decode cX10_addCurve 92 = .ok (.aload_n 0, 1) := by decide +kernel
theorem dX10_addCurve_93 : decode cX10_addCurve 93 = .ok (.getfield 18, 3) := by decide +kernel
theorem dX10_addCurve_96 : decode cX10_addCurve 96 = .ok (.aload_n 0, 1) := by decide +kernel
theorem dX10_addCurve_97 : decode cX10_addCurve 97 = .ok (.getfield 37, 3) := by decide +kernel
theorem dX10_addCurve_100 : decode cX10_addCurve 100 = .ok (.iconst 2, 1) := by decide +kernel
theorem dX10_addCurve_101 : decode cX10_addCurve 101 = .ok (.aload_n 1, 1) := by decide +kernel
theorem dX10_addCurve_102 : decode cX10_addCurve 102 = .ok (.getfield 66, 3) := by decide +kernel
theorem dX10_addCurve_105 : decode cX10_addCurve 105 = .ok (.iload_n 3, 1) := by decide +kernel
theorem dX10_addCurve_106 : decode cX10_addCurve 106 = .ok (.iaload, 1) := by decide +kernel
theorem dX10_addCurve_107 : decode cX10_addCurve 107 = .ok (.imul, 1) := by decide +kernel
theorem dX10_addCurve_108 : decode cX10_addCurve 108 = .ok (.iastore, 1) := by decide +kernel
theorem dX10_addCurve_109 : decode cX10_addCurve 109 = .ok (.aload_n 0, 1) := by decide +kernel
theorem dX10_addCurve_110 : decode cX10_addCurve 110 = .ok (.getfield 21, 3) := by decide +kernel
theorem dX10_addCurve_113 : decode cX10_addCurve 113 = .ok (.aload_n 0, 1) := by decide +kernel
theorem dX10_addCurve_114 : decode cX10_addCurve 114 = .ok (.getfield 37, 3) := by decide +kernel
theorem dX10_addCurve_117 : decode cX10_addCurve 117 = .ok (.iconst 2, 1) := by decide +kernel
theorem dX10_addCurve_118 : decode cX10_addCurve 118 = .ok (.aload_n 1, 1) := by decide +kernel
theorem dX10_addCurve_119 : decode cX10_addCurve 119 = .ok (.getfield 88, 3) := by decide +kernel
theorem dX10_addCurve_122 : decode cX10_addCurve 122 = .ok (.iload_n 3, 1) := by decide +kernel
theorem dX10_addCurve_123 : decode cX10_addCurve 123 = .ok (.iaload, 1) := by decide +kernel
theorem dX10_addCurve_124 : decode cX10_addCurve 124 = .ok (.imul, 1) := by decide +kernel
theorem dX10_addCurve_125 : decode cX10_addCurve 125 = .ok (.iastore, 1) := by decide +kernel
theorem dX10_addCurve_126 : decode cX10_addCurve 126 = .ok (.aload_n 0, 1) := by decide +kernel
theorem dX10_addCurve_127 : decode cX10_addCurve 127 = .ok (.getfield 24, 3) := by decide +kernel
theorem dX10_addCurve_130 : decode cX10_addCurve 130 = .ok (.aload_n 0, 1) := by decide +kernel
theorem dX10_addCurve_131 : decode cX10_addCurve 131 = .ok (.getfield 37, 3) := by decide +kernel
theorem dX10_addCurve_134 : decode cX10_addCurve 134 = .ok (.aload_n 1, 1) := by decide +kernel
theorem dX10_addCurve_135 : decode cX10_addCurve 135 = .ok (.getfield 66, 3) := by decide +kernel
theorem dX10_addCurve_138 : decode cX10_addCurve 138 = .ok (.iload 4, 2) := by decide +kernel
theorem dX10_addCurve_140 : decode cX10_addCurve 140 = .ok (.iaload, 1) := by decide +kernel
theorem dX10_addCurve_141 : decode cX10_addCurve 141 = .ok (.aload_n 1, 1) := by decide +kernel
theorem dX10_addCurve_142 : decode cX10_addCurve 142 = .ok (.getfield 66, 3) := by decide +kernel
theorem dX10_addCurve_145 : decode cX10_addCurve 145 = .ok (.iload 6, 2) := by decide +kernel
theorem dX10_addCurve_147 : decode cX10_addCurve 147 = .ok (.iaload, 1) := by decide +kernel
theorem dX10_addCurve_148 : decode cX10_addCurve 148 = .ok (.iadd, 1) := by decide +kernel
theorem dX10_addCurve_149 : decode cX10_addCurve 149 = .ok (.iastore, 1) := by decide +kernel
theorem dX10_addCurve_150 : decode cX10_addCurve 150 = .ok (.aload_n 0, 1) := by decide +kernel
theorem dX10_addCurve_151 : decode cX10_addCurve 151 = .ok (.getfield 27, 3) := by decide +kernel
theorem dX10_addCurve_154 : decode cX10_addCurve 154 = .ok (.aload_n 0, 1) := by decide +kernel
theorem dX10_addCurve_155 : decode cX10_addCurve 155 = .ok (.getfield 37, 3) := by decide +kernel
theorem dX10_addCurve_158 : decode cX10_addCurve 158 = .ok (.aload_n 1, 1) := by decide +kernel
theorem dX10_addCurve_159 : decode cX10_addCurve 159 = .ok (.getfield 88, 3) := by decide +kernel
theorem dX10_addCurve_162 : decode cX10_addCurve 162 = .ok (.iload 4, 2) := by decide +kernel
theorem dX10_addCurve_164 : decode cX10_addCurve 164 = .ok (.iaload, 1) := by decide +kernel
theorem dX10_addCurve_165 : decode cX10_addCurve 165 = .ok (.aload_n 1, 1) := by decide +kernel
theorem dX10_addCurve_166 : decode cX10_addCurve 166 = .ok (.getfield 88, 3) := by decide +kernel
theorem dX10_addCurve_169 : decode cX10_addCurve 169 = .ok (.iload 6, 2) := by decide +kernel
theorem dX10_addCurve_171 : decode cX10_addCurve 171 = .ok (.iaload, 1) := by decide +kernel
theorem dX10_addCurve_172 : decode cX10_addCurve 172 = .ok (.iadd, 1) := by decide +kernel
theorem dX10_addCurve_173 : decode cX10_addCurve 173 = .ok (.iastore, 1) := by decide +kernel
theorem dX10_addCurve_174 : decode cX10_addCurve 174 = .ok (.aload_n 0, 1) := by decide +kernel
theorem dX10_addCurve_175 : decode cX10_addCurve 175 = .ok (.getfield 30, 3) := by decide +kernel
theorem dX10_addCurve_178 : decode cX10_addCurve 178 = .ok (.aload_n 0, 1) := by decide +kernel
theorem dX10_addCurve_179 : decode cX10_addCurve 179 = .ok (.getfield 37, 3) := by decide +kernel
theorem dX10_addCurve_182 : decode cX10_addCurve 182 = .ok (.iconst 1, 1) := by decide +kernel
theorem dX10_addCurve_183 : decode cX10_addCurve 183 = .ok (.bastore, 1) := by decide +kernel
theorem dX10_addCurve_184 : decode cX10_addCurve 184 = .ok (.aload_n 0, 1) := by decide +kernel
theorem dX10_addCurve_185 : decode cX10_addCurve 185 = .ok (.dup, 1) := by decide +kernel
theorem dX10_addCurve_186 : decode cX10_addCurve 186 = .ok (.getfield 37, 3) := by decide +kernel
theorem dX10_addCurve_189 : decode cX10_addCurve 189 = .ok (.iconst 1, 1) := by decide +kernel
theorem dX10_addCurve_190 : decode cX10_addCurve 190 = .ok (.iadd, 1) := by decide +kernel
theorem dX10_addCurve_191 : decode cX10_addCurve 191 = .ok (.putfield 37, 3) := by decide +kernel
theorem dX10_addCurve_194 : decode cX10_addCurve 194 = .ok (.return_, 1) := by decide +kernel
def B_X10_addCurve_44  (l1 : Nat) (l2 : Int32) (l3 : Int32) (l4 : Int32) (l5 : Int32) (s0 : Int32) (V : sv_V) : Option sv_V := if lay l1 = .inl 8 then (cr l1 0).bind (fun b2 => (sv_len 0 b2).bind (fun n4 => if sx_in l2 n4 = true then if sx_in l5 n4 = true then if sx_in (V.1 60 7) 100 = true then sx_let (sv_I V 61 (V.1 60 7).toNatClampNeg ((V.1 b2 l2.toNatClampNeg) + (V.1 b2 l5.toNatClampNeg))) (fun V9 => (cr l1 1).bind (fun b10 => (sv_len 0 b10).bind (fun n12 => if sx_in l2 n12 = true then if sx_in l5 n12 = true then if sx_in (V9.1 60 7) 100 = true then sx_let (sv_I V9 62 (V9.1 60 7).toNatClampNeg ((V9.1 b10 l2.toNatClampNeg) + (V9.1 b10 l5.toNatClampNeg))) (fun V17 => if sx_in l3 n4 = true then if sx_in (V17.1 60 7) 100 = true then sx_let (sv_I V17 63 (V17.1 60 7).toNatClampNeg ((2 : Int32) * (V17.1 b2 l3.toNatClampNeg))) (fun V20 => if sx_in l3 n12 = true then if sx_in (V20.1 60 7) 100 = true then sx_let (sv_I V20 64 (V20.1 60 7).toNatClampNeg ((2 : Int32) * (V20.1 b10 l3.toNatClampNeg))) (fun V23 => if sx_in l4 n4 = true then if sx_in s0 n4 = true then if sx_in (V23.1 60 7) 100 = true then sx_let (sv_I V23 65 (V23.1 60 7).toNatClampNeg ((V23.1 b2 l4.toNatClampNeg) + (V23.1 b2 s0.toNatClampNeg))) (fun V27 => if sx_in l4 n12 = true then if sx_in s0 n12 = true then if sx_in (V27.1 60 7) 100 = true then sx_let (sv_I V27 66 (V27.1 60 7).toNatClampNeg ((V27.1 b10 l4.toNatClampNeg) + (V27.1 b10 s0.toNatClampNeg))) (fun V31 => if sx_in (V31.1 60 7) 100 = true then sx_let (sv_I V31 67 (V31.1 60 7).toNatClampNeg (1 : Int32)) (fun V33 => sx_let (sv_I V33 60 7 ((V33.1 60 7) + (1 : Int32))) (fun V34 => some V34)) else none) else none else none else none) else none else none else none) else none else none) else none else none) else none else none else none))) else none else none else none)) else none
set_option maxRecDepth 20000 in
theorem tB_X10_addCurve_44 {g : sx_G} (hG : sx_Go g) {P : Option Value → sv_V → Prop} {Vr : sv_V} (hP : P none Vr)   {l1 : Nat} {l2 : Int32} {l3 : Int32} {l4 : Int32} {l5 : Int32} {s0 : Int32} {V : sv_V} (h : B_X10_addCurve_44  l1 l2 l3 l4 l5 s0 V = some Vr) : sv_N g qX10_addCurve 0 44 [(0, .ref 60), (1, .ref l1), (2, .int l2), (3, .int l3), (4, .int l4), (5, .int l5)] [.int s0] V P := by
  unfold B_X10_addCurve_44 at h
  refine sx_istore (pc := 44) (lo' := [(6, .int s0), (0, .ref 60), (1, .ref l1), (2, .int l2), (3, .int l3), (4, .int l4), (5, .int l5)]) dX10_addCurve_44 (by decide) rfl ?_
  refine sx_aload_n (pc := 46) dX10_addCurve_46 sx_m1 ?_
  refine sv_getA (pc := 47) hG dX10_addCurve_47 f_10_9 lay_60 rfl cr_60_0 ?_
  refine sx_aload_n (pc := 50) dX10_addCurve_50 sx_m1 ?_
  refine sv_getI (pc := 51) hG dX10_addCurve_51 f_10_37 lay_60 rfl ?_
  refine sx_aload_n (pc := 54) dX10_addCurve_54 sx_m2 ?_
  obtain ⟨g1, h⟩ := sx_grd h
  obtain ⟨b2, g3, h⟩ := sx_bnd h
  refine sv_getA (pc := 55) hG dX10_addCurve_55 f_10_66 g1 rfl g3 ?_
  refine sx_iload_n (pc := 58) dX10_addCurve_58 sx_m3 ?_
  obtain ⟨n4, g5, h⟩ := sx_bnd h
  obtain ⟨g6, h⟩ := sx_grd h
  refine sv_iald (pc := 59) hG dX10_addCurve_59 (sv_len_e g5) g6 ?_
  refine sx_aload_n (pc := 60) dX10_addCurve_60 sx_m2 ?_
  refine sv_getA (pc := 61) hG dX10_addCurve_61 f_10_66 g1 rfl g3 ?_
  refine sx_iload (pc := 64) dX10_addCurve_64 sx_m6 ?_
  obtain ⟨g7, h⟩ := sx_grd h
  refine sv_iald (pc := 66) hG dX10_addCurve_66 (sv_len_e g5) g7 ?_
  refine sx_iadd (pc := 67) dX10_addCurve_67 ?_
  obtain ⟨g8, h⟩ := sx_grd h
  obtain ⟨V9, hV9⟩ : ∃ z : sv_V, z = sv_I V 61 (V.1 60 7).toNatClampNeg ((V.1 b2 l2.toNatClampNeg) + (V.1 b2 l5.toNatClampNeg)) := ⟨_, rfl⟩
  have h := sx_letE hV9 h
  refine sv_iast (pc := 68) hG dX10_addCurve_68 lay_61 g8 hV9 ?_
  refine sx_aload_n (pc := 69) dX10_addCurve_69 sx_m1 ?_
  refine sv_getA (pc := 70) hG dX10_addCurve_70 f_10_15 lay_60 rfl cr_60_1 ?_
  refine sx_aload_n (pc := 73) dX10_addCurve_73 sx_m1 ?_
  refine sv_getI (pc := 74) hG dX10_addCurve_74 f_10_37 lay_60 rfl ?_
  refine sx_aload_n (pc := 77) dX10_addCurve_77 sx_m2 ?_
  obtain ⟨b10, g11, h⟩ := sx_bnd h
  refine sv_getA (pc := 78) hG dX10_addCurve_78 f_10_88 g1 rfl g11 ?_
  refine sx_iload_n (pc := 81) dX10_addCurve_81 sx_m3 ?_
  obtain ⟨n12, g13, h⟩ := sx_bnd h
  obtain ⟨g14, h⟩ := sx_grd h
  refine sv_iald (pc := 82) hG dX10_addCurve_82 (sv_len_e g13) g14 ?_
  refine sx_aload_n (pc := 83) dX10_addCurve_83 sx_m2 ?_
  refine sv_getA (pc := 84) hG dX10_addCurve_84 f_10_88 g1 rfl g11 ?_
  refine sx_iload (pc := 87) dX10_addCurve_87 sx_m6 ?_
  obtain ⟨g15, h⟩ := sx_grd h
  refine sv_iald (pc := 89) hG dX10_addCurve_89 (sv_len_e g13) g15 ?_
  refine sx_iadd (pc := 90) dX10_addCurve_90 ?_
  obtain ⟨g16, h⟩ := sx_grd h
  obtain ⟨V17, hV17⟩ : ∃ z : sv_V, z = sv_I V9 62 (V9.1 60 7).toNatClampNeg ((V9.1 b10 l2.toNatClampNeg) + (V9.1 b10 l5.toNatClampNeg)) := ⟨_, rfl⟩
  have h := sx_letE hV17 h
  refine sv_iast (pc := 91) hG dX10_addCurve_91 lay_62 g16 hV17 ?_
  refine sx_aload_n (pc := 92) dX10_addCurve_92 sx_m1 ?_
  refine sv_getA (pc := 93) hG dX10_addCurve_93 f_10_18 lay_60 rfl cr_60_2 ?_
  refine sx_aload_n (pc := 96) dX10_addCurve_96 sx_m1 ?_
  refine sv_getI (pc := 97) hG dX10_addCurve_97 f_10_37 lay_60 rfl ?_
  refine sx_iconst (pc := 100) (v := 2) dX10_addCurve_100 (by decide) ?_
  refine sx_aload_n (pc := 101) dX10_addCurve_101 sx_m2 ?_
  refine sv_getA (pc := 102) hG dX10_addCurve_102 f_10_66 g1 rfl g3 ?_
  refine sx_iload_n (pc := 105) dX10_addCurve_105 sx_m4 ?_
  obtain ⟨g18, h⟩ := sx_grd h
  refine sv_iald (pc := 106) hG dX10_addCurve_106 (sv_len_e g5) g18 ?_
  refine sx_imul (pc := 107) dX10_addCurve_107 ?_
  obtain ⟨g19, h⟩ := sx_grd h
  obtain ⟨V20, hV20⟩ : ∃ z : sv_V, z = sv_I V17 63 (V17.1 60 7).toNatClampNeg ((2 : Int32) * (V17.1 b2 l3.toNatClampNeg)) := ⟨_, rfl⟩
  have h := sx_letE hV20 h
  refine sv_iast (pc := 108) hG dX10_addCurve_108 lay_63 g19 hV20 ?_
  refine sx_aload_n (pc := 109) dX10_addCurve_109 sx_m1 ?_
  refine sv_getA (pc := 110) hG dX10_addCurve_110 f_10_21 lay_60 rfl cr_60_3 ?_
  refine sx_aload_n (pc := 113) dX10_addCurve_113 sx_m1 ?_
  refine sv_getI (pc := 114) hG dX10_addCurve_114 f_10_37 lay_60 rfl ?_
  refine sx_iconst (pc := 117) (v := 2) dX10_addCurve_117 (by decide) ?_
  refine sx_aload_n (pc := 118) dX10_addCurve_118 sx_m2 ?_
  refine sv_getA (pc := 119) hG dX10_addCurve_119 f_10_88 g1 rfl g11 ?_
  refine sx_iload_n (pc := 122) dX10_addCurve_122 sx_m4 ?_
  obtain ⟨g21, h⟩ := sx_grd h
  refine sv_iald (pc := 123) hG dX10_addCurve_123 (sv_len_e g13) g21 ?_
  refine sx_imul (pc := 124) dX10_addCurve_124 ?_
  obtain ⟨g22, h⟩ := sx_grd h
  obtain ⟨V23, hV23⟩ : ∃ z : sv_V, z = sv_I V20 64 (V20.1 60 7).toNatClampNeg ((2 : Int32) * (V20.1 b10 l3.toNatClampNeg)) := ⟨_, rfl⟩
  have h := sx_letE hV23 h
  refine sv_iast (pc := 125) hG dX10_addCurve_125 lay_64 g22 hV23 ?_
  refine sx_aload_n (pc := 126) dX10_addCurve_126 sx_m1 ?_
  refine sv_getA (pc := 127) hG dX10_addCurve_127 f_10_24 lay_60 rfl cr_60_4 ?_
  refine sx_aload_n (pc := 130) dX10_addCurve_130 sx_m1 ?_
  refine sv_getI (pc := 131) hG dX10_addCurve_131 f_10_37 lay_60 rfl ?_
  refine sx_aload_n (pc := 134) dX10_addCurve_134 sx_m2 ?_
  refine sv_getA (pc := 135) hG dX10_addCurve_135 f_10_66 g1 rfl g3 ?_
  refine sx_iload (pc := 138) dX10_addCurve_138 sx_m5 ?_
  obtain ⟨g24, h⟩ := sx_grd h
  refine sv_iald (pc := 140) hG dX10_addCurve_140 (sv_len_e g5) g24 ?_
  refine sx_aload_n (pc := 141) dX10_addCurve_141 sx_m2 ?_
  refine sv_getA (pc := 142) hG dX10_addCurve_142 f_10_66 g1 rfl g3 ?_
  refine sx_iload (pc := 145) dX10_addCurve_145 sx_m0 ?_
  obtain ⟨g25, h⟩ := sx_grd h
  refine sv_iald (pc := 147) hG dX10_addCurve_147 (sv_len_e g5) g25 ?_
  refine sx_iadd (pc := 148) dX10_addCurve_148 ?_
  obtain ⟨g26, h⟩ := sx_grd h
  obtain ⟨V27, hV27⟩ : ∃ z : sv_V, z = sv_I V23 65 (V23.1 60 7).toNatClampNeg ((V23.1 b2 l4.toNatClampNeg) + (V23.1 b2 s0.toNatClampNeg)) := ⟨_, rfl⟩
  have h := sx_letE hV27 h
  refine sv_iast (pc := 149) hG dX10_addCurve_149 lay_65 g26 hV27 ?_
  refine sx_aload_n (pc := 150) dX10_addCurve_150 sx_m1 ?_
  refine sv_getA (pc := 151) hG dX10_addCurve_151 f_10_27 lay_60 rfl cr_60_5 ?_
  refine sx_aload_n (pc := 154) dX10_addCurve_154 sx_m1 ?_
  refine sv_getI (pc := 155) hG dX10_addCurve_155 f_10_37 lay_60 rfl ?_
  refine sx_aload_n (pc := 158) dX10_addCurve_158 sx_m2 ?_
  refine sv_getA (pc := 159) hG dX10_addCurve_159 f_10_88 g1 rfl g11 ?_
  refine sx_iload (pc := 162) dX10_addCurve_162 sx_m5 ?_
  obtain ⟨g28, h⟩ := sx_grd h
  refine sv_iald (pc := 164) hG dX10_addCurve_164 (sv_len_e g13) g28 ?_
  refine sx_aload_n (pc := 165) dX10_addCurve_165 sx_m2 ?_
  refine sv_getA (pc := 166) hG dX10_addCurve_166 f_10_88 g1 rfl g11 ?_
  refine sx_iload (pc := 169) dX10_addCurve_169 sx_m0 ?_
  obtain ⟨g29, h⟩ := sx_grd h
  refine sv_iald (pc := 171) hG dX10_addCurve_171 (sv_len_e g13) g29 ?_
  refine sx_iadd (pc := 172) dX10_addCurve_172 ?_
  obtain ⟨g30, h⟩ := sx_grd h
  obtain ⟨V31, hV31⟩ : ∃ z : sv_V, z = sv_I V27 66 (V27.1 60 7).toNatClampNeg ((V27.1 b10 l4.toNatClampNeg) + (V27.1 b10 s0.toNatClampNeg)) := ⟨_, rfl⟩
  have h := sx_letE hV31 h
  refine sv_iast (pc := 173) hG dX10_addCurve_173 lay_66 g30 hV31 ?_
  refine sx_aload_n (pc := 174) dX10_addCurve_174 sx_m1 ?_
  refine sv_getA (pc := 175) hG dX10_addCurve_175 f_10_30 lay_60 rfl cr_60_6 ?_
  refine sx_aload_n (pc := 178) dX10_addCurve_178 sx_m1 ?_
  refine sv_getI (pc := 179) hG dX10_addCurve_179 f_10_37 lay_60 rfl ?_
  refine sx_iconst (pc := 182) (v := 1) dX10_addCurve_182 (by decide) ?_
  obtain ⟨g32, h⟩ := sx_grd h
  obtain ⟨V33, hV33⟩ : ∃ z : sv_V, z = sv_I V31 67 (V31.1 60 7).toNatClampNeg (1 : Int32) := ⟨_, rfl⟩
  have h := sx_letE hV33 h
  refine sv_zast (pc := 183) hG dX10_addCurve_183 lay_67 g32 rfl hV33 ?_
  refine sx_aload_n (pc := 184) dX10_addCurve_184 sx_m1 ?_
  refine sx_dup (pc := 185) dX10_addCurve_185 rfl ?_
  refine sv_getI (pc := 186) hG dX10_addCurve_186 f_10_37 lay_60 rfl ?_
  refine sx_iconst (pc := 189) (v := 1) dX10_addCurve_189 (by decide) ?_
  refine sx_iadd (pc := 190) dX10_addCurve_190 ?_
  obtain ⟨V34, hV34⟩ : ∃ z : sv_V, z = sv_I V33 60 7 ((V33.1 60 7) + (1 : Int32)) := ⟨_, rfl⟩
  have h := sx_letE hV34 h
  refine sv_putI (pc := 191) hG dX10_addCurve_191 f_10_37 lay_60 rfl hV34 ?_
  exact sv_vret (pc := 194) dX10_addCurve_194 rfl h hP
def B_X10_addCurve_25  (l1 : Nat) (l2 : Int32) (l3 : Int32) (l4 : Int32) (s0 : Int32) (V : sv_V) : Option sv_V := if lay l1 = .inl 8 then (cr l1 5).bind (fun b36 => (sv_len 0 b36).bind (fun n38 => if sx_in l4 n38 = true then if (V.1 b36 l4.toNatClampNeg) = (1 : Int32) then (B_X10_addCurve_44  l1 l2 l3 l4 s0 l4 V) else (B_X10_addCurve_44  l1 l2 l3 l4 s0 l3 V) else none)) else none
set_option maxRecDepth 20000 in
theorem tB_X10_addCurve_25 {g : sx_G} (hG : sx_Go g) {P : Option Value → sv_V → Prop} {Vr : sv_V} (hP : P none Vr)   {l1 : Nat} {l2 : Int32} {l3 : Int32} {l4 : Int32} {s0 : Int32} {V : sv_V} (h : B_X10_addCurve_25  l1 l2 l3 l4 s0 V = some Vr) : sv_N g qX10_addCurve 0 25 [(0, .ref 60), (1, .ref l1), (2, .int l2), (3, .int l3), (4, .int l4)] [.int s0] V P := by
  unfold B_X10_addCurve_25 at h
  refine sx_istore (pc := 25) (lo' := [(5, .int s0), (0, .ref 60), (1, .ref l1), (2, .int l2), (3, .int l3), (4, .int l4)]) dX10_addCurve_25 (by decide) rfl ?_
  refine sx_aload_n (pc := 27) dX10_addCurve_27 sx_m2 ?_
  obtain ⟨g35, h⟩ := sx_grd h
  obtain ⟨b36, g37, h⟩ := sx_bnd h
  refine sv_getA (pc := 28) hG dX10_addCurve_28 f_10_78 g35 rfl g37 ?_
  refine sx_iload (pc := 31) dX10_addCurve_31 sx_m5 ?_
  obtain ⟨n38, g39, h⟩ := sx_bnd h
  obtain ⟨g40, h⟩ := sx_grd h
  refine sv_iald (pc := 33) hG dX10_addCurve_33 (sv_len_e g39) g40 ?_
  refine sx_iconst (pc := 34) (v := 1) dX10_addCurve_34 (by decide) ?_
  refine sx_icmp_ne (pc := 35) (tgt := 43) dX10_addCurve_35 (by decide) (fun c41 => ?_) (fun c41 => ?_)
  · have h := sx_neg c41 h
    refine sx_iload_n (pc := 43) dX10_addCurve_43 sx_m4 ?_
    refine sx_wk (sx_s1 sx_m1 (sx_s1 sx_m2 (sx_s1 sx_m3 (sx_s1 sx_m4 (sx_s1 sx_m5 (sx_s1 sx_m0 sx_s0)))))) ?_
    exact tB_X10_addCurve_44 hG hP  h
  · have h := sx_pos c41 h
    refine sx_iload (pc := 38) dX10_addCurve_38 sx_m5 ?_
    refine sx_goto (pc := 40) (tgt := 44) dX10_addCurve_40 (by decide) ?_
    refine sx_wk (sx_s1 sx_m1 (sx_s1 sx_m2 (sx_s1 sx_m3 (sx_s1 sx_m4 (sx_s1 sx_m5 (sx_s1 sx_m0 sx_s0)))))) ?_
    exact tB_X10_addCurve_44 hG hP  h
def F_X10_addCurve (l1 : Nat) (l2 : Int32) (l3 : Int32) (l4 : Int32) (V : sv_V) : Option sv_V := if (V.1 60 7) < (100 : Int32) then (if lay l1 = .inl 8 then (cr l1 5).bind (fun b44 => (sv_len 0 b44).bind (fun n46 => if sx_in l2 n46 = true then if (V.1 b44 l2.toNatClampNeg) = (1 : Int32) then (B_X10_addCurve_25  l1 l2 l3 l4 l2 V) else (B_X10_addCurve_25  l1 l2 l3 l4 l3 V) else none)) else none) else (some V)
set_option maxRecDepth 20000 in
theorem t_X10_addCurve {g : sx_G} (hG : sx_Go g) {P : Option Value → sv_V → Prop} {Vr : sv_V} (hP : P none Vr) {l1 : Nat} {l2 : Int32} {l3 : Int32} {l4 : Int32} {V : sv_V} (h : F_X10_addCurve l1 l2 l3 l4 V = some Vr) : sv_N g qX10_addCurve 0 0 [(0, .ref 60), (1, .ref l1), (2, .int l2), (3, .int l3), (4, .int l4)] [] V P := by
  unfold F_X10_addCurve at h
  refine sx_aload_n (pc := 0) dX10_addCurve_0 sx_m0 ?_
  refine sv_getI (pc := 1) hG dX10_addCurve_1 f_10_37 lay_60 rfl ?_
  refine sx_bipush (pc := 4) (v := 100) dX10_addCurve_4 (by decide) ?_
  refine sx_icmp_lt (pc := 6) (tgt := 10) dX10_addCurve_6 (by decide) (fun c42 => ?_) (fun c42 => ?_)
  · have h := sx_pos c42 h
    refine sx_aload_n (pc := 10) dX10_addCurve_10 sx_m1 ?_
    obtain ⟨g43, h⟩ := sx_grd h
    obtain ⟨b44, g45, h⟩ := sx_bnd h
    refine sv_getA (pc := 11) hG dX10_addCurve_11 f_10_78 g43 rfl g45 ?_
    refine sx_iload_n (pc := 14) dX10_addCurve_14 sx_m2 ?_
    obtain ⟨n46, g47, h⟩ := sx_bnd h
    obtain ⟨g48, h⟩ := sx_grd h
    refine sv_iald (pc := 15) hG dX10_addCurve_15 (sv_len_e g47) g48 ?_
    refine sx_iconst (pc := 16) (v := 1) dX10_addCurve_16 (by decide) ?_
    refine sx_icmp_ne (pc := 17) (tgt := 24) dX10_addCurve_17 (by decide) (fun c49 => ?_) (fun c49 => ?_)
    · have h := sx_neg c49 h
      refine sx_iload_n (pc := 24) dX10_addCurve_24 sx_m3 ?_
      refine sx_wk (sx_s1 sx_m0 (sx_s1 sx_m1 (sx_s1 sx_m2 (sx_s1 sx_m3 (sx_s1 sx_m4 sx_s0))))) ?_
      exact tB_X10_addCurve_25 hG hP  h
    · have h := sx_pos c49 h
      refine sx_iload_n (pc := 20) dX10_addCurve_20 sx_m2 ?_
      refine sx_goto (pc := 21) (tgt := 25) dX10_addCurve_21 (by decide) ?_
      refine sx_wk (sx_s1 sx_m0 (sx_s1 sx_m1 (sx_s1 sx_m2 (sx_s1 sx_m3 (sx_s1 sx_m4 sx_s0))))) ?_
      exact tB_X10_addCurve_25 hG hP  h
  · have h := sx_neg c42 h
    exact sv_vret (pc := 9) dX10_addCurve_9 rfl h hP
theorem dX10_spans_0 : decode cX10_spans 0 = .ok (.aload_n 0, 1) := by decide +kernel
theorem dX10_spans_1 : decode cX10_spans 1 = .ok (.getfield 57, 3) := by decide +kernel
theorem dX10_spans_4 : decode cX10_spans 4 = .ok (.iload_n 1, 1) := by decide +kernel
theorem dX10_spans_5 : decode cX10_spans 5 = .ok (.if_icmp .gt 15, 3) := by decide +kernel
theorem dX10_spans_8 : decode cX10_spans 8 = .ok (.iload_n 1, 1) := by decide +kernel
theorem dX10_spans_9 : decode cX10_spans 9 = .ok (.aload_n 0, 1) := by decide +kernel
theorem dX10_spans_10 : decode cX10_spans 10 = .ok (.getfield 60, 3) := by decide +kernel
theorem dX10_spans_13 : decode cX10_spans 13 = .ok (.if_icmp .gt 7, 3) := by decide +kernel
theorem dX10_spans_16 : decode cX10_spans 16 = .ok (.iconst 1, 1) := by decide +kernel
theorem dX10_spans_17 : decode cX10_spans 17 = .ok (.goto 4, 3) := by decide +kernel
theorem dX10_spans_20 : decode cX10_spans 20 = .ok (.iconst 0, 1) := by decide +kernel
theorem dX10_spans_21 : decode cX10_spans 21 = .ok (.ireturn, 1) := by decide +kernel
def F_X10_spans (l1 : Int32) (V : sv_V) : Option (Int32 × sv_V) := if l1 < (V.1 60 11) then (some ((0 : Int32), V)) else (if (V.1 60 12) < l1 then (some ((0 : Int32), V)) else (some ((1 : Int32), V)))
set_option maxRecDepth 20000 in
theorem t_X10_spans {g : sx_G} (hG : sx_Go g) {P : Option Value → sv_V → Prop} {r : Int32} {Vr : sv_V} (hP : P (some (.int r)) Vr) {l1 : Int32} {V : sv_V} (h : F_X10_spans l1 V = some (r, Vr)) : sv_N g qX10_spans 0 0 [(0, .ref 60), (1, .int l1)] [] V P := by
  unfold F_X10_spans at h
  refine sx_aload_n (pc := 0) dX10_spans_0 sx_m0 ?_
  refine sv_getI (pc := 1) hG dX10_spans_1 f_10_57 lay_60 rfl ?_
  refine sx_iload_n (pc := 4) dX10_spans_4 sx_m1 ?_
  refine sx_icmp_gt (pc := 5) (tgt := 20) dX10_spans_5 (by decide) (fun c1 => ?_) (fun c1 => ?_)
  · have h := sx_pos c1 h
    refine sx_iconst (pc := 20) (v := 0) dX10_spans_20 (by decide) ?_
    exact sv_zret (pc := 21) dX10_spans_21 rfl rfl h hP
  · have h := sx_neg c1 h
    refine sx_iload_n (pc := 8) dX10_spans_8 sx_m1 ?_
    refine sx_aload_n (pc := 9) dX10_spans_9 sx_m0 ?_
    refine sv_getI (pc := 10) hG dX10_spans_10 f_10_60 lay_60 rfl ?_
    refine sx_icmp_gt (pc := 13) (tgt := 20) dX10_spans_13 (by decide) (fun c2 => ?_) (fun c2 => ?_)
    · have h := sx_pos c2 h
      refine sx_iconst (pc := 20) (v := 0) dX10_spans_20 (by decide) ?_
      exact sv_zret (pc := 21) dX10_spans_21 rfl rfl h hP
    · have h := sx_neg c2 h
      refine sx_iconst (pc := 16) (v := 1) dX10_spans_16 (by decide) ?_
      refine sx_goto (pc := 17) (tgt := 21) dX10_spans_17 (by decide) ?_
      exact sv_zret (pc := 21) dX10_spans_21 rfl rfl h hP
theorem dX10_hasRow_0 : decode cX10_hasRow 0 = .ok (.aload_n 0, 1) := by decide +kernel
theorem dX10_hasRow_1 : decode cX10_hasRow 1 = .ok (.getfield 91, 3) := by decide +kernel
theorem dX10_hasRow_4 : decode cX10_hasRow 4 = .ok (.ifCond .le 7, 3) := by decide +kernel
theorem dX10_hasRow_7 : decode cX10_hasRow 7 = .ok (.iconst 1, 1) := by decide +kernel
theorem dX10_hasRow_8 : decode cX10_hasRow 8 = .ok (.goto 4, 3) := by decide +kernel
theorem dX10_hasRow_11 : decode cX10_hasRow 11 = .ok (.iconst 0, 1) := by decide +kernel
theorem dX10_hasRow_12 : decode cX10_hasRow 12 = .ok (.ireturn, 1) := by decide +kernel
def F_X10_hasRow  (V : sv_V) : Option (Int32 × sv_V) := if (V.1 60 9) ≤ 0 then (some ((0 : Int32), V)) else (some ((1 : Int32), V))
set_option maxRecDepth 20000 in
theorem t_X10_hasRow {g : sx_G} (hG : sx_Go g) {P : Option Value → sv_V → Prop} {r : Int32} {Vr : sv_V} (hP : P (some (.int r)) Vr)  {V : sv_V} (h : F_X10_hasRow  V = some (r, Vr)) : sv_N g qX10_hasRow 0 0 [(0, .ref 60)] [] V P := by
  unfold F_X10_hasRow at h
  refine sx_aload_n (pc := 0) dX10_hasRow_0 sx_m0 ?_
  refine sv_getI (pc := 1) hG dX10_hasRow_1 f_10_91 lay_60 rfl ?_
  refine sx_if_le (pc := 4) (tgt := 11) dX10_hasRow_4 (by decide) (fun c1 => ?_) (fun c1 => ?_)
  · have h := sx_pos c1 h
    refine sx_iconst (pc := 11) (v := 0) dX10_hasRow_11 (by decide) ?_
    exact sv_zret (pc := 12) dX10_hasRow_12 rfl rfl h hP
  · have h := sx_neg c1 h
    refine sx_iconst (pc := 7) (v := 1) dX10_hasRow_7 (by decide) ?_
    refine sx_goto (pc := 8) (tgt := 12) dX10_hasRow_8 (by decide) ?_
    exact sv_zret (pc := 12) dX10_hasRow_12 rfl rfl h hP
theorem dX10_reaches_0 : decode cX10_reaches 0 = .ok (.lload_n 0, 1) := by decide +kernel
theorem dX10_reaches_1 : decode cX10_reaches 1 = .ok (.lconst 0, 1) := by decide +kernel
theorem dX10_reaches_2 : decode cX10_reaches 2 = .ok (.lcmp, 1) := by decide +kernel
theorem dX10_reaches_3 : decode cX10_reaches 3 = .ok (.ifCond .le 33, 3) := by decide +kernel
theorem dX10_reaches_6 : decode cX10_reaches 6 = .ok (.lload 4, 2) := by decide +kernel
theorem dX10_reaches_8 : decode cX10_reaches 8 = .ok (.lconst 0, 1) := by decide +kernel
theorem dX10_reaches_9 : decode cX10_reaches 9 = .ok (.lcmp, 1) := by decide +kernel
theorem dX10_reaches_10 : decode cX10_reaches 10 = .ok (.ifCond .le 26, 3) := by decide +kernel
theorem dX10_reaches_13 : decode cX10_reaches 13 = .ok (.lload_n 2, 1) := by decide +kernel
theorem dX10_reaches_14 : decode cX10_reaches 14 = .ok (.lconst 0, 1) := by decide +kernel
theorem dX10_reaches_15 : decode cX10_reaches 15 = .ok (.lcmp, 1) := by decide +kernel
theorem dX10_reaches_16 : decode cX10_reaches 16 = .ok (.ifCond .ge 18, 3) := by decide +kernel
theorem dX10_reaches_19 : decode cX10_reaches 19 = .ok (.lload_n 2, 1) := by decide +kernel
theorem dX10_reaches_20 : decode cX10_reaches 20 = .ok (.lload_n 2, 1) := by decide +kernel
theorem dX10_reaches_21 : decode cX10_reaches 21 = .ok (.lmul, 1) := by decide +kernel
theorem dX10_reaches_22 : decode cX10_reaches 22 = .ok (.lload_n 0, 1) := by decide +kernel
theorem dX10_reaches_23 : decode cX10_reaches 23 = .ok (.lload 4, 2) := by decide +kernel
theorem dX10_reaches_25 : decode cX10_reaches 25 = .ok (.lmul, 1) := by decide +kernel
theorem dX10_reaches_26 : decode cX10_reaches 26 = .ok (.lcmp, 1) := by decide +kernel
theorem dX10_reaches_27 : decode cX10_reaches 27 = .ok (.ifCond .lt 7, 3) := by decide +kernel
theorem dX10_reaches_30 : decode cX10_reaches 30 = .ok (.iconst 1, 1) := by decide +kernel
theorem dX10_reaches_31 : decode cX10_reaches 31 = .ok (.goto 4, 3) := by decide +kernel
theorem dX10_reaches_34 : decode cX10_reaches 34 = .ok (.iconst 0, 1) := by decide +kernel
theorem dX10_reaches_35 : decode cX10_reaches 35 = .ok (.ireturn, 1) := by decide +kernel
theorem dX10_reaches_36 : decode cX10_reaches 36 = .ok (.lload_n 0, 1) := by decide +kernel
theorem dX10_reaches_37 : decode cX10_reaches 37 = .ok (.lconst 0, 1) := by decide +kernel
theorem dX10_reaches_38 : decode cX10_reaches 38 = .ok (.lcmp, 1) := by decide +kernel
theorem dX10_reaches_39 : decode cX10_reaches 39 = .ok (.ifCond .ge 33, 3) := by decide +kernel
theorem dX10_reaches_42 : decode cX10_reaches 42 = .ok (.lload 4, 2) := by decide +kernel
theorem dX10_reaches_44 : decode cX10_reaches 44 = .ok (.lconst 0, 1) := by decide +kernel
theorem dX10_reaches_45 : decode cX10_reaches 45 = .ok (.lcmp, 1) := by decide +kernel
theorem dX10_reaches_46 : decode cX10_reaches 46 = .ok (.ifCond .ge 26, 3) := by decide +kernel
theorem dX10_reaches_49 : decode cX10_reaches 49 = .ok (.lload_n 2, 1) := by decide +kernel
theorem dX10_reaches_50 : decode cX10_reaches 50 = .ok (.lconst 0, 1) := by decide +kernel
theorem dX10_reaches_51 : decode cX10_reaches 51 = .ok (.lcmp, 1) := by decide +kernel
theorem dX10_reaches_52 : decode cX10_reaches 52 = .ok (.ifCond .le 18, 3) := by decide +kernel
theorem dX10_reaches_55 : decode cX10_reaches 55 = .ok (.lload_n 2, 1) := by decide +kernel
theorem dX10_reaches_56 : decode cX10_reaches 56 = .ok (.lload_n 2, 1) := by decide +kernel
theorem dX10_reaches_57 : decode cX10_reaches 57 = .ok (.lmul, 1) := by decide +kernel
theorem dX10_reaches_58 : decode cX10_reaches 58 = .ok (.lload_n 0, 1) := by decide +kernel
theorem dX10_reaches_59 : decode cX10_reaches 59 = .ok (.lload 4, 2) := by decide +kernel
theorem dX10_reaches_61 : decode cX10_reaches 61 = .ok (.lmul, 1) := by decide +kernel
theorem dX10_reaches_62 : decode cX10_reaches 62 = .ok (.lcmp, 1) := by decide +kernel
theorem dX10_reaches_63 : decode cX10_reaches 63 = .ok (.ifCond .lt 7, 3) := by decide +kernel
theorem dX10_reaches_66 : decode cX10_reaches 66 = .ok (.iconst 1, 1) := by decide +kernel
theorem dX10_reaches_67 : decode cX10_reaches 67 = .ok (.goto 4, 3) := by decide +kernel
theorem dX10_reaches_70 : decode cX10_reaches 70 = .ok (.iconst 0, 1) := by decide +kernel
theorem dX10_reaches_71 : decode cX10_reaches 71 = .ok (.ireturn, 1) := by decide +kernel
theorem dX10_reaches_72 : decode cX10_reaches 72 = .ok (.iconst 1, 1) := by decide +kernel
theorem dX10_reaches_73 : decode cX10_reaches 73 = .ok (.ireturn, 1) := by decide +kernel
def B_X10_reaches_36  (l0 : Int64) (l2 : Int64) (l4 : Int64) (V : sv_V) : Option (Int32 × sv_V) := if 0 ≤ (lg_cmp l0 (0 : Int64)) then (some ((1 : Int32), V)) else (if 0 ≤ (lg_cmp l4 (0 : Int64)) then (some ((1 : Int32), V)) else (if (lg_cmp l2 (0 : Int64)) ≤ 0 then (some ((0 : Int32), V)) else (if (lg_cmp (l2 * l2) (l0 * l4)) < 0 then (some ((0 : Int32), V)) else (some ((1 : Int32), V)))))
set_option maxRecDepth 20000 in
theorem tB_X10_reaches_36 {g : sx_G} (hG : sx_Go g) {P : Option Value → sv_V → Prop} {r : Int32} {Vr : sv_V} (hP : P (some (.int r)) Vr)   {l0 : Int64} {l2 : Int64} {l4 : Int64} {V : sv_V} (h : B_X10_reaches_36  l0 l2 l4 V = some (r, Vr)) : sv_N g qX10_reaches 0 36 [(0, .long l0), (2, .long l2), (4, .long l4)] [] V P := by
  unfold B_X10_reaches_36 at h
  refine sx_lload_n (pc := 36) dX10_reaches_36 sx_m0 ?_
  refine sx_lconst (pc := 37) (v := 0) dX10_reaches_37 rfl ?_
  refine sx_lcmp (pc := 38) dX10_reaches_38 ?_
  refine sx_if_ge (pc := 39) (tgt := 72) dX10_reaches_39 (by decide) (fun c1 => ?_) (fun c1 => ?_)
  · have h := sx_pos c1 h
    refine sx_iconst (pc := 72) (v := 1) dX10_reaches_72 (by decide) ?_
    exact sv_zret (pc := 73) dX10_reaches_73 rfl rfl h hP
  · have h := sx_neg c1 h
    refine sx_lload (pc := 42) dX10_reaches_42 sx_m2 ?_
    refine sx_lconst (pc := 44) (v := 0) dX10_reaches_44 rfl ?_
    refine sx_lcmp (pc := 45) dX10_reaches_45 ?_
    refine sx_if_ge (pc := 46) (tgt := 72) dX10_reaches_46 (by decide) (fun c2 => ?_) (fun c2 => ?_)
    · have h := sx_pos c2 h
      refine sx_iconst (pc := 72) (v := 1) dX10_reaches_72 (by decide) ?_
      exact sv_zret (pc := 73) dX10_reaches_73 rfl rfl h hP
    · have h := sx_neg c2 h
      refine sx_lload_n (pc := 49) dX10_reaches_49 sx_m1 ?_
      refine sx_lconst (pc := 50) (v := 0) dX10_reaches_50 rfl ?_
      refine sx_lcmp (pc := 51) dX10_reaches_51 ?_
      refine sx_if_le (pc := 52) (tgt := 70) dX10_reaches_52 (by decide) (fun c3 => ?_) (fun c3 => ?_)
      · have h := sx_pos c3 h
        refine sx_iconst (pc := 70) (v := 0) dX10_reaches_70 (by decide) ?_
        exact sv_zret (pc := 71) dX10_reaches_71 rfl rfl h hP
      · have h := sx_neg c3 h
        refine sx_lload_n (pc := 55) dX10_reaches_55 sx_m1 ?_
        refine sx_lload_n (pc := 56) dX10_reaches_56 sx_m1 ?_
        refine sx_lmul (pc := 57) dX10_reaches_57 ?_
        refine sx_lload_n (pc := 58) dX10_reaches_58 sx_m0 ?_
        refine sx_lload (pc := 59) dX10_reaches_59 sx_m2 ?_
        refine sx_lmul (pc := 61) dX10_reaches_61 ?_
        refine sx_lcmp (pc := 62) dX10_reaches_62 ?_
        refine sx_if_lt (pc := 63) (tgt := 70) dX10_reaches_63 (by decide) (fun c4 => ?_) (fun c4 => ?_)
        · have h := sx_pos c4 h
          refine sx_iconst (pc := 70) (v := 0) dX10_reaches_70 (by decide) ?_
          exact sv_zret (pc := 71) dX10_reaches_71 rfl rfl h hP
        · have h := sx_neg c4 h
          refine sx_iconst (pc := 66) (v := 1) dX10_reaches_66 (by decide) ?_
          refine sx_goto (pc := 67) (tgt := 71) dX10_reaches_67 (by decide) ?_
          exact sv_zret (pc := 71) dX10_reaches_71 rfl rfl h hP
def F_X10_reaches (l0 : Int64) (l2 : Int64) (l4 : Int64) (V : sv_V) : Option (Int32 × sv_V) := if (lg_cmp l0 (0 : Int64)) ≤ 0 then (B_X10_reaches_36  l0 l2 l4 V) else (if (lg_cmp l4 (0 : Int64)) ≤ 0 then (B_X10_reaches_36  l0 l2 l4 V) else (if 0 ≤ (lg_cmp l2 (0 : Int64)) then (some ((0 : Int32), V)) else (if (lg_cmp (l2 * l2) (l0 * l4)) < 0 then (some ((0 : Int32), V)) else (some ((1 : Int32), V)))))
set_option maxRecDepth 20000 in
theorem t_X10_reaches {g : sx_G} (hG : sx_Go g) {P : Option Value → sv_V → Prop} {r : Int32} {Vr : sv_V} (hP : P (some (.int r)) Vr) {l0 : Int64} {l2 : Int64} {l4 : Int64} {V : sv_V} (h : F_X10_reaches l0 l2 l4 V = some (r, Vr)) : sv_N g qX10_reaches 0 0 [(0, .long l0), (2, .long l2), (4, .long l4)] [] V P := by
  unfold F_X10_reaches at h
  refine sx_lload_n (pc := 0) dX10_reaches_0 sx_m0 ?_
  refine sx_lconst (pc := 1) (v := 0) dX10_reaches_1 rfl ?_
  refine sx_lcmp (pc := 2) dX10_reaches_2 ?_
  refine sx_if_le (pc := 3) (tgt := 36) dX10_reaches_3 (by decide) (fun c5 => ?_) (fun c5 => ?_)
  · have h := sx_pos c5 h
    refine sx_wk (sx_s1 sx_m0 (sx_s1 sx_m1 (sx_s1 sx_m2 sx_s0))) ?_
    exact tB_X10_reaches_36 hG hP  h
  · have h := sx_neg c5 h
    refine sx_lload (pc := 6) dX10_reaches_6 sx_m2 ?_
    refine sx_lconst (pc := 8) (v := 0) dX10_reaches_8 rfl ?_
    refine sx_lcmp (pc := 9) dX10_reaches_9 ?_
    refine sx_if_le (pc := 10) (tgt := 36) dX10_reaches_10 (by decide) (fun c6 => ?_) (fun c6 => ?_)
    · have h := sx_pos c6 h
      refine sx_wk (sx_s1 sx_m0 (sx_s1 sx_m1 (sx_s1 sx_m2 sx_s0))) ?_
      exact tB_X10_reaches_36 hG hP  h
    · have h := sx_neg c6 h
      refine sx_lload_n (pc := 13) dX10_reaches_13 sx_m1 ?_
      refine sx_lconst (pc := 14) (v := 0) dX10_reaches_14 rfl ?_
      refine sx_lcmp (pc := 15) dX10_reaches_15 ?_
      refine sx_if_ge (pc := 16) (tgt := 34) dX10_reaches_16 (by decide) (fun c7 => ?_) (fun c7 => ?_)
      · have h := sx_pos c7 h
        refine sx_iconst (pc := 34) (v := 0) dX10_reaches_34 (by decide) ?_
        exact sv_zret (pc := 35) dX10_reaches_35 rfl rfl h hP
      · have h := sx_neg c7 h
        refine sx_lload_n (pc := 19) dX10_reaches_19 sx_m1 ?_
        refine sx_lload_n (pc := 20) dX10_reaches_20 sx_m1 ?_
        refine sx_lmul (pc := 21) dX10_reaches_21 ?_
        refine sx_lload_n (pc := 22) dX10_reaches_22 sx_m0 ?_
        refine sx_lload (pc := 23) dX10_reaches_23 sx_m2 ?_
        refine sx_lmul (pc := 25) dX10_reaches_25 ?_
        refine sx_lcmp (pc := 26) dX10_reaches_26 ?_
        refine sx_if_lt (pc := 27) (tgt := 34) dX10_reaches_27 (by decide) (fun c8 => ?_) (fun c8 => ?_)
        · have h := sx_pos c8 h
          refine sx_iconst (pc := 34) (v := 0) dX10_reaches_34 (by decide) ?_
          exact sv_zret (pc := 35) dX10_reaches_35 rfl rfl h hP
        · have h := sx_neg c8 h
          refine sx_iconst (pc := 30) (v := 1) dX10_reaches_30 (by decide) ?_
          refine sx_goto (pc := 31) (tgt := 35) dX10_reaches_31 (by decide) ?_
          exact sv_zret (pc := 35) dX10_reaches_35 rfl rfl h hP
theorem dX10_sideOf_0 : decode cX10_sideOf 0 = .ok (.lload_n 0, 1) := by decide +kernel
theorem dX10_sideOf_1 : decode cX10_sideOf 1 = .ok (.lload 6, 2) := by decide +kernel
theorem dX10_sideOf_3 : decode cX10_sideOf 3 = .ok (.lmul, 1) := by decide +kernel
theorem dX10_sideOf_4 : decode cX10_sideOf 4 = .ok (.lload 4, 2) := by decide +kernel
theorem dX10_sideOf_6 : decode cX10_sideOf 6 = .ok (.lload_n 2, 1) := by decide +kernel
theorem dX10_sideOf_7 : decode cX10_sideOf 7 = .ok (.lmul, 1) := by decide +kernel
theorem dX10_sideOf_8 : decode cX10_sideOf 8 = .ok (.lsub, 1) := by decide +kernel
theorem dX10_sideOf_9 : decode cX10_sideOf 9 = .ok (.lstore 8, 2) := by decide +kernel
theorem dX10_sideOf_11 : decode cX10_sideOf 11 = .ok (.lload 8, 2) := by decide +kernel
theorem dX10_sideOf_13 : decode cX10_sideOf 13 = .ok (.lconst 0, 1) := by decide +kernel
theorem dX10_sideOf_14 : decode cX10_sideOf 14 = .ok (.lcmp, 1) := by decide +kernel
theorem dX10_sideOf_15 : decode cX10_sideOf 15 = .ok (.ifCond .ne 23, 3) := by decide +kernel
theorem dX10_sideOf_18 : decode cX10_sideOf 18 = .ok (.lload 4, 2) := by decide +kernel
theorem dX10_sideOf_20 : decode cX10_sideOf 20 = .ok (.lload_n 0, 1) := by decide +kernel
theorem dX10_sideOf_21 : decode cX10_sideOf 21 = .ok (.lcmp, 1) := by decide +kernel
theorem dX10_sideOf_22 : decode cX10_sideOf 22 = .ok (.ifCond .eq 10, 3) := by decide +kernel
theorem dX10_sideOf_25 : decode cX10_sideOf 25 = .ok (.lload 4, 2) := by decide +kernel
theorem dX10_sideOf_27 : decode cX10_sideOf 27 = .ok (.lload_n 0, 1) := by decide +kernel
theorem dX10_sideOf_28 : decode cX10_sideOf 28 = .ok (.lsub, 1) := by decide +kernel
theorem dX10_sideOf_29 : decode cX10_sideOf 29 = .ok (.goto 7, 3) := by decide +kernel
theorem dX10_sideOf_32 : decode cX10_sideOf 32 = .ok (.lload_n 2, 1) := by decide +kernel
theorem dX10_sideOf_33 : decode cX10_sideOf 33 = .ok (.lload 6, 2) := by decide +kernel
theorem dX10_sideOf_35 : decode cX10_sideOf 35 = .ok (.lsub, 1) := by decide +kernel
theorem dX10_sideOf_36 : decode cX10_sideOf 36 = .ok (.lstore 8, 2) := by decide +kernel
theorem dX10_sideOf_38 : decode cX10_sideOf 38 = .ok (.lload 8, 2) := by decide +kernel
theorem dX10_sideOf_40 : decode cX10_sideOf 40 = .ok (.lconst 0, 1) := by decide +kernel
theorem dX10_sideOf_41 : decode cX10_sideOf 41 = .ok (.lcmp, 1) := by decide +kernel
theorem dX10_sideOf_42 : decode cX10_sideOf 42 = .ok (.ifCond .le 7, 3) := by decide +kernel
theorem dX10_sideOf_45 : decode cX10_sideOf 45 = .ok (.iconst 1, 1) := by decide +kernel
theorem dX10_sideOf_46 : decode cX10_sideOf 46 = .ok (.goto 15, 3) := by decide +kernel
theorem dX10_sideOf_49 : decode cX10_sideOf 49 = .ok (.lload 8, 2) := by decide +kernel
theorem dX10_sideOf_51 : decode cX10_sideOf 51 = .ok (.lconst 0, 1) := by decide +kernel
theorem dX10_sideOf_52 : decode cX10_sideOf 52 = .ok (.lcmp, 1) := by decide +kernel
theorem dX10_sideOf_53 : decode cX10_sideOf 53 = .ok (.ifCond .ge 7, 3) := by decide +kernel
theorem dX10_sideOf_56 : decode cX10_sideOf 56 = .ok (.iconst (-1), 1) := by decide +kernel
theorem dX10_sideOf_57 : decode cX10_sideOf 57 = .ok (.goto 4, 3) := by decide +kernel
theorem dX10_sideOf_60 : decode cX10_sideOf 60 = .ok (.iconst 0, 1) := by decide +kernel
theorem dX10_sideOf_61 : decode cX10_sideOf 61 = .ok (.ireturn, 1) := by decide +kernel
def B_X10_sideOf_38  (l8 : Int64) (V : sv_V) : Option (Int32 × sv_V) := if (lg_cmp l8 (0 : Int64)) ≤ 0 then (if 0 ≤ (lg_cmp l8 (0 : Int64)) then (some ((0 : Int32), V)) else (some ((-1 : Int32), V))) else (some ((1 : Int32), V))
set_option maxRecDepth 20000 in
theorem tB_X10_sideOf_38 {g : sx_G} (hG : sx_Go g) {P : Option Value → sv_V → Prop} {r : Int32} {Vr : sv_V} (hP : P (some (.int r)) Vr)   {l8 : Int64} {V : sv_V} (h : B_X10_sideOf_38  l8 V = some (r, Vr)) : sv_N g qX10_sideOf 0 38 [(8, .long l8)] [] V P := by
  unfold B_X10_sideOf_38 at h
  refine sx_lload (pc := 38) dX10_sideOf_38 sx_m0 ?_
  refine sx_lconst (pc := 40) (v := 0) dX10_sideOf_40 rfl ?_
  refine sx_lcmp (pc := 41) dX10_sideOf_41 ?_
  refine sx_if_le (pc := 42) (tgt := 49) dX10_sideOf_42 (by decide) (fun c1 => ?_) (fun c1 => ?_)
  · have h := sx_pos c1 h
    refine sx_lload (pc := 49) dX10_sideOf_49 sx_m0 ?_
    refine sx_lconst (pc := 51) (v := 0) dX10_sideOf_51 rfl ?_
    refine sx_lcmp (pc := 52) dX10_sideOf_52 ?_
    refine sx_if_ge (pc := 53) (tgt := 60) dX10_sideOf_53 (by decide) (fun c2 => ?_) (fun c2 => ?_)
    · have h := sx_pos c2 h
      refine sx_iconst (pc := 60) (v := 0) dX10_sideOf_60 (by decide) ?_
      exact sv_iret (pc := 61) dX10_sideOf_61 rfl h hP
    · have h := sx_neg c2 h
      refine sx_iconst (pc := 56) (v := (-1)) dX10_sideOf_56 (by decide) ?_
      refine sx_goto (pc := 57) (tgt := 61) dX10_sideOf_57 (by decide) ?_
      exact sv_iret (pc := 61) dX10_sideOf_61 rfl h hP
  · have h := sx_neg c1 h
    refine sx_iconst (pc := 45) (v := 1) dX10_sideOf_45 (by decide) ?_
    refine sx_goto (pc := 46) (tgt := 61) dX10_sideOf_46 (by decide) ?_
    exact sv_iret (pc := 61) dX10_sideOf_61 rfl h hP
def B_X10_sideOf_36  (s0 : Int64) (V : sv_V) : Option (Int32 × sv_V) := B_X10_sideOf_38  s0 V
set_option maxRecDepth 20000 in
theorem tB_X10_sideOf_36 {g : sx_G} (hG : sx_Go g) {P : Option Value → sv_V → Prop} {r : Int32} {Vr : sv_V} (hP : P (some (.int r)) Vr)   {s0 : Int64} {V : sv_V} (h : B_X10_sideOf_36  s0 V = some (r, Vr)) : sv_N g qX10_sideOf 0 36 [] [.long s0] V P := by
  unfold B_X10_sideOf_36 at h
  refine sx_lstore (pc := 36) (lo' := [(8, .long s0)]) dX10_sideOf_36 (by decide) rfl ?_
  refine sx_wk (sx_s1 sx_m0 sx_s0) ?_
  exact tB_X10_sideOf_38 hG hP  h
def F_X10_sideOf (l0 : Int64) (l2 : Int64) (l4 : Int64) (l6 : Int64) (V : sv_V) : Option (Int32 × sv_V) := sx_let ((l0 * l6) - (l4 * l2)) (fun x3 => if (lg_cmp x3 (0 : Int64)) = 0 then (if (lg_cmp l4 l0) = 0 then (B_X10_sideOf_36  (l2 - l6) V) else (B_X10_sideOf_36  (l4 - l0) V)) else (B_X10_sideOf_38  x3 V))
set_option maxRecDepth 20000 in
theorem t_X10_sideOf {g : sx_G} (hG : sx_Go g) {P : Option Value → sv_V → Prop} {r : Int32} {Vr : sv_V} (hP : P (some (.int r)) Vr) {l0 : Int64} {l2 : Int64} {l4 : Int64} {l6 : Int64} {V : sv_V} (h : F_X10_sideOf l0 l2 l4 l6 V = some (r, Vr)) : sv_N g qX10_sideOf 0 0 [(0, .long l0), (2, .long l2), (4, .long l4), (6, .long l6)] [] V P := by
  unfold F_X10_sideOf at h
  refine sx_lload_n (pc := 0) dX10_sideOf_0 sx_m0 ?_
  refine sx_lload (pc := 1) dX10_sideOf_1 sx_m3 ?_
  refine sx_lmul (pc := 3) dX10_sideOf_3 ?_
  refine sx_lload (pc := 4) dX10_sideOf_4 sx_m2 ?_
  refine sx_lload_n (pc := 6) dX10_sideOf_6 sx_m1 ?_
  refine sx_lmul (pc := 7) dX10_sideOf_7 ?_
  refine sx_lsub (pc := 8) dX10_sideOf_8 ?_
  refine sv_tJ (fun x3 hx3 => ?_)
  have h := sx_letE hx3 h
  refine sx_lstore (pc := 9) (lo' := [(8, .long x3), (0, .long l0), (2, .long l2), (4, .long l4), (6, .long l6)]) dX10_sideOf_9 (by decide) rfl ?_
  refine sx_lload (pc := 11) dX10_sideOf_11 sx_m0 ?_
  refine sx_lconst (pc := 13) (v := 0) dX10_sideOf_13 rfl ?_
  refine sx_lcmp (pc := 14) dX10_sideOf_14 ?_
  refine sx_if_ne (pc := 15) (tgt := 38) dX10_sideOf_15 (by decide) (fun c4 => ?_) (fun c4 => ?_)
  · have h := sx_neg c4 h
    refine sx_wk (sx_s1 sx_m0 sx_s0) ?_
    exact tB_X10_sideOf_38 hG hP  h
  · have h := sx_pos c4 h
    refine sx_lload (pc := 18) dX10_sideOf_18 sx_m3 ?_
    refine sx_lload_n (pc := 20) dX10_sideOf_20 sx_m1 ?_
    refine sx_lcmp (pc := 21) dX10_sideOf_21 ?_
    refine sx_if_eq (pc := 22) (tgt := 32) dX10_sideOf_22 (by decide) (fun c5 => ?_) (fun c5 => ?_)
    · have h := sx_pos c5 h
      refine sx_lload_n (pc := 32) dX10_sideOf_32 sx_m2 ?_
      refine sx_lload (pc := 33) dX10_sideOf_33 sx_m4 ?_
      refine sx_lsub (pc := 35) dX10_sideOf_35 ?_
      refine sx_wk sx_s0 ?_
      exact tB_X10_sideOf_36 hG hP  h
    · have h := sx_neg c5 h
      refine sx_lload (pc := 25) dX10_sideOf_25 sx_m3 ?_
      refine sx_lload_n (pc := 27) dX10_sideOf_27 sx_m1 ?_
      refine sx_lsub (pc := 28) dX10_sideOf_28 ?_
      refine sx_goto (pc := 29) (tgt := 36) dX10_sideOf_29 (by decide) ?_
      refine sx_wk sx_s0 ?_
      exact tB_X10_sideOf_36 hG hP  h
theorem dX10_crossing_0 : decode cX10_crossing 0 = .ok (.lload_n 2, 1) := by decide +kernel
theorem dX10_crossing_1 : decode cX10_crossing 1 = .ok (.lconst 0, 1) := by decide +kernel
theorem dX10_crossing_2 : decode cX10_crossing 2 = .ok (.lcmp, 1) := by decide +kernel
theorem dX10_crossing_3 : decode cX10_crossing 3 = .ok (.ifCond .gt 28, 3) := by decide +kernel
theorem dX10_crossing_6 : decode cX10_crossing 6 = .ok (.lload 6, 2) := by decide +kernel
theorem dX10_crossing_8 : decode cX10_crossing 8 = .ok (.lconst 0, 1) := by decide +kernel
theorem dX10_crossing_9 : decode cX10_crossing 9 = .ok (.lcmp, 1) := by decide +kernel
theorem dX10_crossing_10 : decode cX10_crossing 10 = .ok (.ifCond .le 21, 3) := by decide +kernel
theorem dX10_crossing_13 : decode cX10_crossing 13 = .ok (.lload_n 0, 1) := by decide +kernel
theorem dX10_crossing_14 : decode cX10_crossing 14 = .ok (.lload_n 2, 1) := by decide +kernel
theorem dX10_crossing_15 : decode cX10_crossing 15 = .ok (.lload 4, 2) := by decide +kernel
theorem dX10_crossing_17 : decode cX10_crossing 17 = .ok (.lload 6, 2) := by decide +kernel
theorem dX10_crossing_19 : decode cX10_crossing 19 = .ok (.invokestatic 111, 3) := by decide +kernel
theorem dX10_crossing_22 : decode cX10_crossing 22 = .ok (.ifCond .le 7, 3) := by decide +kernel
theorem dX10_crossing_25 : decode cX10_crossing 25 = .ok (.iconst 1, 1) := by decide +kernel
theorem dX10_crossing_26 : decode cX10_crossing 26 = .ok (.goto 4, 3) := by decide +kernel
theorem dX10_crossing_29 : decode cX10_crossing 29 = .ok (.iconst 0, 1) := by decide +kernel
theorem dX10_crossing_30 : decode cX10_crossing 30 = .ok (.ireturn, 1) := by decide +kernel
theorem dX10_crossing_31 : decode cX10_crossing 31 = .ok (.lload 6, 2) := by decide +kernel
theorem dX10_crossing_33 : decode cX10_crossing 33 = .ok (.lconst 0, 1) := by decide +kernel
theorem dX10_crossing_34 : decode cX10_crossing 34 = .ok (.lcmp, 1) := by decide +kernel
theorem dX10_crossing_35 : decode cX10_crossing 35 = .ok (.ifCond .gt 27, 3) := by decide +kernel
theorem dX10_crossing_38 : decode cX10_crossing 38 = .ok (.lload_n 2, 1) := by decide +kernel
theorem dX10_crossing_39 : decode cX10_crossing 39 = .ok (.lconst 0, 1) := by decide +kernel
theorem dX10_crossing_40 : decode cX10_crossing 40 = .ok (.lcmp, 1) := by decide +kernel
theorem dX10_crossing_41 : decode cX10_crossing 41 = .ok (.ifCond .le 21, 3) := by decide +kernel
theorem dX10_crossing_44 : decode cX10_crossing 44 = .ok (.lload_n 0, 1) := by decide +kernel
theorem dX10_crossing_45 : decode cX10_crossing 45 = .ok (.lload_n 2, 1) := by decide +kernel
theorem dX10_crossing_46 : decode cX10_crossing 46 = .ok (.lload 4, 2) := by decide +kernel
theorem dX10_crossing_48 : decode cX10_crossing 48 = .ok (.lload 6, 2) := by decide +kernel
theorem dX10_crossing_50 : decode cX10_crossing 50 = .ok (.invokestatic 111, 3) := by decide +kernel
theorem dX10_crossing_53 : decode cX10_crossing 53 = .ok (.ifCond .ge 7, 3) := by decide +kernel
theorem dX10_crossing_56 : decode cX10_crossing 56 = .ok (.iconst (-1), 1) := by decide +kernel
theorem dX10_crossing_57 : decode cX10_crossing 57 = .ok (.goto 4, 3) := by decide +kernel
theorem dX10_crossing_60 : decode cX10_crossing 60 = .ok (.iconst 0, 1) := by decide +kernel
theorem dX10_crossing_61 : decode cX10_crossing 61 = .ok (.ireturn, 1) := by decide +kernel
theorem dX10_crossing_62 : decode cX10_crossing 62 = .ok (.iconst 0, 1) := by decide +kernel
theorem dX10_crossing_63 : decode cX10_crossing 63 = .ok (.ireturn, 1) := by decide +kernel
def B_X10_crossing_31  (l0 : Int64) (l2 : Int64) (l4 : Int64) (l6 : Int64) (V : sv_V) : Option (Int32 × sv_V) := if 0 < (lg_cmp l6 (0 : Int64)) then (some ((0 : Int32), V)) else (if (lg_cmp l2 (0 : Int64)) ≤ 0 then (some ((0 : Int32), V)) else ((F_X10_sideOf l0 l2 l4 l6 V).bind (fun (x5, V3) => if 0 ≤ x5 then (some ((0 : Int32), V3)) else (some ((-1 : Int32), V3)))))
set_option maxRecDepth 20000 in
theorem tB_X10_crossing_31 {g : sx_G} (hG : sx_Go g) {P : Option Value → sv_V → Prop} {r : Int32} {Vr : sv_V} (hP : P (some (.int r)) Vr)   {l0 : Int64} {l2 : Int64} {l4 : Int64} {l6 : Int64} {V : sv_V} (h : B_X10_crossing_31  l0 l2 l4 l6 V = some (r, Vr)) : sv_N g qX10_crossing 1 31 [(0, .long l0), (2, .long l2), (4, .long l4), (6, .long l6)] [] V P := by
  unfold B_X10_crossing_31 at h
  refine sx_lload (pc := 31) dX10_crossing_31 sx_m3 ?_
  refine sx_lconst (pc := 33) (v := 0) dX10_crossing_33 rfl ?_
  refine sx_lcmp (pc := 34) dX10_crossing_34 ?_
  refine sx_if_gt (pc := 35) (tgt := 62) dX10_crossing_35 (by decide) (fun c1 => ?_) (fun c1 => ?_)
  · have h := sx_pos c1 h
    refine sx_iconst (pc := 62) (v := 0) dX10_crossing_62 (by decide) ?_
    exact sv_iret (pc := 63) dX10_crossing_63 rfl h hP
  · have h := sx_neg c1 h
    refine sx_lload_n (pc := 38) dX10_crossing_38 sx_m1 ?_
    refine sx_lconst (pc := 39) (v := 0) dX10_crossing_39 rfl ?_
    refine sx_lcmp (pc := 40) dX10_crossing_40 ?_
    refine sx_if_le (pc := 41) (tgt := 62) dX10_crossing_41 (by decide) (fun c2 => ?_) (fun c2 => ?_)
    · have h := sx_pos c2 h
      refine sx_iconst (pc := 62) (v := 0) dX10_crossing_62 (by decide) ?_
      exact sv_iret (pc := 63) dX10_crossing_63 rfl h hP
    · have h := sx_neg c2 h
      refine sx_lload_n (pc := 44) dX10_crossing_44 sx_m0 ?_
      refine sx_lload_n (pc := 45) dX10_crossing_45 sx_m1 ?_
      refine sx_lload (pc := 46) dX10_crossing_46 sx_m2 ?_
      refine sx_lload (pc := 48) dX10_crossing_48 sx_m3 ?_
      obtain ⟨⟨x5, V3⟩, g4, h⟩ := sx_bnd h
      refine sv_cS (pc := 50) (y := qX10_sideOf) (o := (some (.int x5))) (as := [.long l0, .long l2, .long l4, .long l6]) (V1 := V3) dX10_crossing_50 l_X10_111 y0X10_sideOf ysX10_sideOf rfl (Nat.le_of_ble_eq_true rfl) (by decide) (Nat.le_of_ble_eq_true rfl) rfl rfl rfl (t_X10_sideOf hG ⟨rfl, rfl⟩ g4) ?_
      refine sx_if_ge (pc := 53) (tgt := 60) dX10_crossing_53 (by decide) (fun c6 => ?_) (fun c6 => ?_)
      · have h := sx_pos c6 h
        refine sx_iconst (pc := 60) (v := 0) dX10_crossing_60 (by decide) ?_
        exact sv_iret (pc := 61) dX10_crossing_61 rfl h hP
      · have h := sx_neg c6 h
        refine sx_iconst (pc := 56) (v := (-1)) dX10_crossing_56 (by decide) ?_
        refine sx_goto (pc := 57) (tgt := 61) dX10_crossing_57 (by decide) ?_
        exact sv_iret (pc := 61) dX10_crossing_61 rfl h hP
def F_X10_crossing (l0 : Int64) (l2 : Int64) (l4 : Int64) (l6 : Int64) (V : sv_V) : Option (Int32 × sv_V) := if 0 < (lg_cmp l2 (0 : Int64)) then (B_X10_crossing_31  l0 l2 l4 l6 V) else (if (lg_cmp l6 (0 : Int64)) ≤ 0 then (B_X10_crossing_31  l0 l2 l4 l6 V) else ((F_X10_sideOf l0 l2 l4 l6 V).bind (fun (x11, V9) => if x11 ≤ 0 then (some ((0 : Int32), V9)) else (some ((1 : Int32), V9)))))
set_option maxRecDepth 20000 in
theorem t_X10_crossing {g : sx_G} (hG : sx_Go g) {P : Option Value → sv_V → Prop} {r : Int32} {Vr : sv_V} (hP : P (some (.int r)) Vr) {l0 : Int64} {l2 : Int64} {l4 : Int64} {l6 : Int64} {V : sv_V} (h : F_X10_crossing l0 l2 l4 l6 V = some (r, Vr)) : sv_N g qX10_crossing 1 0 [(0, .long l0), (2, .long l2), (4, .long l4), (6, .long l6)] [] V P := by
  unfold F_X10_crossing at h
  refine sx_lload_n (pc := 0) dX10_crossing_0 sx_m1 ?_
  refine sx_lconst (pc := 1) (v := 0) dX10_crossing_1 rfl ?_
  refine sx_lcmp (pc := 2) dX10_crossing_2 ?_
  refine sx_if_gt (pc := 3) (tgt := 31) dX10_crossing_3 (by decide) (fun c7 => ?_) (fun c7 => ?_)
  · have h := sx_pos c7 h
    refine sx_wk (sx_s1 sx_m0 (sx_s1 sx_m1 (sx_s1 sx_m2 (sx_s1 sx_m3 sx_s0)))) ?_
    exact tB_X10_crossing_31 hG hP  h
  · have h := sx_neg c7 h
    refine sx_lload (pc := 6) dX10_crossing_6 sx_m3 ?_
    refine sx_lconst (pc := 8) (v := 0) dX10_crossing_8 rfl ?_
    refine sx_lcmp (pc := 9) dX10_crossing_9 ?_
    refine sx_if_le (pc := 10) (tgt := 31) dX10_crossing_10 (by decide) (fun c8 => ?_) (fun c8 => ?_)
    · have h := sx_pos c8 h
      refine sx_wk (sx_s1 sx_m0 (sx_s1 sx_m1 (sx_s1 sx_m2 (sx_s1 sx_m3 sx_s0)))) ?_
      exact tB_X10_crossing_31 hG hP  h
    · have h := sx_neg c8 h
      refine sx_lload_n (pc := 13) dX10_crossing_13 sx_m0 ?_
      refine sx_lload_n (pc := 14) dX10_crossing_14 sx_m1 ?_
      refine sx_lload (pc := 15) dX10_crossing_15 sx_m2 ?_
      refine sx_lload (pc := 17) dX10_crossing_17 sx_m3 ?_
      obtain ⟨⟨x11, V9⟩, g10, h⟩ := sx_bnd h
      refine sv_cS (pc := 19) (y := qX10_sideOf) (o := (some (.int x11))) (as := [.long l0, .long l2, .long l4, .long l6]) (V1 := V9) dX10_crossing_19 l_X10_111 y0X10_sideOf ysX10_sideOf rfl (Nat.le_of_ble_eq_true rfl) (by decide) (Nat.le_of_ble_eq_true rfl) rfl rfl rfl (t_X10_sideOf hG ⟨rfl, rfl⟩ g10) ?_
      refine sx_if_le (pc := 22) (tgt := 29) dX10_crossing_22 (by decide) (fun c12 => ?_) (fun c12 => ?_)
      · have h := sx_pos c12 h
        refine sx_iconst (pc := 29) (v := 0) dX10_crossing_29 (by decide) ?_
        exact sv_iret (pc := 30) dX10_crossing_30 rfl h hP
      · have h := sx_neg c12 h
        refine sx_iconst (pc := 25) (v := 1) dX10_crossing_25 (by decide) ?_
        refine sx_goto (pc := 26) (tgt := 30) dX10_crossing_26 (by decide) ?_
        exact sv_iret (pc := 30) dX10_crossing_30 rfl h hP
