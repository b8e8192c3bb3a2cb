section
/-! methods: X5_turnRange, X5_firstTouched, X5_turnPoints, X5_noteReferences, X6_forgetAll, X6_keptOf, X7_hasCvt, X7_hasStorage, X8_has, X8_firstOf, X8_contourOf, X8_copyFrom, X8_endProgram, X8_shift, X9_useWayForP, X9_useWayForF, X9_turnWayLeft, X9_shareOf, X9_roundBy, X9_roundFinely, X10_addLine, X10_addCurve, X10_spans, X10_hasRow, X10_reaches, X10_sideOf, X10_crossing -/
def ncX5_turnRange : Nat := 2883310460522132636235891711099988525247047151360452720431547506823931750147000689169438738489054059090958844341333577072672024107713675516344653914023819949550229097288212397733418
theorem kcX5_turnRange : CK cX5_turnRange ncX5_turnRange 75 := ⟨by decide +kernel, by decide +kernel⟩
theorem dX5_turnRange_0 : decode cX5_turnRange 0 = .ok (.aload_n 0, 1) := dl_o42 kcX5_turnRange (by decide +kernel)
theorem dX5_turnRange_1 : decode cX5_turnRange 1 = .ok (.invokevirtual 242, 3) := dl_o182 kcX5_turnRange (by decide +kernel)
theorem dX5_turnRange_4 : decode cX5_turnRange 4 = .ok (.istore_n 2, 1) := dl_o61 kcX5_turnRange (by decide +kernel)
theorem dX5_turnRange_5 : decode cX5_turnRange 5 = .ok (.aload_n 0, 1) := dl_o42 kcX5_turnRange (by decide +kernel)
theorem dX5_turnRange_6 : decode cX5_turnRange 6 = .ok (.invokevirtual 242, 3) := dl_o182 kcX5_turnRange (by decide +kernel)
theorem dX5_turnRange_9 : decode cX5_turnRange 9 = .ok (.istore_n 3, 1) := dl_o62 kcX5_turnRange (by decide +kernel)
theorem dX5_turnRange_10 : decode cX5_turnRange 10 = .ok (.iload_n 2, 1) := dl_o28 kcX5_turnRange (by decide +kernel)
theorem dX5_turnRange_11 : decode cX5_turnRange 11 = .ok (.iload_n 3, 1) := dl_o29 kcX5_turnRange (by decide +kernel)
theorem dX5_turnRange_12 : decode cX5_turnRange 12 = .ok (.if_icmp .ge 4, 3) := dl_o162 kcX5_turnRange 4 (by decide +kernel) (by decide +kernel)
theorem dX5_turnRange_15 : decode cX5_turnRange 15 = .ok (.return_, 1) := dl_o177 kcX5_turnRange (by decide +kernel)
theorem dX5_turnRange_16 : decode cX5_turnRange 16 = .ok (.iload_n 3, 1) := dl_o29 kcX5_turnRange (by decide +kernel)
theorem dX5_turnRange_17 : decode cX5_turnRange 17 = .ok (.ifCond .lt 14, 3) := dl_o155 kcX5_turnRange 14 (by decide +kernel) (by decide +kernel)
theorem dX5_turnRange_20 : decode cX5_turnRange 20 = .ok (.iload_n 2, 1) := dl_o28 kcX5_turnRange (by decide +kernel)
theorem dX5_turnRange_21 : decode cX5_turnRange 21 = .ok (.aload_n 0, 1) := dl_o42 kcX5_turnRange (by decide +kernel)
theorem dX5_turnRange_22 : decode cX5_turnRange 22 = .ok (.getfield 38, 3) := dl_o180 kcX5_turnRange (by decide +kernel)
theorem dX5_turnRange_25 : decode cX5_turnRange 25 = .ok (.getfield 474, 3) := dl_o180 kcX5_turnRange (by decide +kernel)
theorem dX5_turnRange_28 : decode cX5_turnRange 28 = .ok (.if_icmp .lt 9, 3) := dl_o161 kcX5_turnRange 9 (by decide +kernel) (by decide +kernel)
theorem dX5_turnRange_31 : decode cX5_turnRange 31 = .ok (.aload_n 0, 1) := dl_o42 kcX5_turnRange (by decide +kernel)
theorem dX5_turnRange_32 : decode cX5_turnRange 32 = .ok (.iconst 5, 1) := dl_o8 kcX5_turnRange (by decide +kernel)
theorem dX5_turnRange_33 : decode cX5_turnRange 33 = .ok (.putfield 56, 3) := dl_o181 kcX5_turnRange (by decide +kernel)
theorem dX5_turnRange_36 : decode cX5_turnRange 36 = .ok (.return_, 1) := dl_o177 kcX5_turnRange (by decide +kernel)
theorem dX5_turnRange_37 : decode cX5_turnRange 37 = .ok (.iload_n 3, 1) := dl_o29 kcX5_turnRange (by decide +kernel)
theorem dX5_turnRange_38 : decode cX5_turnRange 38 = .ok (.istore 4, 2) := dl_o54 kcX5_turnRange (by decide +kernel)
theorem dX5_turnRange_40 : decode cX5_turnRange 40 = .ok (.iload 4, 2) := dl_o21 kcX5_turnRange (by decide +kernel)
theorem dX5_turnRange_42 : decode cX5_turnRange 42 = .ok (.iload_n 2, 1) := dl_o28 kcX5_turnRange (by decide +kernel)
theorem dX5_turnRange_43 : decode cX5_turnRange 43 = .ok (.if_icmp .gt 31, 3) := dl_o163 kcX5_turnRange 31 (by decide +kernel) (by decide +kernel)
theorem dX5_turnRange_46 : decode cX5_turnRange 46 = .ok (.aload_n 0, 1) := dl_o42 kcX5_turnRange (by decide +kernel)
theorem dX5_turnRange_47 : decode cX5_turnRange 47 = .ok (.getfield 38, 3) := dl_o180 kcX5_turnRange (by decide +kernel)
theorem dX5_turnRange_50 : decode cX5_turnRange 50 = .ok (.getfield 477, 3) := dl_o180 kcX5_turnRange (by decide +kernel)
theorem dX5_turnRange_53 : decode cX5_turnRange 53 = .ok (.iload 4, 2) := dl_o21 kcX5_turnRange (by decide +kernel)
theorem dX5_turnRange_55 : decode cX5_turnRange 55 = .ok (.iload_n 1, 1) := dl_o27 kcX5_turnRange (by decide +kernel)
theorem dX5_turnRange_56 : decode cX5_turnRange 56 = .ok (.sipush 129, 3) := dl_o17 kcX5_turnRange 129 (by decide +kernel) (by decide +kernel)
theorem dX5_turnRange_59 : decode cX5_turnRange 59 = .ok (.if_icmp .ne 7, 3) := dl_o160 kcX5_turnRange 7 (by decide +kernel) (by decide +kernel)
theorem dX5_turnRange_62 : decode cX5_turnRange 62 = .ok (.iconst 1, 1) := dl_o4 kcX5_turnRange (by decide +kernel)
theorem dX5_turnRange_63 : decode cX5_turnRange 63 = .ok (.goto 4, 3) := dl_o167 kcX5_turnRange 4 (by decide +kernel) (by decide +kernel)
theorem dX5_turnRange_66 : decode cX5_turnRange 66 = .ok (.iconst 0, 1) := dl_o3 kcX5_turnRange (by decide +kernel)
theorem dX5_turnRange_67 : decode cX5_turnRange 67 = .ok (.iastore, 1) := dl_o79 kcX5_turnRange (by decide +kernel)
theorem dX5_turnRange_68 : decode cX5_turnRange 68 = .ok (.iinc 4 1, 3) := by decide +kernel
theorem dX5_turnRange_71 : decode cX5_turnRange 71 = .ok (.goto (-31), 3) := dl_o167 kcX5_turnRange 65505 (by decide +kernel) (by decide +kernel)
theorem dX5_turnRange_74 : decode cX5_turnRange 74 = .ok (.return_, 1) := dl_o177 kcX5_turnRange (by decide +kernel)
def B_X5_turnRange_67 (N : Nat) (k40 : Int32 → Int32 → Int32 → sv_V → Option sv_V) (l1 : Int32) (l2 : Int32) (l4 : Int32) (s0 : Nat) (s1 : Int32) (s2 : Int32) (V : sv_V) : Option sv_V := (sv_len 0 s0).bind (fun n1 => if sx_in s1 n1 = true then sx_let (sv_I V s0 s1.toNatClampNeg s2) (fun V4 => sx_let (l4 + 1) (fun x5 => k40 l1 l2 x5 V4)) else none)
set_option maxRecDepth 20000 in
theorem tB_X5_turnRange_67 {g : sx_G} (hG : sx_Go g) {P : Option Value → sv_V → Prop} {Vr : sv_V} (hP : P none Vr) {N : Nat} {k40 : Int32 → Int32 → Int32 → sv_V → Option sv_V} (hk40 : ∀ (l1 : Int32) (l2 : Int32) (l4 : Int32) (V : sv_V), k40 l1 l2 l4 V = some Vr → sv_N g qX5_turnRange 1 40 [(0, .ref 69), (1, .int l1), (2, .int l2), (4, .int l4)] [] V P) {l1 : Int32} {l2 : Int32} {l4 : Int32} {s0 : Nat} {s1 : Int32} {s2 : Int32} {V : sv_V} (h : B_X5_turnRange_67 N k40 l1 l2 l4 s0 s1 s2 V = some Vr) : sv_N g qX5_turnRange 1 67 [(0, .ref 69), (1, .int l1), (2, .int l2), (4, .int l4)] [.int s2, .int s1, .ref s0] V P := by
  unfold B_X5_turnRange_67 at h
  obtain ⟨n1, g2, h⟩ := sx_bnd h
  obtain ⟨g3, h⟩ := sx_grd h
  obtain ⟨V4, hV4⟩ : ∃ z : sv_V, z = sv_I V s0 s1.toNatClampNeg s2 := ⟨_, rfl⟩
  have h := sx_letE hV4 h
  refine sv_iast (pc := 67) hG dX5_turnRange_67 (sv_len_e g2) g3 hV4 ?_
  obtain ⟨x5, hx5⟩ : ∃ z : Int32, z = l4 + 1 := ⟨_, rfl⟩
  have h := sx_letE hx5 h
  refine sx_iinc (pc := 68) (v := x5) (lo' := [(4, .int x5), (0, .ref 69), (1, .int l1), (2, .int l2)]) dX5_turnRange_68 sx_m3 (by rw [hx5]; rfl) (by decide) rfl ?_
  refine sx_goto (pc := 71) (tgt := 40) dX5_turnRange_71 (by decide) ?_
  refine sx_wk (sx_s1 sx_m1 (sx_s1 sx_m2 (sx_s1 sx_m3 (sx_s1 sx_m0 sx_s0)))) ?_
  exact hk40 _ _ _ _ h
def B_X5_turnRange_40 (N : Nat) (k40 : Int32 → Int32 → Int32 → sv_V → Option sv_V) (l1 : Int32) (l2 : Int32) (l4 : Int32) (V : sv_V) : Option sv_V := if l2 < l4 then (some V) else ((V.2.2 69 7).bind (fun b7 => if lay b7 = .inl 8 then (cr b7 5).bind (fun b10 => if l1 = (129 : Int32) then (B_X5_turnRange_67 N k40 l1 l2 l4 b10 l4 (1 : Int32) V) else (B_X5_turnRange_67 N k40 l1 l2 l4 b10 l4 (0 : Int32) V)) else none))
set_option maxRecDepth 20000 in
theorem tB_X5_turnRange_40 {g : sx_G} (hG : sx_Go g) {P : Option Value → sv_V → Prop} {Vr : sv_V} (hP : P none Vr) {N : Nat} {k40 : Int32 → Int32 → Int32 → sv_V → Option sv_V} (hk40 : ∀ (l1 : Int32) (l2 : Int32) (l4 : Int32) (V : sv_V), k40 l1 l2 l4 V = some Vr → sv_N g qX5_turnRange 1 40 [(0, .ref 69), (1, .int l1), (2, .int l2), (4, .int l4)] [] V P) {l1 : Int32} {l2 : Int32} {l4 : Int32} {V : sv_V} (h : B_X5_turnRange_40 N k40 l1 l2 l4 V = some Vr) : sv_N g qX5_turnRange 1 40 [(0, .ref 69), (1, .int l1), (2, .int l2), (4, .int l4)] [] V P := by
  unfold B_X5_turnRange_40 at h
  refine sx_iload (pc := 40) dX5_turnRange_40 sx_m3 ?_
  refine sx_iload_n (pc := 42) dX5_turnRange_42 sx_m2 ?_
  refine sx_icmp_gt (pc := 43) (tgt := 74) dX5_turnRange_43 (by decide) (fun c6 => ?_) (fun c6 => ?_)
  · have h := sx_pos c6 h
    exact sv_vret (pc := 74) dX5_turnRange_74 rfl h hP
  · have h := sx_neg c6 h
    refine sx_aload_n (pc := 46) dX5_turnRange_46 sx_m0 ?_
    obtain ⟨b7, g8, h⟩ := sx_bnd h
    refine sv_getV (pc := 47) hG dX5_turnRange_47 f_5_38 lay_69 rfl rfl g8 ?_
    obtain ⟨g9, h⟩ := sx_grd h
    obtain ⟨b10, g11, h⟩ := sx_bnd h
    refine sv_getA (pc := 50) hG dX5_turnRange_50 f_5_477 g9 rfl g11 ?_
    refine sx_iload (pc := 53) dX5_turnRange_53 sx_m3 ?_
    refine sx_iload_n (pc := 55) dX5_turnRange_55 sx_m1 ?_
    refine sx_sipush (pc := 56) (v := 129) dX5_turnRange_56 (by decide) ?_
    refine sx_icmp_ne (pc := 59) (tgt := 66) dX5_turnRange_59 (by decide) (fun c12 => ?_) (fun c12 => ?_)
    · have h := sx_neg c12 h
      refine sx_iconst (pc := 66) (v := 0) dX5_turnRange_66 (by decide) ?_
      refine sx_wk (sx_s1 sx_m0 (sx_s1 sx_m1 (sx_s1 sx_m2 (sx_s1 sx_m3 sx_s0)))) ?_
      exact tB_X5_turnRange_67 hG hP hk40 h
    · have h := sx_pos c12 h
      refine sx_iconst (pc := 62) (v := 1) dX5_turnRange_62 (by decide) ?_
      refine sx_goto (pc := 63) (tgt := 67) dX5_turnRange_63 (by decide) ?_
      refine sx_wk (sx_s1 sx_m0 (sx_s1 sx_m1 (sx_s1 sx_m2 (sx_s1 sx_m3 sx_s0)))) ?_
      exact tB_X5_turnRange_67 hG hP hk40 h
theorem tL_X5_turnRange_40 {g : sx_G} (hG : sx_Go g) {P : Option Value → sv_V → Prop} {Vr : sv_V} (hP : P none Vr) {N : Nat}   : ∀ (n : Nat) (l1 : Int32) (l2 : Int32) (l4 : Int32) (V : sv_V), sx_lp4 (B_X5_turnRange_40 N ) n l1 l2 l4 V = some Vr → sv_N g qX5_turnRange 1 40 [(0, .ref 69), (1, .int l1), (2, .int l2), (4, .int l4)] [] V P :=
  sx_lp4_ind (fun k0 ih _ _ _ V h => tB_X5_turnRange_40 hG hP ih h)
def F_X5_turnRange (N : Nat) (l1 : Int32) (V : sv_V) : Option sv_V := (F_X5_pop  V).bind (fun (x15, V13) => (F_X5_pop  V13).bind (fun (x18, V16) => if x18 ≤ x15 then (if x18 < 0 then (sx_let (sv_I V16 69 14 (5 : Int32)) (fun V21 => some V21)) else ((V16.2.2 69 7).bind (fun b22 => if lay b22 = .inl 8 then if x15 < (V16.1 b22 9) then (sx_lp4 (B_X5_turnRange_40 N ) N l1 x15 x18 V16) else (sx_let (sv_I V16 69 14 (5 : Int32)) (fun V26 => some V26)) else none))) else (some V16)))
set_option maxRecDepth 20000 in
theorem t_X5_turnRange {g : sx_G} (hG : sx_Go g) {P : Option Value → sv_V → Prop} {Vr : sv_V} (hP : P none Vr) {N : Nat} {l1 : Int32} {V : sv_V} (h : F_X5_turnRange N l1 V = some Vr) : sv_N g qX5_turnRange 1 0 [(0, .ref 69), (1, .int l1)] [] V P := by
  unfold F_X5_turnRange at h
  refine sx_aload_n (pc := 0) dX5_turnRange_0 sx_m0 ?_
  obtain ⟨⟨x15, V13⟩, g14, h⟩ := sx_bnd h
  refine sv_cV (pc := 1) (y := qX5_pop) (o := (some (.int x15))) (as := []) (V1 := V13) hG dX5_turnRange_1 l_X5_242 y0X5_pop yvX5_pop rfl (Nat.le_of_ble_eq_true rfl) lay_69 kr_5 (by decide) (Nat.le_of_ble_eq_true rfl) rfl rfl rfl (t_X5_pop hG ⟨rfl, rfl⟩ g14) ?_
  refine sx_istore_n (pc := 4) (lo' := [(2, .int x15), (0, .ref 69), (1, .int l1)]) dX5_turnRange_4 (by decide) rfl ?_
  refine sx_aload_n (pc := 5) dX5_turnRange_5 sx_m1 ?_
  obtain ⟨⟨x18, V16⟩, g17, h⟩ := sx_bnd h
  refine sv_cV (pc := 6) (y := qX5_pop) (o := (some (.int x18))) (as := []) (V1 := V16) hG dX5_turnRange_6 l_X5_242 y0X5_pop yvX5_pop rfl (Nat.le_of_ble_eq_true rfl) lay_69 kr_5 (by decide) (Nat.le_of_ble_eq_true rfl) rfl rfl rfl (t_X5_pop hG ⟨rfl, rfl⟩ g17) ?_
  refine sx_istore_n (pc := 9) (lo' := [(3, .int x18), (2, .int x15), (0, .ref 69), (1, .int l1)]) dX5_turnRange_9 (by decide) rfl ?_
  refine sx_iload_n (pc := 10) dX5_turnRange_10 sx_m1 ?_
  refine sx_iload_n (pc := 11) dX5_turnRange_11 sx_m0 ?_
  refine sx_icmp_ge (pc := 12) (tgt := 16) dX5_turnRange_12 (by decide) (fun c19 => ?_) (fun c19 => ?_)
  · have h := sx_pos c19 h
    refine sx_iload_n (pc := 16) dX5_turnRange_16 sx_m0 ?_
    refine sx_if_lt (pc := 17) (tgt := 31) dX5_turnRange_17 (by decide) (fun c20 => ?_) (fun c20 => ?_)
    · have h := sx_pos c20 h
      refine sx_aload_n (pc := 31) dX5_turnRange_31 sx_m2 ?_
      refine sx_iconst (pc := 32) (v := 5) dX5_turnRange_32 (by decide) ?_
      obtain ⟨V21, hV21⟩ : ∃ z : sv_V, z = sv_I V16 69 14 (5 : Int32) := ⟨_, rfl⟩
      have h := sx_letE hV21 h
      refine sv_putI (pc := 33) hG dX5_turnRange_33 f_5_56 lay_69 rfl hV21 ?_
      exact sv_vret (pc := 36) dX5_turnRange_36 rfl h hP
    · have h := sx_neg c20 h
      refine sx_iload_n (pc := 20) dX5_turnRange_20 sx_m1 ?_
      refine sx_aload_n (pc := 21) dX5_turnRange_21 sx_m2 ?_
      obtain ⟨b22, g23, h⟩ := sx_bnd h
      refine sv_getV (pc := 22) hG dX5_turnRange_22 f_5_38 lay_69 rfl rfl g23 ?_
      obtain ⟨g24, h⟩ := sx_grd h
      refine sv_getI (pc := 25) hG dX5_turnRange_25 f_5_474 g24 rfl ?_
      refine sx_icmp_lt (pc := 28) (tgt := 37) dX5_turnRange_28 (by decide) (fun c25 => ?_) (fun c25 => ?_)
      · have h := sx_pos c25 h
        refine sx_iload_n (pc := 37) dX5_turnRange_37 sx_m0 ?_
        refine sx_istore (pc := 38) (lo' := [(4, .int x18), (3, .int x18), (2, .int x15), (0, .ref 69), (1, .int l1)]) dX5_turnRange_38 (by decide) rfl ?_
        refine sx_wk (sx_s1 sx_m3 (sx_s1 sx_m4 (sx_s1 sx_m2 (sx_s1 sx_m0 sx_s0)))) ?_
        exact tL_X5_turnRange_40 hG hP  N _ _ _ _ h
      · have h := sx_neg c25 h
        refine sx_aload_n (pc := 31) dX5_turnRange_31 sx_m2 ?_
        refine sx_iconst (pc := 32) (v := 5) dX5_turnRange_32 (by decide) ?_
        obtain ⟨V26, hV26⟩ : ∃ z : sv_V, z = sv_I V16 69 14 (5 : Int32) := ⟨_, rfl⟩
        have h := sx_letE hV26 h
        refine sv_putI (pc := 33) hG dX5_turnRange_33 f_5_56 lay_69 rfl hV26 ?_
        exact sv_vret (pc := 36) dX5_turnRange_36 rfl h hP
  · have h := sx_neg c19 h
    exact sv_vret (pc := 15) dX5_turnRange_15 rfl h hP
def ncX5_firstTouched : Nat := 85545212179444856802605132738870792268301760127877021294749037171821191841033168273815067
theorem kcX5_firstTouched : CK cX5_firstTouched ncX5_firstTouched 37 := ⟨by decide +kernel, by decide +kernel⟩
theorem dX5_firstTouched_0 : decode cX5_firstTouched 0 = .ok (.iload_n 1, 1) := dl_o27 kcX5_firstTouched (by decide +kernel)
theorem dX5_firstTouched_1 : decode cX5_firstTouched 1 = .ok (.istore 4, 2) := dl_o54 kcX5_firstTouched (by decide +kernel)
theorem dX5_firstTouched_3 : decode cX5_firstTouched 3 = .ok (.iload 4, 2) := dl_o21 kcX5_firstTouched (by decide +kernel)
theorem dX5_firstTouched_5 : decode cX5_firstTouched 5 = .ok (.iload_n 1, 1) := dl_o27 kcX5_firstTouched (by decide +kernel)
theorem dX5_firstTouched_6 : decode cX5_firstTouched 6 = .ok (.iload_n 2, 1) := dl_o28 kcX5_firstTouched (by decide +kernel)
theorem dX5_firstTouched_7 : decode cX5_firstTouched 7 = .ok (.iadd, 1) := dl_o96 kcX5_firstTouched (by decide +kernel)
theorem dX5_firstTouched_8 : decode cX5_firstTouched 8 = .ok (.if_icmp .ge 27, 3) := dl_o162 kcX5_firstTouched 27 (by decide +kernel) (by decide +kernel)
theorem dX5_firstTouched_11 : decode cX5_firstTouched 11 = .ok (.aload_n 0, 1) := dl_o42 kcX5_firstTouched (by decide +kernel)
theorem dX5_firstTouched_12 : decode cX5_firstTouched 12 = .ok (.getfield 38, 3) := dl_o180 kcX5_firstTouched (by decide +kernel)
theorem dX5_firstTouched_15 : decode cX5_firstTouched 15 = .ok (.getfield 220, 3) := dl_o180 kcX5_firstTouched (by decide +kernel)
theorem dX5_firstTouched_18 : decode cX5_firstTouched 18 = .ok (.iload 4, 2) := dl_o21 kcX5_firstTouched (by decide +kernel)
theorem dX5_firstTouched_20 : decode cX5_firstTouched 20 = .ok (.iaload, 1) := dl_o46 kcX5_firstTouched (by decide +kernel)
theorem dX5_firstTouched_21 : decode cX5_firstTouched 21 = .ok (.iload_n 3, 1) := dl_o29 kcX5_firstTouched (by decide +kernel)
theorem dX5_firstTouched_22 : decode cX5_firstTouched 22 = .ok (.iand, 1) := dl_o126 kcX5_firstTouched (by decide +kernel)
theorem dX5_firstTouched_23 : decode cX5_firstTouched 23 = .ok (.ifCond .eq 6, 3) := dl_o153 kcX5_firstTouched 6 (by decide +kernel) (by decide +kernel)
theorem dX5_firstTouched_26 : decode cX5_firstTouched 26 = .ok (.iload 4, 2) := dl_o21 kcX5_firstTouched (by decide +kernel)
theorem dX5_firstTouched_28 : decode cX5_firstTouched 28 = .ok (.ireturn, 1) := dl_o172 kcX5_firstTouched (by decide +kernel)
theorem dX5_firstTouched_29 : decode cX5_firstTouched 29 = .ok (.iinc 4 1, 3) := by decide +kernel
theorem dX5_firstTouched_32 : decode cX5_firstTouched 32 = .ok (.goto (-29), 3) := dl_o167 kcX5_firstTouched 65507 (by decide +kernel) (by decide +kernel)
theorem dX5_firstTouched_35 : decode cX5_firstTouched 35 = .ok (.iconst (-1), 1) := dl_o2 kcX5_firstTouched (by decide +kernel)
theorem dX5_firstTouched_36 : decode cX5_firstTouched 36 = .ok (.ireturn, 1) := dl_o172 kcX5_firstTouched (by decide +kernel)
def B_X5_firstTouched_3 (N : Nat) (k3 : Int32 → Int32 → Int32 → Int32 → sv_V → Option (Int32 × sv_V)) (l1 : Int32) (l2 : Int32) (l3 : Int32) (l4 : Int32) (V : sv_V) : Option (Int32 × sv_V) := if (l1 + l2) ≤ l4 then (some ((-1 : Int32), V)) else ((V.2.2 69 7).bind (fun b2 => if lay b2 = .inl 8 then (cr b2 4).bind (fun b5 => (sv_len 0 b5).bind (fun n7 => if sx_in l4 n7 = true then if ((V.1 b5 l4.toNatClampNeg) &&& l3) = 0 then (sx_let (l4 + 1) (fun x11 => k3 l1 l2 l3 x11 V)) else (some (l4, V)) else none)) else none))
set_option maxRecDepth 20000 in
theorem tB_X5_firstTouched_3 {g : sx_G} (hG : sx_Go g) {P : Option Value → sv_V → Prop} {r : Int32} {Vr : sv_V} (hP : P (some (.int r)) Vr) {N : Nat} {k3 : Int32 → Int32 → Int32 → Int32 → sv_V → Option (Int32 × sv_V)} (hk3 : ∀ (l1 : Int32) (l2 : Int32) (l3 : Int32) (l4 : Int32) (V : sv_V), k3 l1 l2 l3 l4 V = some (r, Vr) → sv_N g qX5_firstTouched 0 3 [(0, .ref 69), (1, .int l1), (2, .int l2), (3, .int l3), (4, .int l4)] [] V P) {l1 : Int32} {l2 : Int32} {l3 : Int32} {l4 : Int32} {V : sv_V} (h : B_X5_firstTouched_3 N k3 l1 l2 l3 l4 V = some (r, Vr)) : sv_N g qX5_firstTouched 0 3 [(0, .ref 69), (1, .int l1), (2, .int l2), (3, .int l3), (4, .int l4)] [] V P := by
  unfold B_X5_firstTouched_3 at h
  refine sx_iload (pc := 3) dX5_firstTouched_3 sx_m4 ?_
  refine sx_iload_n (pc := 5) dX5_firstTouched_5 sx_m1 ?_
  refine sx_iload_n (pc := 6) dX5_firstTouched_6 sx_m2 ?_
  refine sx_iadd (pc := 7) dX5_firstTouched_7 ?_
  refine sx_icmp_ge (pc := 8) (tgt := 35) dX5_firstTouched_8 (by decide) (fun c1 => ?_) (fun c1 => ?_)
  · have h := sx_pos c1 h
    refine sx_iconst (pc := 35) (v := (-1)) dX5_firstTouched_35 (by decide) ?_
    exact sv_iret (pc := 36) dX5_firstTouched_36 rfl h hP
  · have h := sx_neg c1 h
    refine sx_aload_n (pc := 11) dX5_firstTouched_11 sx_m0 ?_
    obtain ⟨b2, g3, h⟩ := sx_bnd h
    refine sv_getV (pc := 12) hG dX5_firstTouched_12 f_5_38 lay_69 rfl rfl g3 ?_
    obtain ⟨g4, h⟩ := sx_grd h
    obtain ⟨b5, g6, h⟩ := sx_bnd h
    refine sv_getA (pc := 15) hG dX5_firstTouched_15 f_5_220 g4 rfl g6 ?_
    refine sx_iload (pc := 18) dX5_firstTouched_18 sx_m4 ?_
    obtain ⟨n7, g8, h⟩ := sx_bnd h
    obtain ⟨g9, h⟩ := sx_grd h
    refine sv_iald (pc := 20) hG dX5_firstTouched_20 (sv_len_e g8) g9 ?_
    refine sx_iload_n (pc := 21) dX5_firstTouched_21 sx_m3 ?_
    refine sx_iand (pc := 22) dX5_firstTouched_22 ?_
    refine sx_if_eq (pc := 23) (tgt := 29) dX5_firstTouched_23 (by decide) (fun c10 => ?_) (fun c10 => ?_)
    · have h := sx_pos c10 h
      obtain ⟨x11, hx11⟩ : ∃ z : Int32, z = l4 + 1 := ⟨_, rfl⟩
      have h := sx_letE hx11 h
      refine sx_iinc (pc := 29) (v := x11) (lo' := [(4, .int x11), (0, .ref 69), (1, .int l1), (2, .int l2), (3, .int l3)]) dX5_firstTouched_29 sx_m4 (by rw [hx11]; rfl) (by decide) rfl ?_
      refine sx_goto (pc := 32) (tgt := 3) dX5_firstTouched_32 (by decide) ?_
      refine sx_wk (sx_s1 sx_m1 (sx_s1 sx_m2 (sx_s1 sx_m3 (sx_s1 sx_m4 (sx_s1 sx_m0 sx_s0))))) ?_
      exact hk3 _ _ _ _ _ h
    · have h := sx_neg c10 h
      refine sx_iload (pc := 26) dX5_firstTouched_26 sx_m4 ?_
      exact sv_iret (pc := 28) dX5_firstTouched_28 rfl h hP
theorem tL_X5_firstTouched_3 {g : sx_G} (hG : sx_Go g) {P : Option Value → sv_V → Prop} {r : Int32} {Vr : sv_V} (hP : P (some (.int r)) Vr) {N : Nat}   : ∀ (n : Nat) (l1 : Int32) (l2 : Int32) (l3 : Int32) (l4 : Int32) (V : sv_V), sx_lp5 (B_X5_firstTouched_3 N ) n l1 l2 l3 l4 V = some (r, Vr) → sv_N g qX5_firstTouched 0 3 [(0, .ref 69), (1, .int l1), (2, .int l2), (3, .int l3), (4, .int l4)] [] V P :=
  sx_lp5_ind (fun k0 ih _ _ _ _ V h => tB_X5_firstTouched_3 hG hP ih h)
def F_X5_firstTouched (N : Nat) (l1 : Int32) (l2 : Int32) (l3 : Int32) (V : sv_V) : Option (Int32 × sv_V) := sx_lp5 (B_X5_firstTouched_3 N ) N l1 l2 l3 l1 V
set_option maxRecDepth 20000 in
theorem t_X5_firstTouched {g : sx_G} (hG : sx_Go g) {P : Option Value → sv_V → Prop} {r : Int32} {Vr : sv_V} (hP : P (some (.int r)) Vr) {N : Nat} {l1 : Int32} {l2 : Int32} {l3 : Int32} {V : sv_V} (h : F_X5_firstTouched N l1 l2 l3 V = some (r, Vr)) : sv_N g qX5_firstTouched 0 0 [(0, .ref 69), (1, .int l1), (2, .int l2), (3, .int l3)] [] V P := by
  unfold F_X5_firstTouched at h
  refine sx_iload_n (pc := 0) dX5_firstTouched_0 sx_m1 ?_
  refine sx_istore (pc := 1) (lo' := [(4, .int l1), (0, .ref 69), (1, .int l1), (2, .int l2), (3, .int l3)]) dX5_firstTouched_1 (by decide) rfl ?_
  refine sx_wk (sx_s1 sx_m1 (sx_s1 sx_m2 (sx_s1 sx_m3 (sx_s1 sx_m4 (sx_s1 sx_m0 sx_s0))))) ?_
  exact tL_X5_firstTouched_3 hG hP  N _ _ _ _ _ h
def ncX5_turnPoints : Nat := 228123373653258469270468272294186708950898186450481551341872869722823056110594993850200256844374514813601048548794700120521416726820877395256789533894732431332151493553520401680997133002586710332815672625282051
theorem kcX5_turnPoints : CK cX5_turnPoints ncX5_turnPoints 87 := ⟨by decide +kernel, by decide +kernel⟩
theorem dX5_turnPoints_0 : decode cX5_turnPoints 0 = .ok (.iconst 0, 1) := dl_o3 kcX5_turnPoints (by decide +kernel)
theorem dX5_turnPoints_1 : decode cX5_turnPoints 1 = .ok (.istore_n 1, 1) := dl_o60 kcX5_turnPoints (by decide +kernel)
theorem dX5_turnPoints_2 : decode cX5_turnPoints 2 = .ok (.iload_n 1, 1) := dl_o27 kcX5_turnPoints (by decide +kernel)
theorem dX5_turnPoints_3 : decode cX5_turnPoints 3 = .ok (.aload_n 0, 1) := dl_o42 kcX5_turnPoints (by decide +kernel)
theorem dX5_turnPoints_4 : decode cX5_turnPoints 4 = .ok (.getfield 12, 3) := dl_o180 kcX5_turnPoints (by decide +kernel)
theorem dX5_turnPoints_7 : decode cX5_turnPoints 7 = .ok (.getfield 163, 3) := dl_o180 kcX5_turnPoints (by decide +kernel)
theorem dX5_turnPoints_10 : decode cX5_turnPoints 10 = .ok (.if_icmp .ge 68, 3) := dl_o162 kcX5_turnPoints 68 (by decide +kernel) (by decide +kernel)
theorem dX5_turnPoints_13 : decode cX5_turnPoints 13 = .ok (.aload_n 0, 1) := dl_o42 kcX5_turnPoints (by decide +kernel)
theorem dX5_turnPoints_14 : decode cX5_turnPoints 14 = .ok (.invokevirtual 242, 3) := dl_o182 kcX5_turnPoints (by decide +kernel)
theorem dX5_turnPoints_17 : decode cX5_turnPoints 17 = .ok (.istore_n 2, 1) := dl_o61 kcX5_turnPoints (by decide +kernel)
theorem dX5_turnPoints_18 : decode cX5_turnPoints 18 = .ok (.aload_n 0, 1) := dl_o42 kcX5_turnPoints (by decide +kernel)
theorem dX5_turnPoints_19 : decode cX5_turnPoints 19 = .ok (.getfield 12, 3) := dl_o180 kcX5_turnPoints (by decide +kernel)
theorem dX5_turnPoints_22 : decode cX5_turnPoints 22 = .ok (.getfield 172, 3) := dl_o180 kcX5_turnPoints (by decide +kernel)
theorem dX5_turnPoints_25 : decode cX5_turnPoints 25 = .ok (.iconst 0, 1) := dl_o3 kcX5_turnPoints (by decide +kernel)
theorem dX5_turnPoints_26 : decode cX5_turnPoints 26 = .ok (.iaload, 1) := dl_o46 kcX5_turnPoints (by decide +kernel)
theorem dX5_turnPoints_27 : decode cX5_turnPoints 27 = .ok (.iconst 1, 1) := dl_o4 kcX5_turnPoints (by decide +kernel)
theorem dX5_turnPoints_28 : decode cX5_turnPoints 28 = .ok (.if_icmp .ne 18, 3) := dl_o160 kcX5_turnPoints 18 (by decide +kernel) (by decide +kernel)
theorem dX5_turnPoints_31 : decode cX5_turnPoints 31 = .ok (.iload_n 2, 1) := dl_o28 kcX5_turnPoints (by decide +kernel)
theorem dX5_turnPoints_32 : decode cX5_turnPoints 32 = .ok (.ifCond .lt 14, 3) := dl_o155 kcX5_turnPoints 14 (by decide +kernel) (by decide +kernel)
theorem dX5_turnPoints_35 : decode cX5_turnPoints 35 = .ok (.iload_n 2, 1) := dl_o28 kcX5_turnPoints (by decide +kernel)
theorem dX5_turnPoints_36 : decode cX5_turnPoints 36 = .ok (.aload_n 0, 1) := dl_o42 kcX5_turnPoints (by decide +kernel)
theorem dX5_turnPoints_37 : decode cX5_turnPoints 37 = .ok (.getfield 38, 3) := dl_o180 kcX5_turnPoints (by decide +kernel)
theorem dX5_turnPoints_40 : decode cX5_turnPoints 40 = .ok (.getfield 474, 3) := dl_o180 kcX5_turnPoints (by decide +kernel)
theorem dX5_turnPoints_43 : decode cX5_turnPoints 43 = .ok (.if_icmp .lt 9, 3) := dl_o161 kcX5_turnPoints 9 (by decide +kernel) (by decide +kernel)
theorem dX5_turnPoints_46 : decode cX5_turnPoints 46 = .ok (.aload_n 0, 1) := dl_o42 kcX5_turnPoints (by decide +kernel)
theorem dX5_turnPoints_47 : decode cX5_turnPoints 47 = .ok (.iconst 5, 1) := dl_o8 kcX5_turnPoints (by decide +kernel)
theorem dX5_turnPoints_48 : decode cX5_turnPoints 48 = .ok (.putfield 56, 3) := dl_o181 kcX5_turnPoints (by decide +kernel)
theorem dX5_turnPoints_51 : decode cX5_turnPoints 51 = .ok (.return_, 1) := dl_o177 kcX5_turnPoints (by decide +kernel)
theorem dX5_turnPoints_52 : decode cX5_turnPoints 52 = .ok (.aload_n 0, 1) := dl_o42 kcX5_turnPoints (by decide +kernel)
theorem dX5_turnPoints_53 : decode cX5_turnPoints 53 = .ok (.getfield 38, 3) := dl_o180 kcX5_turnPoints (by decide +kernel)
theorem dX5_turnPoints_56 : decode cX5_turnPoints 56 = .ok (.getfield 477, 3) := dl_o180 kcX5_turnPoints (by decide +kernel)
theorem dX5_turnPoints_59 : decode cX5_turnPoints 59 = .ok (.iload_n 2, 1) := dl_o28 kcX5_turnPoints (by decide +kernel)
theorem dX5_turnPoints_60 : decode cX5_turnPoints 60 = .ok (.iconst 1, 1) := dl_o4 kcX5_turnPoints (by decide +kernel)
theorem dX5_turnPoints_61 : decode cX5_turnPoints 61 = .ok (.aload_n 0, 1) := dl_o42 kcX5_turnPoints (by decide +kernel)
theorem dX5_turnPoints_62 : decode cX5_turnPoints 62 = .ok (.getfield 38, 3) := dl_o180 kcX5_turnPoints (by decide +kernel)
theorem dX5_turnPoints_65 : decode cX5_turnPoints 65 = .ok (.getfield 477, 3) := dl_o180 kcX5_turnPoints (by decide +kernel)
theorem dX5_turnPoints_68 : decode cX5_turnPoints 68 = .ok (.iload_n 2, 1) := dl_o28 kcX5_turnPoints (by decide +kernel)
theorem dX5_turnPoints_69 : decode cX5_turnPoints 69 = .ok (.iaload, 1) := dl_o46 kcX5_turnPoints (by decide +kernel)
theorem dX5_turnPoints_70 : decode cX5_turnPoints 70 = .ok (.isub, 1) := dl_o100 kcX5_turnPoints (by decide +kernel)
theorem dX5_turnPoints_71 : decode cX5_turnPoints 71 = .ok (.iastore, 1) := dl_o79 kcX5_turnPoints (by decide +kernel)
theorem dX5_turnPoints_72 : decode cX5_turnPoints 72 = .ok (.iinc 1 1, 3) := by decide +kernel
theorem dX5_turnPoints_75 : decode cX5_turnPoints 75 = .ok (.goto (-73), 3) := dl_o167 kcX5_turnPoints 65463 (by decide +kernel) (by decide +kernel)
theorem dX5_turnPoints_78 : decode cX5_turnPoints 78 = .ok (.aload_n 0, 1) := dl_o42 kcX5_turnPoints (by decide +kernel)
theorem dX5_turnPoints_79 : decode cX5_turnPoints 79 = .ok (.getfield 12, 3) := dl_o180 kcX5_turnPoints (by decide +kernel)
theorem dX5_turnPoints_82 : decode cX5_turnPoints 82 = .ok (.iconst 1, 1) := dl_o4 kcX5_turnPoints (by decide +kernel)
theorem dX5_turnPoints_83 : decode cX5_turnPoints 83 = .ok (.putfield 163, 3) := dl_o181 kcX5_turnPoints (by decide +kernel)
theorem dX5_turnPoints_86 : decode cX5_turnPoints 86 = .ok (.return_, 1) := dl_o177 kcX5_turnPoints (by decide +kernel)
def B_X5_turnPoints_2 (N : Nat) (k2 : Int32 → sv_V → Option sv_V) (l1 : Int32) (V : sv_V) : Option sv_V := if (V.1 70 8) ≤ l1 then (sx_let (sv_I V 70 8 (1 : Int32)) (fun V2 => some V2)) else ((F_X5_pop  V).bind (fun (x5, V3) => if (V3.1 72 (0 : Int32).toNatClampNeg) = (1 : Int32) then (if x5 < 0 then (sx_let (sv_I V3 69 14 (5 : Int32)) (fun V9 => some V9)) else ((V3.2.2 69 7).bind (fun b10 => if lay b10 = .inl 8 then if x5 < (V3.1 b10 9) then ((V3.2.2 69 7).bind (fun b14 => if lay b14 = .inl 8 then (cr b14 5).bind (fun b17 => (V3.2.2 69 7).bind (fun b19 => if lay b19 = .inl 8 then (cr b19 5).bind (fun b22 => (sv_len 0 b22).bind (fun n24 => if sx_in x5 n24 = true then (sv_len 0 b17).bind (fun n27 => if sx_in x5 n27 = true then sx_let (sv_I V3 b17 x5.toNatClampNeg ((1 : Int32) - (V3.1 b22 x5.toNatClampNeg))) (fun V30 => sx_let (l1 + 1) (fun x31 => k2 x31 V30)) else none) else none)) else none)) else none)) else (sx_let (sv_I V3 69 14 (5 : Int32)) (fun V32 => some V32)) else none))) else (sx_let (sv_I V3 69 14 (5 : Int32)) (fun V7 => some V7))))
set_option maxRecDepth 20000 in
theorem tB_X5_turnPoints_2 {g : sx_G} (hG : sx_Go g) {P : Option Value → sv_V → Prop} {Vr : sv_V} (hP : P none Vr) {N : Nat} {k2 : Int32 → sv_V → Option sv_V} (hk2 : ∀ (l1 : Int32) (V : sv_V), k2 l1 V = some Vr → sv_N g qX5_turnPoints 1 2 [(0, .ref 69), (1, .int l1)] [] V P) {l1 : Int32} {V : sv_V} (h : B_X5_turnPoints_2 N k2 l1 V = some Vr) : sv_N g qX5_turnPoints 1 2 [(0, .ref 69), (1, .int l1)] [] V P := by
  unfold B_X5_turnPoints_2 at h
  refine sx_iload_n (pc := 2) dX5_turnPoints_2 sx_m1 ?_
  refine sx_aload_n (pc := 3) dX5_turnPoints_3 sx_m0 ?_
  refine sv_getO (pc := 4) hG dX5_turnPoints_4 f_5_12 lay_69 rfl cr_69_1 ?_
  refine sv_getI (pc := 7) hG dX5_turnPoints_7 f_5_163 lay_70 rfl ?_
  refine sx_icmp_ge (pc := 10) (tgt := 78) dX5_turnPoints_10 (by decide) (fun c1 => ?_) (fun c1 => ?_)
  · have h := sx_pos c1 h
    refine sx_aload_n (pc := 78) dX5_turnPoints_78 sx_m0 ?_
    refine sv_getO (pc := 79) hG dX5_turnPoints_79 f_5_12 lay_69 rfl cr_69_1 ?_
    refine sx_iconst (pc := 82) (v := 1) dX5_turnPoints_82 (by decide) ?_
    obtain ⟨V2, hV2⟩ : ∃ z : sv_V, z = sv_I V 70 8 (1 : Int32) := ⟨_, rfl⟩
    have h := sx_letE hV2 h
    refine sv_putI (pc := 83) hG dX5_turnPoints_83 f_5_163 lay_70 rfl hV2 ?_
    exact sv_vret (pc := 86) dX5_turnPoints_86 rfl h hP
  · have h := sx_neg c1 h
    refine sx_aload_n (pc := 13) dX5_turnPoints_13 sx_m0 ?_
    obtain ⟨⟨x5, V3⟩, g4, h⟩ := sx_bnd h
    refine sv_cV (pc := 14) (y := qX5_pop) (o := (some (.int x5))) (as := []) (V1 := V3) hG dX5_turnPoints_14 l_X5_242 y0X5_pop yvX5_pop rfl (Nat.le_of_ble_eq_true rfl) lay_69 kr_5 (by decide) (Nat.le_of_ble_eq_true rfl) rfl rfl rfl (t_X5_pop hG ⟨rfl, rfl⟩ g4) ?_
    refine sx_istore_n (pc := 17) (lo' := [(2, .int x5), (0, .ref 69), (1, .int l1)]) dX5_turnPoints_17 (by decide) rfl ?_
    refine sx_aload_n (pc := 18) dX5_turnPoints_18 sx_m1 ?_
    refine sv_getO (pc := 19) hG dX5_turnPoints_19 f_5_12 lay_69 rfl cr_69_1 ?_
    refine sv_getA (pc := 22) hG dX5_turnPoints_22 f_5_172 lay_70 rfl cr_70_7 ?_
    refine sx_iconst (pc := 25) (v := 0) dX5_turnPoints_25 (by decide) ?_
    refine sv_iald (pc := 26) hG dX5_turnPoints_26 lay_72 (by decide) ?_
    refine sx_iconst (pc := 27) (v := 1) dX5_turnPoints_27 (by decide) ?_
    refine sx_icmp_ne (pc := 28) (tgt := 46) dX5_turnPoints_28 (by decide) (fun c6 => ?_) (fun c6 => ?_)
    · have h := sx_neg c6 h
      refine sx_aload_n (pc := 46) dX5_turnPoints_46 sx_m1 ?_
      refine sx_iconst (pc := 47) (v := 5) dX5_turnPoints_47 (by decide) ?_
      obtain ⟨V7, hV7⟩ : ∃ z : sv_V, z = sv_I V3 69 14 (5 : Int32) := ⟨_, rfl⟩
      have h := sx_letE hV7 h
      refine sv_putI (pc := 48) hG dX5_turnPoints_48 f_5_56 lay_69 rfl hV7 ?_
      exact sv_vret (pc := 51) dX5_turnPoints_51 rfl h hP
    · have h := sx_pos c6 h
      refine sx_iload_n (pc := 31) dX5_turnPoints_31 sx_m0 ?_
      refine sx_if_lt (pc := 32) (tgt := 46) dX5_turnPoints_32 (by decide) (fun c8 => ?_) (fun c8 => ?_)
      · have h := sx_pos c8 h
        refine sx_aload_n (pc := 46) dX5_turnPoints_46 sx_m1 ?_
        refine sx_iconst (pc := 47) (v := 5) dX5_turnPoints_47 (by decide) ?_
        obtain ⟨V9, hV9⟩ : ∃ z : sv_V, z = sv_I V3 69 14 (5 : Int32) := ⟨_, rfl⟩
        have h := sx_letE hV9 h
        refine sv_putI (pc := 48) hG dX5_turnPoints_48 f_5_56 lay_69 rfl hV9 ?_
        exact sv_vret (pc := 51) dX5_turnPoints_51 rfl h hP
      · have h := sx_neg c8 h
        refine sx_iload_n (pc := 35) dX5_turnPoints_35 sx_m0 ?_
        refine sx_aload_n (pc := 36) dX5_turnPoints_36 sx_m1 ?_
        obtain ⟨b10, g11, h⟩ := sx_bnd h
        refine sv_getV (pc := 37) hG dX5_turnPoints_37 f_5_38 lay_69 rfl rfl g11 ?_
        obtain ⟨g12, h⟩ := sx_grd h
        refine sv_getI (pc := 40) hG dX5_turnPoints_40 f_5_474 g12 rfl ?_
        refine sx_icmp_lt (pc := 43) (tgt := 52) dX5_turnPoints_43 (by decide) (fun c13 => ?_) (fun c13 => ?_)
        · have h := sx_pos c13 h
          refine sx_aload_n (pc := 52) dX5_turnPoints_52 sx_m1 ?_
          obtain ⟨b14, g15, h⟩ := sx_bnd h
          refine sv_getV (pc := 53) hG dX5_turnPoints_53 f_5_38 lay_69 rfl rfl g15 ?_
          obtain ⟨g16, h⟩ := sx_grd h
          obtain ⟨b17, g18, h⟩ := sx_bnd h
          refine sv_getA (pc := 56) hG dX5_turnPoints_56 f_5_477 g16 rfl g18 ?_
          refine sx_iload_n (pc := 59) dX5_turnPoints_59 sx_m0 ?_
          refine sx_iconst (pc := 60) (v := 1) dX5_turnPoints_60 (by decide) ?_
          refine sx_aload_n (pc := 61) dX5_turnPoints_61 sx_m1 ?_
          obtain ⟨b19, g20, h⟩ := sx_bnd h
          refine sv_getV (pc := 62) hG dX5_turnPoints_62 f_5_38 lay_69 rfl rfl g20 ?_
          obtain ⟨g21, h⟩ := sx_grd h
          obtain ⟨b22, g23, h⟩ := sx_bnd h
          refine sv_getA (pc := 65) hG dX5_turnPoints_65 f_5_477 g21 rfl g23 ?_
          refine sx_iload_n (pc := 68) dX5_turnPoints_68 sx_m0 ?_
          obtain ⟨n24, g25, h⟩ := sx_bnd h
          obtain ⟨g26, h⟩ := sx_grd h
          refine sv_iald (pc := 69) hG dX5_turnPoints_69 (sv_len_e g25) g26 ?_
          refine sx_isub (pc := 70) dX5_turnPoints_70 ?_
          obtain ⟨n27, g28, h⟩ := sx_bnd h
          obtain ⟨g29, h⟩ := sx_grd h
          obtain ⟨V30, hV30⟩ : ∃ z : sv_V, z = sv_I V3 b17 x5.toNatClampNeg ((1 : Int32) - (V3.1 b22 x5.toNatClampNeg)) := ⟨_, rfl⟩
          have h := sx_letE hV30 h
          refine sv_iast (pc := 71) hG dX5_turnPoints_71 (sv_len_e g28) g29 hV30 ?_
          obtain ⟨x31, hx31⟩ : ∃ z : Int32, z = l1 + 1 := ⟨_, rfl⟩
          have h := sx_letE hx31 h
          refine sx_iinc (pc := 72) (v := x31) (lo' := [(1, .int x31), (2, .int x5), (0, .ref 69)]) dX5_turnPoints_72 sx_m2 (by rw [hx31]; rfl) (by decide) rfl ?_
          refine sx_goto (pc := 75) (tgt := 2) dX5_turnPoints_75 (by decide) ?_
          refine sx_wk (sx_s1 sx_m2 (sx_s1 sx_m0 sx_s0)) ?_
          exact hk2 _ _ h
        · have h := sx_neg c13 h
          refine sx_aload_n (pc := 46) dX5_turnPoints_46 sx_m1 ?_
          refine sx_iconst (pc := 47) (v := 5) dX5_turnPoints_47 (by decide) ?_
          obtain ⟨V32, hV32⟩ : ∃ z : sv_V, z = sv_I V3 69 14 (5 : Int32) := ⟨_, rfl⟩
          have h := sx_letE hV32 h
          refine sv_putI (pc := 48) hG dX5_turnPoints_48 f_5_56 lay_69 rfl hV32 ?_
          exact sv_vret (pc := 51) dX5_turnPoints_51 rfl h hP
theorem tL_X5_turnPoints_2 {g : sx_G} (hG : sx_Go g) {P : Option Value → sv_V → Prop} {Vr : sv_V} (hP : P none Vr) {N : Nat}   : ∀ (n : Nat) (l1 : Int32) (V : sv_V), sx_lp2 (B_X5_turnPoints_2 N ) n l1 V = some Vr → sv_N g qX5_turnPoints 1 2 [(0, .ref 69), (1, .int l1)] [] V P :=
  sx_lp2_ind (fun k0 ih _ V h => tB_X5_turnPoints_2 hG hP ih h)
def F_X5_turnPoints (N : Nat)  (V : sv_V) : Option sv_V := sx_lp2 (B_X5_turnPoints_2 N ) N (0 : Int32) V
set_option maxRecDepth 20000 in
theorem t_X5_turnPoints {g : sx_G} (hG : sx_Go g) {P : Option Value → sv_V → Prop} {Vr : sv_V} (hP : P none Vr) {N : Nat}  {V : sv_V} (h : F_X5_turnPoints N  V = some Vr) : sv_N g qX5_turnPoints 1 0 [(0, .ref 69)] [] V P := by
  unfold F_X5_turnPoints at h
  refine sx_iconst (pc := 0) (v := 0) dX5_turnPoints_0 (by decide) ?_
  refine sx_istore_n (pc := 1) (lo' := [(1, .int (0 : Int32)), (0, .ref 69)]) dX5_turnPoints_1 (by decide) rfl ?_
  refine sx_wk (sx_s1 sx_m1 (sx_s1 sx_m0 sx_s0)) ?_
  exact tL_X5_turnPoints_2 hG hP  N _ _ h
def ncX5_noteReferences : Nat := 24820432109456967299622577553957978392286288360045187452657787780784223100793929314306585497689865106474
theorem kcX5_noteReferences : CK cX5_noteReferences ncX5_noteReferences 43 := ⟨by decide +kernel, by decide +kernel⟩
theorem dX5_noteReferences_0 : decode cX5_noteReferences 0 = .ok (.aload_n 0, 1) := dl_o42 kcX5_noteReferences (by decide +kernel)
theorem dX5_noteReferences_1 : decode cX5_noteReferences 1 = .ok (.getfield 12, 3) := dl_o180 kcX5_noteReferences (by decide +kernel)
theorem dX5_noteReferences_4 : decode cX5_noteReferences 4 = .ok (.getfield 275, 3) := dl_o180 kcX5_noteReferences (by decide +kernel)
theorem dX5_noteReferences_7 : decode cX5_noteReferences 7 = .ok (.iconst 1, 1) := dl_o4 kcX5_noteReferences (by decide +kernel)
theorem dX5_noteReferences_8 : decode cX5_noteReferences 8 = .ok (.aload_n 0, 1) := dl_o42 kcX5_noteReferences (by decide +kernel)
theorem dX5_noteReferences_9 : decode cX5_noteReferences 9 = .ok (.getfield 12, 3) := dl_o180 kcX5_noteReferences (by decide +kernel)
theorem dX5_noteReferences_12 : decode cX5_noteReferences 12 = .ok (.getfield 275, 3) := dl_o180 kcX5_noteReferences (by decide +kernel)
theorem dX5_noteReferences_15 : decode cX5_noteReferences 15 = .ok (.iconst 0, 1) := dl_o3 kcX5_noteReferences (by decide +kernel)
theorem dX5_noteReferences_16 : decode cX5_noteReferences 16 = .ok (.iaload, 1) := dl_o46 kcX5_noteReferences (by decide +kernel)
theorem dX5_noteReferences_17 : decode cX5_noteReferences 17 = .ok (.iastore, 1) := dl_o79 kcX5_noteReferences (by decide +kernel)
theorem dX5_noteReferences_18 : decode cX5_noteReferences 18 = .ok (.aload_n 0, 1) := dl_o42 kcX5_noteReferences (by decide +kernel)
theorem dX5_noteReferences_19 : decode cX5_noteReferences 19 = .ok (.getfield 12, 3) := dl_o180 kcX5_noteReferences (by decide +kernel)
theorem dX5_noteReferences_22 : decode cX5_noteReferences 22 = .ok (.getfield 275, 3) := dl_o180 kcX5_noteReferences (by decide +kernel)
theorem dX5_noteReferences_25 : decode cX5_noteReferences 25 = .ok (.iconst 2, 1) := dl_o5 kcX5_noteReferences (by decide +kernel)
theorem dX5_noteReferences_26 : decode cX5_noteReferences 26 = .ok (.iload_n 1, 1) := dl_o27 kcX5_noteReferences (by decide +kernel)
theorem dX5_noteReferences_27 : decode cX5_noteReferences 27 = .ok (.iastore, 1) := dl_o79 kcX5_noteReferences (by decide +kernel)
theorem dX5_noteReferences_28 : decode cX5_noteReferences 28 = .ok (.iload_n 2, 1) := dl_o28 kcX5_noteReferences (by decide +kernel)
theorem dX5_noteReferences_29 : decode cX5_noteReferences 29 = .ok (.ifCond .eq 13, 3) := dl_o153 kcX5_noteReferences 13 (by decide +kernel) (by decide +kernel)
theorem dX5_noteReferences_32 : decode cX5_noteReferences 32 = .ok (.aload_n 0, 1) := dl_o42 kcX5_noteReferences (by decide +kernel)
theorem dX5_noteReferences_33 : decode cX5_noteReferences 33 = .ok (.getfield 12, 3) := dl_o180 kcX5_noteReferences (by decide +kernel)
theorem dX5_noteReferences_36 : decode cX5_noteReferences 36 = .ok (.getfield 275, 3) := dl_o180 kcX5_noteReferences (by decide +kernel)
theorem dX5_noteReferences_39 : decode cX5_noteReferences 39 = .ok (.iconst 0, 1) := dl_o3 kcX5_noteReferences (by decide +kernel)
theorem dX5_noteReferences_40 : decode cX5_noteReferences 40 = .ok (.iload_n 1, 1) := dl_o27 kcX5_noteReferences (by decide +kernel)
theorem dX5_noteReferences_41 : decode cX5_noteReferences 41 = .ok (.iastore, 1) := dl_o79 kcX5_noteReferences (by decide +kernel)
theorem dX5_noteReferences_42 : decode cX5_noteReferences 42 = .ok (.return_, 1) := dl_o177 kcX5_noteReferences (by decide +kernel)
def F_X5_noteReferences (l1 : Int32) (l2 : Int32) (V : sv_V) : Option sv_V := sx_let (sv_I V 71 (1 : Int32).toNatClampNeg (V.1 71 (0 : Int32).toNatClampNeg)) (fun V1 => sx_let (sv_I V1 71 (2 : Int32).toNatClampNeg l1) (fun V2 => if l2 = 0 then (some V2) else (sx_let (sv_I V2 71 (0 : Int32).toNatClampNeg l1) (fun V4 => some V4))))
set_option maxRecDepth 20000 in
theorem t_X5_noteReferences {g : sx_G} (hG : sx_Go g) {P : Option Value → sv_V → Prop} {Vr : sv_V} (hP : P none Vr) {l1 : Int32} {l2 : Int32} {V : sv_V} (h : F_X5_noteReferences l1 l2 V = some Vr) : sv_N g qX5_noteReferences 0 0 [(0, .ref 69), (1, .int l1), (2, .int l2)] [] V P := by
  unfold F_X5_noteReferences at h
  refine sx_aload_n (pc := 0) dX5_noteReferences_0 sx_m0 ?_
  refine sv_getO (pc := 1) hG dX5_noteReferences_1 f_5_12 lay_69 rfl cr_69_1 ?_
  refine sv_getA (pc := 4) hG dX5_noteReferences_4 f_5_275 lay_70 rfl cr_70_6 ?_
  refine sx_iconst (pc := 7) (v := 1) dX5_noteReferences_7 (by decide) ?_
  refine sx_aload_n (pc := 8) dX5_noteReferences_8 sx_m0 ?_
  refine sv_getO (pc := 9) hG dX5_noteReferences_9 f_5_12 lay_69 rfl cr_69_1 ?_
  refine sv_getA (pc := 12) hG dX5_noteReferences_12 f_5_275 lay_70 rfl cr_70_6 ?_
  refine sx_iconst (pc := 15) (v := 0) dX5_noteReferences_15 (by decide) ?_
  refine sv_iald (pc := 16) hG dX5_noteReferences_16 lay_71 (by decide) ?_
  obtain ⟨V1, hV1⟩ : ∃ z : sv_V, z = sv_I V 71 (1 : Int32).toNatClampNeg (V.1 71 (0 : Int32).toNatClampNeg) := ⟨_, rfl⟩
  have h := sx_letE hV1 h
  refine sv_iast (pc := 17) hG dX5_noteReferences_17 lay_71 (by decide) hV1 ?_
  refine sx_aload_n (pc := 18) dX5_noteReferences_18 sx_m0 ?_
  refine sv_getO (pc := 19) hG dX5_noteReferences_19 f_5_12 lay_69 rfl cr_69_1 ?_
  refine sv_getA (pc := 22) hG dX5_noteReferences_22 f_5_275 lay_70 rfl cr_70_6 ?_
  refine sx_iconst (pc := 25) (v := 2) dX5_noteReferences_25 (by decide) ?_
  refine sx_iload_n (pc := 26) dX5_noteReferences_26 sx_m1 ?_
  obtain ⟨V2, hV2⟩ : ∃ z : sv_V, z = sv_I V1 71 (2 : Int32).toNatClampNeg l1 := ⟨_, rfl⟩
  have h := sx_letE hV2 h
  refine sv_iast (pc := 27) hG dX5_noteReferences_27 lay_71 (by decide) hV2 ?_
  refine sx_iload_n (pc := 28) dX5_noteReferences_28 sx_m2 ?_
  refine sx_if_eq (pc := 29) (tgt := 42) dX5_noteReferences_29 (by decide) (fun c3 => ?_) (fun c3 => ?_)
  · have h := sx_pos c3 h
    exact sv_vret (pc := 42) dX5_noteReferences_42 rfl h hP
  · have h := sx_neg c3 h
    refine sx_aload_n (pc := 32) dX5_noteReferences_32 sx_m0 ?_
    refine sv_getO (pc := 33) hG dX5_noteReferences_33 f_5_12 lay_69 rfl cr_69_1 ?_
    refine sv_getA (pc := 36) hG dX5_noteReferences_36 f_5_275 lay_70 rfl cr_70_6 ?_
    refine sx_iconst (pc := 39) (v := 0) dX5_noteReferences_39 (by decide) ?_
    refine sx_iload_n (pc := 40) dX5_noteReferences_40 sx_m1 ?_
    obtain ⟨V4, hV4⟩ : ∃ z : sv_V, z = sv_I V2 71 (0 : Int32).toNatClampNeg l1 := ⟨_, rfl⟩
    have h := sx_letE hV4 h
    refine sv_iast (pc := 41) hG dX5_noteReferences_41 lay_71 (by decide) hV4 ?_
    exact sv_vret (pc := 42) dX5_noteReferences_42 rfl h hP
def ncX6_forgetAll : Nat := 3952633102474486887999012485577760524595430186
theorem kcX6_forgetAll : CK cX6_forgetAll ncX6_forgetAll 19 := ⟨by decide +kernel, by decide +kernel⟩
theorem dX6_forgetAll_0 : decode cX6_forgetAll 0 = .ok (.aload_n 0, 1) := dl_o42 kcX6_forgetAll (by decide +kernel)
theorem dX6_forgetAll_1 : decode cX6_forgetAll 1 = .ok (.iconst 0, 1) := dl_o3 kcX6_forgetAll (by decide +kernel)
theorem dX6_forgetAll_2 : decode cX6_forgetAll 2 = .ok (.putfield 54, 3) := dl_o181 kcX6_forgetAll (by decide +kernel)
theorem dX6_forgetAll_5 : decode cX6_forgetAll 5 = .ok (.aload_n 0, 1) := dl_o42 kcX6_forgetAll (by decide +kernel)
theorem dX6_forgetAll_6 : decode cX6_forgetAll 6 = .ok (.iconst 0, 1) := dl_o3 kcX6_forgetAll (by decide +kernel)
theorem dX6_forgetAll_7 : decode cX6_forgetAll 7 = .ok (.putfield 58, 3) := dl_o181 kcX6_forgetAll (by decide +kernel)
theorem dX6_forgetAll_10 : decode cX6_forgetAll 10 = .ok (.aload_n 0, 1) := dl_o42 kcX6_forgetAll (by decide +kernel)
theorem dX6_forgetAll_11 : decode cX6_forgetAll 11 = .ok (.getfield 47, 3) := dl_o180 kcX6_forgetAll (by decide +kernel)
theorem dX6_forgetAll_14 : decode cX6_forgetAll 14 = .ok (.iconst 0, 1) := dl_o3 kcX6_forgetAll (by decide +kernel)
theorem dX6_forgetAll_15 : decode cX6_forgetAll 15 = .ok (.putfield 62, 3) := dl_o181 kcX6_forgetAll (by decide +kernel)
theorem dX6_forgetAll_18 : decode cX6_forgetAll 18 = .ok (.return_, 1) := dl_o177 kcX6_forgetAll (by decide +kernel)
def F_X6_forgetAll  (V : sv_V) : Option sv_V := sx_let (sv_I V 30 7 (0 : Int32)) (fun V1 => sx_let (sv_I V1 30 8 (0 : Int32)) (fun V2 => sx_let (sv_I V2 69 16 (0 : Int32)) (fun V3 => some V3)))
set_option maxRecDepth 20000 in
theorem t_X6_forgetAll {g : sx_G} (hG : sx_Go g) {P : Option Value → sv_V → Prop} {Vr : sv_V} (hP : P none Vr)  {V : sv_V} (h : F_X6_forgetAll  V = some Vr) : sv_N g qX6_forgetAll 0 0 [(0, .ref 30)] [] V P := by
  unfold F_X6_forgetAll at h
  refine sx_aload_n (pc := 0) dX6_forgetAll_0 sx_m0 ?_
  refine sx_iconst (pc := 1) (v := 0) dX6_forgetAll_1 (by decide) ?_
  obtain ⟨V1, hV1⟩ : ∃ z : sv_V, z = sv_I V 30 7 (0 : Int32) := ⟨_, rfl⟩
  have h := sx_letE hV1 h
  refine sv_putI (pc := 2) hG dX6_forgetAll_2 f_6_54 lay_30 rfl hV1 ?_
  refine sx_aload_n (pc := 5) dX6_forgetAll_5 sx_m0 ?_
  refine sx_iconst (pc := 6) (v := 0) dX6_forgetAll_6 (by decide) ?_
  obtain ⟨V2, hV2⟩ : ∃ z : sv_V, z = sv_I V1 30 8 (0 : Int32) := ⟨_, rfl⟩
  have h := sx_letE hV2 h
  refine sv_putZ (pc := 7) hG dX6_forgetAll_7 f_6_58 lay_30 rfl rfl hV2 ?_
  refine sx_aload_n (pc := 10) dX6_forgetAll_10 sx_m0 ?_
  refine sv_getO (pc := 11) hG dX6_forgetAll_11 f_6_47 lay_30 rfl cr_30_2 ?_
  refine sx_iconst (pc := 14) (v := 0) dX6_forgetAll_14 (by decide) ?_
  obtain ⟨V3, hV3⟩ : ∃ z : sv_V, z = sv_I V2 69 16 (0 : Int32) := ⟨_, rfl⟩
  have h := sx_letE hV3 h
  refine sv_putI (pc := 15) hG dX6_forgetAll_15 f_6_62 lay_69 rfl hV3 ?_
  exact sv_vret (pc := 18) dX6_forgetAll_18 rfl h hP
def ncX6_keptOf : Nat := 1579579316685429067328162295354930606442612146368015715236432496561533810341534492068206522596213262259369002
theorem kcX6_keptOf : CK cX6_keptOf ncX6_keptOf 45 := ⟨by decide +kernel, by decide +kernel⟩
theorem dX6_keptOf_0 : decode cX6_keptOf 0 = .ok (.aload_n 0, 1) := dl_o42 kcX6_keptOf (by decide +kernel)
theorem dX6_keptOf_1 : decode cX6_keptOf 1 = .ok (.getfield 54, 3) := dl_o180 kcX6_keptOf (by decide +kernel)
theorem dX6_keptOf_4 : decode cX6_keptOf 4 = .ok (.ifCond .ne 5, 3) := dl_o154 kcX6_keptOf 5 (by decide +kernel) (by decide +kernel)
theorem dX6_keptOf_7 : decode cX6_keptOf 7 = .ok (.iconst 0, 1) := dl_o3 kcX6_keptOf (by decide +kernel)
theorem dX6_keptOf_8 : decode cX6_keptOf 8 = .ok (.ireturn, 1) := dl_o172 kcX6_keptOf (by decide +kernel)
theorem dX6_keptOf_9 : decode cX6_keptOf 9 = .ok (.aload_n 0, 1) := dl_o42 kcX6_keptOf (by decide +kernel)
theorem dX6_keptOf_10 : decode cX6_keptOf 10 = .ok (.getfield 58, 3) := dl_o180 kcX6_keptOf (by decide +kernel)
theorem dX6_keptOf_13 : decode cX6_keptOf 13 = .ok (.ifCond .eq 22, 3) := dl_o153 kcX6_keptOf 22 (by decide +kernel) (by decide +kernel)
theorem dX6_keptOf_16 : decode cX6_keptOf 16 = .ok (.aload_n 0, 1) := dl_o42 kcX6_keptOf (by decide +kernel)
theorem dX6_keptOf_17 : decode cX6_keptOf 17 = .ok (.getfield 65, 3) := dl_o180 kcX6_keptOf (by decide +kernel)
theorem dX6_keptOf_20 : decode cX6_keptOf 20 = .ok (.ifCond .eq 15, 3) := dl_o153 kcX6_keptOf 15 (by decide +kernel) (by decide +kernel)
theorem dX6_keptOf_23 : decode cX6_keptOf 23 = .ok (.aload_n 0, 1) := dl_o42 kcX6_keptOf (by decide +kernel)
theorem dX6_keptOf_24 : decode cX6_keptOf 24 = .ok (.getfield 18, 3) := dl_o180 kcX6_keptOf (by decide +kernel)
theorem dX6_keptOf_27 : decode cX6_keptOf 27 = .ok (.getfield 68, 3) := dl_o180 kcX6_keptOf (by decide +kernel)
theorem dX6_keptOf_30 : decode cX6_keptOf 30 = .ok (.iload_n 1, 1) := dl_o27 kcX6_keptOf (by decide +kernel)
theorem dX6_keptOf_31 : decode cX6_keptOf 31 = .ok (.iaload, 1) := dl_o46 kcX6_keptOf (by decide +kernel)
theorem dX6_keptOf_32 : decode cX6_keptOf 32 = .ok (.goto 12, 3) := dl_o167 kcX6_keptOf 12 (by decide +kernel) (by decide +kernel)
theorem dX6_keptOf_35 : decode cX6_keptOf 35 = .ok (.aload_n 0, 1) := dl_o42 kcX6_keptOf (by decide +kernel)
theorem dX6_keptOf_36 : decode cX6_keptOf 36 = .ok (.getfield 12, 3) := dl_o180 kcX6_keptOf (by decide +kernel)
theorem dX6_keptOf_39 : decode cX6_keptOf 39 = .ok (.getfield 68, 3) := dl_o180 kcX6_keptOf (by decide +kernel)
theorem dX6_keptOf_42 : decode cX6_keptOf 42 = .ok (.iload_n 1, 1) := dl_o27 kcX6_keptOf (by decide +kernel)
theorem dX6_keptOf_43 : decode cX6_keptOf 43 = .ok (.iaload, 1) := dl_o46 kcX6_keptOf (by decide +kernel)
theorem dX6_keptOf_44 : decode cX6_keptOf 44 = .ok (.ireturn, 1) := dl_o172 kcX6_keptOf (by decide +kernel)
def F_X6_keptOf (l1 : Int32) (V : sv_V) : Option (Int32 × sv_V) := if (V.1 30 7) = 0 then (some ((0 : Int32), V)) else (if (V.1 30 8) = 0 then (if sx_in l1 9 = true then some (V.1 44 l1.toNatClampNeg, V) else none) else (if (V.1 30 9) = 0 then (if sx_in l1 9 = true then some (V.1 44 l1.toNatClampNeg, V) else none) else (if sx_in l1 9 = true then some (V.1 58 l1.toNatClampNeg, V) else none)))
set_option maxRecDepth 20000 in
theorem t_X6_keptOf {g : sx_G} (hG : sx_Go g) {P : Option Value → sv_V → Prop} {r : Int32} {Vr : sv_V} (hP : P (some (.int r)) Vr) {l1 : Int32} {V : sv_V} (h : F_X6_keptOf l1 V = some (r, Vr)) : sv_N g qX6_keptOf 0 0 [(0, .ref 30), (1, .int l1)] [] V P := by
  unfold F_X6_keptOf at h
  refine sx_aload_n (pc := 0) dX6_keptOf_0 sx_m0 ?_
  refine sv_getI (pc := 1) hG dX6_keptOf_1 f_6_54 lay_30 rfl ?_
  refine sx_if_ne (pc := 4) (tgt := 9) dX6_keptOf_4 (by decide) (fun c1 => ?_) (fun c1 => ?_)
  · have h := sx_neg c1 h
    refine sx_aload_n (pc := 9) dX6_keptOf_9 sx_m0 ?_
    refine sv_getZ (pc := 10) hG dX6_keptOf_10 f_6_58 lay_30 rfl ?_
    refine sx_if_eq (pc := 13) (tgt := 35) dX6_keptOf_13 (by decide) (fun c2 => ?_) (fun c2 => ?_)
    · have h := sx_pos c2 h
      refine sx_aload_n (pc := 35) dX6_keptOf_35 sx_m0 ?_
      refine sv_getO (pc := 36) hG dX6_keptOf_36 f_6_12 lay_30 rfl cr_30_3 ?_
      refine sv_getA (pc := 39) hG dX6_keptOf_39 f_6_68 lay_31 rfl cr_31_5 ?_
      refine sx_iload_n (pc := 42) dX6_keptOf_42 sx_m1 ?_
      obtain ⟨g3, h⟩ := sx_grd h
      refine sv_iald (pc := 43) hG dX6_keptOf_43 lay_44 g3 ?_
      exact sv_iret (pc := 44) dX6_keptOf_44 rfl h hP
    · have h := sx_neg c2 h
      refine sx_aload_n (pc := 16) dX6_keptOf_16 sx_m0 ?_
      refine sv_getZ (pc := 17) hG dX6_keptOf_17 f_6_65 lay_30 rfl ?_
      refine sx_if_eq (pc := 20) (tgt := 35) dX6_keptOf_20 (by decide) (fun c4 => ?_) (fun c4 => ?_)
      · have h := sx_pos c4 h
        refine sx_aload_n (pc := 35) dX6_keptOf_35 sx_m0 ?_
        refine sv_getO (pc := 36) hG dX6_keptOf_36 f_6_12 lay_30 rfl cr_30_3 ?_
        refine sv_getA (pc := 39) hG dX6_keptOf_39 f_6_68 lay_31 rfl cr_31_5 ?_
        refine sx_iload_n (pc := 42) dX6_keptOf_42 sx_m1 ?_
        obtain ⟨g5, h⟩ := sx_grd h
        refine sv_iald (pc := 43) hG dX6_keptOf_43 lay_44 g5 ?_
        exact sv_iret (pc := 44) dX6_keptOf_44 rfl h hP
      · have h := sx_neg c4 h
        refine sx_aload_n (pc := 23) dX6_keptOf_23 sx_m0 ?_
        refine sv_getO (pc := 24) hG dX6_keptOf_24 f_6_18 lay_30 rfl cr_30_4 ?_
        refine sv_getA (pc := 27) hG dX6_keptOf_27 f_6_68 lay_45 rfl cr_45_5 ?_
        refine sx_iload_n (pc := 30) dX6_keptOf_30 sx_m1 ?_
        obtain ⟨g6, h⟩ := sx_grd h
        refine sv_iald (pc := 31) hG dX6_keptOf_31 lay_58 g6 ?_
        refine sx_goto (pc := 32) (tgt := 44) dX6_keptOf_32 (by decide) ?_
        exact sv_iret (pc := 44) dX6_keptOf_44 rfl h hP
  · have h := sx_pos c1 h
    refine sx_iconst (pc := 7) (v := 0) dX6_keptOf_7 (by decide) ?_
    exact sv_iret (pc := 8) dX6_keptOf_8 rfl h hP
def ncX7_hasCvt : Nat := 14984339347662989861893982298727117783866139
theorem kcX7_hasCvt : CK cX7_hasCvt ncX7_hasCvt 18 := ⟨by decide +kernel, by decide +kernel⟩
theorem dX7_hasCvt_0 : decode cX7_hasCvt 0 = .ok (.iload_n 1, 1) := dl_o27 kcX7_hasCvt (by decide +kernel)
theorem dX7_hasCvt_1 : decode cX7_hasCvt 1 = .ok (.ifCond .lt 15, 3) := dl_o155 kcX7_hasCvt 15 (by decide +kernel) (by decide +kernel)
theorem dX7_hasCvt_4 : decode cX7_hasCvt 4 = .ok (.iload_n 1, 1) := dl_o27 kcX7_hasCvt (by decide +kernel)
theorem dX7_hasCvt_5 : decode cX7_hasCvt 5 = .ok (.aload_n 0, 1) := dl_o42 kcX7_hasCvt (by decide +kernel)
theorem dX7_hasCvt_6 : decode cX7_hasCvt 6 = .ok (.getfield 44, 3) := dl_o180 kcX7_hasCvt (by decide +kernel)
theorem dX7_hasCvt_9 : decode cX7_hasCvt 9 = .ok (.if_icmp .ge 7, 3) := dl_o162 kcX7_hasCvt 7 (by decide +kernel) (by decide +kernel)
theorem dX7_hasCvt_12 : decode cX7_hasCvt 12 = .ok (.iconst 1, 1) := dl_o4 kcX7_hasCvt (by decide +kernel)
theorem dX7_hasCvt_13 : decode cX7_hasCvt 13 = .ok (.goto 4, 3) := dl_o167 kcX7_hasCvt 4 (by decide +kernel) (by decide +kernel)
theorem dX7_hasCvt_16 : decode cX7_hasCvt 16 = .ok (.iconst 0, 1) := dl_o3 kcX7_hasCvt (by decide +kernel)
theorem dX7_hasCvt_17 : decode cX7_hasCvt 17 = .ok (.ireturn, 1) := dl_o172 kcX7_hasCvt (by decide +kernel)
def F_X7_hasCvt (l0 : Nat) (l1 : Int32) (V : sv_V) : Option (Int32 × sv_V) := if l1 < 0 then (some ((0 : Int32), V)) else (if lay l0 = .inl 7 then if (V.1 l0 1) ≤ l1 then (some ((0 : Int32), V)) else (some ((1 : Int32), V)) else none)
set_option maxRecDepth 20000 in
theorem t_X7_hasCvt {g : sx_G} (hG : sx_Go g) {P : Option Value → sv_V → Prop} {r : Int32} {Vr : sv_V} (hP : P (some (.int r)) Vr) {l0 : Nat} {l1 : Int32} {V : sv_V} (h : F_X7_hasCvt l0 l1 V = some (r, Vr)) : sv_N g qX7_hasCvt 0 0 [(0, .ref l0), (1, .int l1)] [] V P := by
  unfold F_X7_hasCvt at h
  refine sx_iload_n (pc := 0) dX7_hasCvt_0 sx_m1 ?_
  refine sx_if_lt (pc := 1) (tgt := 16) dX7_hasCvt_1 (by decide) (fun c1 => ?_) (fun c1 => ?_)
  · have h := sx_pos c1 h
    refine sx_iconst (pc := 16) (v := 0) dX7_hasCvt_16 (by decide) ?_
    exact sv_zret (pc := 17) dX7_hasCvt_17 rfl rfl h hP
  · have h := sx_neg c1 h
    refine sx_iload_n (pc := 4) dX7_hasCvt_4 sx_m1 ?_
    refine sx_aload_n (pc := 5) dX7_hasCvt_5 sx_m0 ?_
    obtain ⟨g2, h⟩ := sx_grd h
    refine sv_getI (pc := 6) hG dX7_hasCvt_6 f_7_44 g2 rfl ?_
    refine sx_icmp_ge (pc := 9) (tgt := 16) dX7_hasCvt_9 (by decide) (fun c3 => ?_) (fun c3 => ?_)
    · have h := sx_pos c3 h
      refine sx_iconst (pc := 16) (v := 0) dX7_hasCvt_16 (by decide) ?_
      exact sv_zret (pc := 17) dX7_hasCvt_17 rfl rfl h hP
    · have h := sx_neg c3 h
      refine sx_iconst (pc := 12) (v := 1) dX7_hasCvt_12 (by decide) ?_
      refine sx_goto (pc := 13) (tgt := 17) dX7_hasCvt_13 (by decide) ?_
      exact sv_zret (pc := 17) dX7_hasCvt_17 rfl rfl h hP
def ncX7_hasStorage : Nat := 14984339347662989861894406573840813103553307
theorem kcX7_hasStorage : CK cX7_hasStorage ncX7_hasStorage 18 := ⟨by decide +kernel, by decide +kernel⟩
theorem dX7_hasStorage_0 : decode cX7_hasStorage 0 = .ok (.iload_n 1, 1) := dl_o27 kcX7_hasStorage (by decide +kernel)
theorem dX7_hasStorage_1 : decode cX7_hasStorage 1 = .ok (.ifCond .lt 15, 3) := dl_o155 kcX7_hasStorage 15 (by decide +kernel) (by decide +kernel)
theorem dX7_hasStorage_4 : decode cX7_hasStorage 4 = .ok (.iload_n 1, 1) := dl_o27 kcX7_hasStorage (by decide +kernel)
theorem dX7_hasStorage_5 : decode cX7_hasStorage 5 = .ok (.aload_n 0, 1) := dl_o42 kcX7_hasStorage (by decide +kernel)
theorem dX7_hasStorage_6 : decode cX7_hasStorage 6 = .ok (.getfield 67, 3) := dl_o180 kcX7_hasStorage (by decide +kernel)
theorem dX7_hasStorage_9 : decode cX7_hasStorage 9 = .ok (.if_icmp .ge 7, 3) := dl_o162 kcX7_hasStorage 7 (by decide +kernel) (by decide +kernel)
theorem dX7_hasStorage_12 : decode cX7_hasStorage 12 = .ok (.iconst 1, 1) := dl_o4 kcX7_hasStorage (by decide +kernel)
theorem dX7_hasStorage_13 : decode cX7_hasStorage 13 = .ok (.goto 4, 3) := dl_o167 kcX7_hasStorage 4 (by decide +kernel) (by decide +kernel)
theorem dX7_hasStorage_16 : decode cX7_hasStorage 16 = .ok (.iconst 0, 1) := dl_o3 kcX7_hasStorage (by decide +kernel)
theorem dX7_hasStorage_17 : decode cX7_hasStorage 17 = .ok (.ireturn, 1) := dl_o172 kcX7_hasStorage (by decide +kernel)
def F_X7_hasStorage (l0 : Nat) (l1 : Int32) (V : sv_V) : Option (Int32 × sv_V) := if l1 < 0 then (some ((0 : Int32), V)) else (if lay l0 = .inl 7 then if (V.1 l0 3) ≤ l1 then (some ((0 : Int32), V)) else (some ((1 : Int32), V)) else none)
set_option maxRecDepth 20000 in
theorem t_X7_hasStorage {g : sx_G} (hG : sx_Go g) {P : Option Value → sv_V → Prop} {r : Int32} {Vr : sv_V} (hP : P (some (.int r)) Vr) {l0 : Nat} {l1 : Int32} {V : sv_V} (h : F_X7_hasStorage l0 l1 V = some (r, Vr)) : sv_N g qX7_hasStorage 0 0 [(0, .ref l0), (1, .int l1)] [] V P := by
  unfold F_X7_hasStorage at h
  refine sx_iload_n (pc := 0) dX7_hasStorage_0 sx_m1 ?_
  refine sx_if_lt (pc := 1) (tgt := 16) dX7_hasStorage_1 (by decide) (fun c1 => ?_) (fun c1 => ?_)
  · have h := sx_pos c1 h
    refine sx_iconst (pc := 16) (v := 0) dX7_hasStorage_16 (by decide) ?_
    exact sv_zret (pc := 17) dX7_hasStorage_17 rfl rfl h hP
  · have h := sx_neg c1 h
    refine sx_iload_n (pc := 4) dX7_hasStorage_4 sx_m1 ?_
    refine sx_aload_n (pc := 5) dX7_hasStorage_5 sx_m0 ?_
    obtain ⟨g2, h⟩ := sx_grd h
    refine sv_getI (pc := 6) hG dX7_hasStorage_6 f_7_67 g2 rfl ?_
    refine sx_icmp_ge (pc := 9) (tgt := 16) dX7_hasStorage_9 (by decide) (fun c3 => ?_) (fun c3 => ?_)
    · have h := sx_pos c3 h
      refine sx_iconst (pc := 16) (v := 0) dX7_hasStorage_16 (by decide) ?_
      exact sv_zret (pc := 17) dX7_hasStorage_17 rfl rfl h hP
    · have h := sx_neg c3 h
      refine sx_iconst (pc := 12) (v := 1) dX7_hasStorage_12 (by decide) ?_
      refine sx_goto (pc := 13) (tgt := 17) dX7_hasStorage_13 (by decide) ?_
      exact sv_zret (pc := 17) dX7_hasStorage_17 rfl rfl h hP
def ncX8_has : Nat := 16475455347296899964523095631269712857820584695245609755
theorem kcX8_has : CK cX8_has ncX8_has 23 := ⟨by decide +kernel, by decide +kernel⟩
theorem dX8_has_0 : decode cX8_has 0 = .ok (.iload_n 1, 1) := dl_o27 kcX8_has (by decide +kernel)
theorem dX8_has_1 : decode cX8_has 1 = .ok (.ifCond .lt 20, 3) := dl_o155 kcX8_has 20 (by decide +kernel) (by decide +kernel)
theorem dX8_has_4 : decode cX8_has 4 = .ok (.iload_n 1, 1) := dl_o27 kcX8_has (by decide +kernel)
theorem dX8_has_5 : decode cX8_has 5 = .ok (.aload_n 0, 1) := dl_o42 kcX8_has (by decide +kernel)
theorem dX8_has_6 : decode cX8_has 6 = .ok (.getfield 43, 3) := dl_o180 kcX8_has (by decide +kernel)
theorem dX8_has_9 : decode cX8_has 9 = .ok (.aload_n 0, 1) := dl_o42 kcX8_has (by decide +kernel)
theorem dX8_has_10 : decode cX8_has 10 = .ok (.getfield 39, 3) := dl_o180 kcX8_has (by decide +kernel)
theorem dX8_has_13 : decode cX8_has 13 = .ok (.iadd, 1) := dl_o96 kcX8_has (by decide +kernel)
theorem dX8_has_14 : decode cX8_has 14 = .ok (.if_icmp .ge 7, 3) := dl_o162 kcX8_has 7 (by decide +kernel) (by decide +kernel)
theorem dX8_has_17 : decode cX8_has 17 = .ok (.iconst 1, 1) := dl_o4 kcX8_has (by decide +kernel)
theorem dX8_has_18 : decode cX8_has 18 = .ok (.goto 4, 3) := dl_o167 kcX8_has 4 (by decide +kernel) (by decide +kernel)
theorem dX8_has_21 : decode cX8_has 21 = .ok (.iconst 0, 1) := dl_o3 kcX8_has (by decide +kernel)
theorem dX8_has_22 : decode cX8_has 22 = .ok (.ireturn, 1) := dl_o172 kcX8_has (by decide +kernel)
def F_X8_has (l0 : Nat) (l1 : Int32) (V : sv_V) : Option (Int32 × sv_V) := if l1 < 0 then (some ((0 : Int32), V)) else (if lay l0 = .inl 8 then if ((V.1 l0 9) + (V.1 l0 11)) ≤ l1 then (some ((0 : Int32), V)) else (some ((1 : Int32), V)) else none)
set_option maxRecDepth 20000 in
theorem t_X8_has {g : sx_G} (hG : sx_Go g) {P : Option Value → sv_V → Prop} {r : Int32} {Vr : sv_V} (hP : P (some (.int r)) Vr) {l0 : Nat} {l1 : Int32} {V : sv_V} (h : F_X8_has l0 l1 V = some (r, Vr)) : sv_N g qX8_has 0 0 [(0, .ref l0), (1, .int l1)] [] V P := by
  unfold F_X8_has at h
  refine sx_iload_n (pc := 0) dX8_has_0 sx_m1 ?_
  refine sx_if_lt (pc := 1) (tgt := 21) dX8_has_1 (by decide) (fun c1 => ?_) (fun c1 => ?_)
  · have h := sx_pos c1 h
    refine sx_iconst (pc := 21) (v := 0) dX8_has_21 (by decide) ?_
    exact sv_zret (pc := 22) dX8_has_22 rfl rfl h hP
  · have h := sx_neg c1 h
    refine sx_iload_n (pc := 4) dX8_has_4 sx_m1 ?_
    refine sx_aload_n (pc := 5) dX8_has_5 sx_m0 ?_
    obtain ⟨g2, h⟩ := sx_grd h
    refine sv_getI (pc := 6) hG dX8_has_6 f_8_43 g2 rfl ?_
    refine sx_aload_n (pc := 9) dX8_has_9 sx_m0 ?_
    refine sv_getI (pc := 10) hG dX8_has_10 f_8_39 g2 rfl ?_
    refine sx_iadd (pc := 13) dX8_has_13 ?_
    refine sx_icmp_ge (pc := 14) (tgt := 21) dX8_has_14 (by decide) (fun c3 => ?_) (fun c3 => ?_)
    · have h := sx_pos c3 h
      refine sx_iconst (pc := 21) (v := 0) dX8_has_21 (by decide) ?_
      exact sv_zret (pc := 22) dX8_has_22 rfl rfl h hP
    · have h := sx_neg c3 h
      refine sx_iconst (pc := 17) (v := 1) dX8_has_17 (by decide) ?_
      refine sx_goto (pc := 18) (tgt := 22) dX8_has_18 (by decide) ?_
      exact sv_zret (pc := 22) dX8_has_22 rfl rfl h hP
def ncX8_firstOf : Nat := 3844092376389984611320704589052381866575829531
theorem kcX8_firstOf : CK cX8_firstOf ncX8_firstOf 19 := ⟨by decide +kernel, by decide +kernel⟩
theorem dX8_firstOf_0 : decode cX8_firstOf 0 = .ok (.iload_n 1, 1) := dl_o27 kcX8_firstOf (by decide +kernel)
theorem dX8_firstOf_1 : decode cX8_firstOf 1 = .ok (.ifCond .ne 7, 3) := dl_o154 kcX8_firstOf 7 (by decide +kernel) (by decide +kernel)
theorem dX8_firstOf_4 : decode cX8_firstOf 4 = .ok (.iconst 0, 1) := dl_o3 kcX8_firstOf (by decide +kernel)
theorem dX8_firstOf_5 : decode cX8_firstOf 5 = .ok (.goto 13, 3) := dl_o167 kcX8_firstOf 13 (by decide +kernel) (by decide +kernel)
theorem dX8_firstOf_8 : decode cX8_firstOf 8 = .ok (.aload_n 0, 1) := dl_o42 kcX8_firstOf (by decide +kernel)
theorem dX8_firstOf_9 : decode cX8_firstOf 9 = .ok (.getfield 9, 3) := dl_o180 kcX8_firstOf (by decide +kernel)
theorem dX8_firstOf_12 : decode cX8_firstOf 12 = .ok (.iload_n 1, 1) := dl_o27 kcX8_firstOf (by decide +kernel)
theorem dX8_firstOf_13 : decode cX8_firstOf 13 = .ok (.iconst 1, 1) := dl_o4 kcX8_firstOf (by decide +kernel)
theorem dX8_firstOf_14 : decode cX8_firstOf 14 = .ok (.isub, 1) := dl_o100 kcX8_firstOf (by decide +kernel)
theorem dX8_firstOf_15 : decode cX8_firstOf 15 = .ok (.iaload, 1) := dl_o46 kcX8_firstOf (by decide +kernel)
theorem dX8_firstOf_16 : decode cX8_firstOf 16 = .ok (.iconst 1, 1) := dl_o4 kcX8_firstOf (by decide +kernel)
theorem dX8_firstOf_17 : decode cX8_firstOf 17 = .ok (.iadd, 1) := dl_o96 kcX8_firstOf (by decide +kernel)
theorem dX8_firstOf_18 : decode cX8_firstOf 18 = .ok (.ireturn, 1) := dl_o172 kcX8_firstOf (by decide +kernel)
def F_X8_firstOf (l0 : Nat) (l1 : Int32) (V : sv_V) : Option (Int32 × sv_V) := if l1 = 0 then (some ((0 : Int32), V)) else (if lay l0 = .inl 8 then (cr l0 6).bind (fun b3 => (sv_len 0 b3).bind (fun n5 => if sx_in (l1 - (1 : Int32)) n5 = true then some ((V.1 b3 (l1 - (1 : Int32)).toNatClampNeg) + (1 : Int32), V) else none)) else none)
set_option maxRecDepth 20000 in
theorem t_X8_firstOf {g : sx_G} (hG : sx_Go g) {P : Option Value → sv_V → Prop} {r : Int32} {Vr : sv_V} (hP : P (some (.int r)) Vr) {l0 : Nat} {l1 : Int32} {V : sv_V} (h : F_X8_firstOf l0 l1 V = some (r, Vr)) : sv_N g qX8_firstOf 0 0 [(0, .ref l0), (1, .int l1)] [] V P := by
  unfold F_X8_firstOf at h
  refine sx_iload_n (pc := 0) dX8_firstOf_0 sx_m1 ?_
  refine sx_if_ne (pc := 1) (tgt := 8) dX8_firstOf_1 (by decide) (fun c1 => ?_) (fun c1 => ?_)
  · have h := sx_neg c1 h
    refine sx_aload_n (pc := 8) dX8_firstOf_8 sx_m0 ?_
    obtain ⟨g2, h⟩ := sx_grd h
    obtain ⟨b3, g4, h⟩ := sx_bnd h
    refine sv_getA (pc := 9) hG dX8_firstOf_9 f_8_9 g2 rfl g4 ?_
    refine sx_iload_n (pc := 12) dX8_firstOf_12 sx_m1 ?_
    refine sx_iconst (pc := 13) (v := 1) dX8_firstOf_13 (by decide) ?_
    refine sx_isub (pc := 14) dX8_firstOf_14 ?_
    obtain ⟨n5, g6, h⟩ := sx_bnd h
    obtain ⟨g7, h⟩ := sx_grd h
    refine sv_iald (pc := 15) hG dX8_firstOf_15 (sv_len_e g6) g7 ?_
    refine sx_iconst (pc := 16) (v := 1) dX8_firstOf_16 (by decide) ?_
    refine sx_iadd (pc := 17) dX8_firstOf_17 ?_
    exact sv_iret (pc := 18) dX8_firstOf_18 rfl h hP
  · have h := sx_pos c1 h
    refine sx_iconst (pc := 4) (v := 0) dX8_firstOf_4 (by decide) ?_
    refine sx_goto (pc := 5) (tgt := 18) dX8_firstOf_5 (by decide) ?_
    exact sv_iret (pc := 18) dX8_firstOf_18 rfl h hP
def ncX8_contourOf : Nat := 1187205894421217718649873884884911603645437941013521392499900342744136963
theorem kcX8_contourOf : CK cX8_contourOf ncX8_contourOf 30 := ⟨by decide +kernel, by decide +kernel⟩
theorem dX8_contourOf_0 : decode cX8_contourOf 0 = .ok (.iconst 0, 1) := dl_o3 kcX8_contourOf (by decide +kernel)
theorem dX8_contourOf_1 : decode cX8_contourOf 1 = .ok (.istore_n 2, 1) := dl_o61 kcX8_contourOf (by decide +kernel)
theorem dX8_contourOf_2 : decode cX8_contourOf 2 = .ok (.iload_n 2, 1) := dl_o28 kcX8_contourOf (by decide +kernel)
theorem dX8_contourOf_3 : decode cX8_contourOf 3 = .ok (.aload_n 0, 1) := dl_o42 kcX8_contourOf (by decide +kernel)
theorem dX8_contourOf_4 : decode cX8_contourOf 4 = .ok (.getfield 46, 3) := dl_o180 kcX8_contourOf (by decide +kernel)
theorem dX8_contourOf_7 : decode cX8_contourOf 7 = .ok (.if_icmp .ge 21, 3) := dl_o162 kcX8_contourOf 21 (by decide +kernel) (by decide +kernel)
theorem dX8_contourOf_10 : decode cX8_contourOf 10 = .ok (.iload_n 1, 1) := dl_o27 kcX8_contourOf (by decide +kernel)
theorem dX8_contourOf_11 : decode cX8_contourOf 11 = .ok (.aload_n 0, 1) := dl_o42 kcX8_contourOf (by decide +kernel)
theorem dX8_contourOf_12 : decode cX8_contourOf 12 = .ok (.getfield 9, 3) := dl_o180 kcX8_contourOf (by decide +kernel)
theorem dX8_contourOf_15 : decode cX8_contourOf 15 = .ok (.iload_n 2, 1) := dl_o28 kcX8_contourOf (by decide +kernel)
theorem dX8_contourOf_16 : decode cX8_contourOf 16 = .ok (.iaload, 1) := dl_o46 kcX8_contourOf (by decide +kernel)
theorem dX8_contourOf_17 : decode cX8_contourOf 17 = .ok (.if_icmp .gt 5, 3) := dl_o163 kcX8_contourOf 5 (by decide +kernel) (by decide +kernel)
theorem dX8_contourOf_20 : decode cX8_contourOf 20 = .ok (.iload_n 2, 1) := dl_o28 kcX8_contourOf (by decide +kernel)
theorem dX8_contourOf_21 : decode cX8_contourOf 21 = .ok (.ireturn, 1) := dl_o172 kcX8_contourOf (by decide +kernel)
theorem dX8_contourOf_22 : decode cX8_contourOf 22 = .ok (.iinc 2 1, 3) := by decide +kernel
theorem dX8_contourOf_25 : decode cX8_contourOf 25 = .ok (.goto (-23), 3) := dl_o167 kcX8_contourOf 65513 (by decide +kernel) (by decide +kernel)
theorem dX8_contourOf_28 : decode cX8_contourOf 28 = .ok (.iconst 0, 1) := dl_o3 kcX8_contourOf (by decide +kernel)
theorem dX8_contourOf_29 : decode cX8_contourOf 29 = .ok (.ireturn, 1) := dl_o172 kcX8_contourOf (by decide +kernel)
def B_X8_contourOf_2 (N : Nat) (k2 : Nat → Int32 → Int32 → sv_V → Option (Int32 × sv_V)) (l0 : Nat) (l1 : Int32) (l2 : Int32) (V : sv_V) : Option (Int32 × sv_V) := if lay l0 = .inl 8 then if (V.1 l0 10) ≤ l2 then (some ((0 : Int32), V)) else ((cr l0 6).bind (fun b3 => (sv_len 0 b3).bind (fun n5 => if sx_in l2 n5 = true then if (V.1 b3 l2.toNatClampNeg) < l1 then (sx_let (l2 + 1) (fun x9 => k2 l0 l1 x9 V)) else (some (l2, V)) else none))) else none
set_option maxRecDepth 20000 in
theorem tB_X8_contourOf_2 {g : sx_G} (hG : sx_Go g) {P : Option Value → sv_V → Prop} {r : Int32} {Vr : sv_V} (hP : P (some (.int r)) Vr) {N : Nat} {k2 : Nat → Int32 → Int32 → sv_V → Option (Int32 × sv_V)} (hk2 : ∀ (l0 : Nat) (l1 : Int32) (l2 : Int32) (V : sv_V), k2 l0 l1 l2 V = some (r, Vr) → sv_N g qX8_contourOf 0 2 [(0, .ref l0), (1, .int l1), (2, .int l2)] [] V P) {l0 : Nat} {l1 : Int32} {l2 : Int32} {V : sv_V} (h : B_X8_contourOf_2 N k2 l0 l1 l2 V = some (r, Vr)) : sv_N g qX8_contourOf 0 2 [(0, .ref l0), (1, .int l1), (2, .int l2)] [] V P := by
  unfold B_X8_contourOf_2 at h
  refine sx_iload_n (pc := 2) dX8_contourOf_2 sx_m2 ?_
  refine sx_aload_n (pc := 3) dX8_contourOf_3 sx_m0 ?_
  obtain ⟨g1, h⟩ := sx_grd h
  refine sv_getI (pc := 4) hG dX8_contourOf_4 f_8_46 g1 rfl ?_
  refine sx_icmp_ge (pc := 7) (tgt := 28) dX8_contourOf_7 (by decide) (fun c2 => ?_) (fun c2 => ?_)
  · have h := sx_pos c2 h
    refine sx_iconst (pc := 28) (v := 0) dX8_contourOf_28 (by decide) ?_
    exact sv_iret (pc := 29) dX8_contourOf_29 rfl h hP
  · have h := sx_neg c2 h
    refine sx_iload_n (pc := 10) dX8_contourOf_10 sx_m1 ?_
    refine sx_aload_n (pc := 11) dX8_contourOf_11 sx_m0 ?_
    obtain ⟨b3, g4, h⟩ := sx_bnd h
    refine sv_getA (pc := 12) hG dX8_contourOf_12 f_8_9 g1 rfl g4 ?_
    refine sx_iload_n (pc := 15) dX8_contourOf_15 sx_m2 ?_
    obtain ⟨n5, g6, h⟩ := sx_bnd h
    obtain ⟨g7, h⟩ := sx_grd h
    refine sv_iald (pc := 16) hG dX8_contourOf_16 (sv_len_e g6) g7 ?_
    refine sx_icmp_gt (pc := 17) (tgt := 22) dX8_contourOf_17 (by decide) (fun c8 => ?_) (fun c8 => ?_)
    · have h := sx_pos c8 h
      obtain ⟨x9, hx9⟩ : ∃ z : Int32, z = l2 + 1 := ⟨_, rfl⟩
      have h := sx_letE hx9 h
      refine sx_iinc (pc := 22) (v := x9) (lo' := [(2, .int x9), (0, .ref l0), (1, .int l1)]) dX8_contourOf_22 sx_m2 (by rw [hx9]; rfl) (by decide) rfl ?_
      refine sx_goto (pc := 25) (tgt := 2) dX8_contourOf_25 (by decide) ?_
      refine sx_wk (sx_s1 sx_m1 (sx_s1 sx_m2 (sx_s1 sx_m0 sx_s0))) ?_
      exact hk2 _ _ _ _ h
    · have h := sx_neg c8 h
      refine sx_iload_n (pc := 20) dX8_contourOf_20 sx_m2 ?_
      exact sv_iret (pc := 21) dX8_contourOf_21 rfl h hP
theorem tL_X8_contourOf_2 {g : sx_G} (hG : sx_Go g) {P : Option Value → sv_V → Prop} {r : Int32} {Vr : sv_V} (hP : P (some (.int r)) Vr) {N : Nat}   : ∀ (n : Nat) (l0 : Nat) (l1 : Int32) (l2 : Int32) (V : sv_V), sx_lp4 (B_X8_contourOf_2 N ) n l0 l1 l2 V = some (r, Vr) → sv_N g qX8_contourOf 0 2 [(0, .ref l0), (1, .int l1), (2, .int l2)] [] V P :=
  sx_lp4_ind (fun k0 ih _ _ _ V h => tB_X8_contourOf_2 hG hP ih h)
def F_X8_contourOf (N : Nat) (l0 : Nat) (l1 : Int32) (V : sv_V) : Option (Int32 × sv_V) := sx_lp4 (B_X8_contourOf_2 N ) N l0 l1 (0 : Int32) V
set_option maxRecDepth 20000 in
theorem t_X8_contourOf {g : sx_G} (hG : sx_Go g) {P : Option Value → sv_V → Prop} {r : Int32} {Vr : sv_V} (hP : P (some (.int r)) Vr) {N : Nat} {l0 : Nat} {l1 : Int32} {V : sv_V} (h : F_X8_contourOf N l0 l1 V = some (r, Vr)) : sv_N g qX8_contourOf 0 0 [(0, .ref l0), (1, .int l1)] [] V P := by
  unfold F_X8_contourOf at h
  refine sx_iconst (pc := 0) (v := 0) dX8_contourOf_0 (by decide) ?_
  refine sx_istore_n (pc := 1) (lo' := [(2, .int (0 : Int32)), (0, .ref l0), (1, .int l1)]) dX8_contourOf_1 (by decide) rfl ?_
  refine sx_wk (sx_s1 sx_m1 (sx_s1 sx_m2 (sx_s1 sx_m0 sx_s0))) ?_
  exact tL_X8_contourOf_2 hG hP  N _ _ _ _ h
def ncX8_copyFrom : Nat := 16398982297690142864878652055174755828316117768766175087687419546442132442433265159183834382275017723976534621670112126562331956638023220770987412950052653127647481250783358531581786868499753912378508991018665578350548243196714
theorem kcX8_copyFrom : CK cX8_copyFrom ncX8_copyFrom 94 := ⟨by decide +kernel, by decide +kernel⟩
theorem dX8_copyFrom_0 : decode cX8_copyFrom 0 = .ok (.aload_n 0, 1) := dl_o42 kcX8_copyFrom (by decide +kernel)
theorem dX8_copyFrom_1 : decode cX8_copyFrom 1 = .ok (.aload_n 1, 1) := dl_o43 kcX8_copyFrom (by decide +kernel)
theorem dX8_copyFrom_2 : decode cX8_copyFrom 2 = .ok (.getfield 43, 3) := dl_o180 kcX8_copyFrom (by decide +kernel)
theorem dX8_copyFrom_5 : decode cX8_copyFrom 5 = .ok (.putfield 43, 3) := dl_o181 kcX8_copyFrom (by decide +kernel)
theorem dX8_copyFrom_8 : decode cX8_copyFrom 8 = .ok (.aload_n 1, 1) := dl_o43 kcX8_copyFrom (by decide +kernel)
theorem dX8_copyFrom_9 : decode cX8_copyFrom 9 = .ok (.getfield 21, 3) := dl_o180 kcX8_copyFrom (by decide +kernel)
theorem dX8_copyFrom_12 : decode cX8_copyFrom 12 = .ok (.iconst 0, 1) := dl_o3 kcX8_copyFrom (by decide +kernel)
theorem dX8_copyFrom_13 : decode cX8_copyFrom 13 = .ok (.aload_n 0, 1) := dl_o42 kcX8_copyFrom (by decide +kernel)
theorem dX8_copyFrom_14 : decode cX8_copyFrom 14 = .ok (.getfield 21, 3) := dl_o180 kcX8_copyFrom (by decide +kernel)
theorem dX8_copyFrom_17 : decode cX8_copyFrom 17 = .ok (.iconst 0, 1) := dl_o3 kcX8_copyFrom (by decide +kernel)
theorem dX8_copyFrom_18 : decode cX8_copyFrom 18 = .ok (.aload_n 0, 1) := dl_o42 kcX8_copyFrom (by decide +kernel)
theorem dX8_copyFrom_19 : decode cX8_copyFrom 19 = .ok (.getfield 43, 3) := dl_o180 kcX8_copyFrom (by decide +kernel)
theorem dX8_copyFrom_22 : decode cX8_copyFrom 22 = .ok (.invokestatic 55, 3) := dl_o184 kcX8_copyFrom (by decide +kernel)
theorem dX8_copyFrom_25 : decode cX8_copyFrom 25 = .ok (.aload_n 1, 1) := dl_o43 kcX8_copyFrom (by decide +kernel)
theorem dX8_copyFrom_26 : decode cX8_copyFrom 26 = .ok (.getfield 24, 3) := dl_o180 kcX8_copyFrom (by decide +kernel)
theorem dX8_copyFrom_29 : decode cX8_copyFrom 29 = .ok (.iconst 0, 1) := dl_o3 kcX8_copyFrom (by decide +kernel)
theorem dX8_copyFrom_30 : decode cX8_copyFrom 30 = .ok (.aload_n 0, 1) := dl_o42 kcX8_copyFrom (by decide +kernel)
theorem dX8_copyFrom_31 : decode cX8_copyFrom 31 = .ok (.getfield 24, 3) := dl_o180 kcX8_copyFrom (by decide +kernel)
theorem dX8_copyFrom_34 : decode cX8_copyFrom 34 = .ok (.iconst 0, 1) := dl_o3 kcX8_copyFrom (by decide +kernel)
theorem dX8_copyFrom_35 : decode cX8_copyFrom 35 = .ok (.aload_n 0, 1) := dl_o42 kcX8_copyFrom (by decide +kernel)
theorem dX8_copyFrom_36 : decode cX8_copyFrom 36 = .ok (.getfield 43, 3) := dl_o180 kcX8_copyFrom (by decide +kernel)
theorem dX8_copyFrom_39 : decode cX8_copyFrom 39 = .ok (.invokestatic 55, 3) := dl_o184 kcX8_copyFrom (by decide +kernel)
theorem dX8_copyFrom_42 : decode cX8_copyFrom 42 = .ok (.aload_n 1, 1) := dl_o43 kcX8_copyFrom (by decide +kernel)
theorem dX8_copyFrom_43 : decode cX8_copyFrom 43 = .ok (.getfield 27, 3) := dl_o180 kcX8_copyFrom (by decide +kernel)
theorem dX8_copyFrom_46 : decode cX8_copyFrom 46 = .ok (.iconst 0, 1) := dl_o3 kcX8_copyFrom (by decide +kernel)
theorem dX8_copyFrom_47 : decode cX8_copyFrom 47 = .ok (.aload_n 0, 1) := dl_o42 kcX8_copyFrom (by decide +kernel)
theorem dX8_copyFrom_48 : decode cX8_copyFrom 48 = .ok (.getfield 27, 3) := dl_o180 kcX8_copyFrom (by decide +kernel)
theorem dX8_copyFrom_51 : decode cX8_copyFrom 51 = .ok (.iconst 0, 1) := dl_o3 kcX8_copyFrom (by decide +kernel)
theorem dX8_copyFrom_52 : decode cX8_copyFrom 52 = .ok (.aload_n 0, 1) := dl_o42 kcX8_copyFrom (by decide +kernel)
theorem dX8_copyFrom_53 : decode cX8_copyFrom 53 = .ok (.getfield 43, 3) := dl_o180 kcX8_copyFrom (by decide +kernel)
theorem dX8_copyFrom_56 : decode cX8_copyFrom 56 = .ok (.invokestatic 55, 3) := dl_o184 kcX8_copyFrom (by decide +kernel)
theorem dX8_copyFrom_59 : decode cX8_copyFrom 59 = .ok (.aload_n 1, 1) := dl_o43 kcX8_copyFrom (by decide +kernel)
theorem dX8_copyFrom_60 : decode cX8_copyFrom 60 = .ok (.getfield 30, 3) := dl_o180 kcX8_copyFrom (by decide +kernel)
theorem dX8_copyFrom_63 : decode cX8_copyFrom 63 = .ok (.iconst 0, 1) := dl_o3 kcX8_copyFrom (by decide +kernel)
theorem dX8_copyFrom_64 : decode cX8_copyFrom 64 = .ok (.aload_n 0, 1) := dl_o42 kcX8_copyFrom (by decide +kernel)
theorem dX8_copyFrom_65 : decode cX8_copyFrom 65 = .ok (.getfield 30, 3) := dl_o180 kcX8_copyFrom (by decide +kernel)
theorem dX8_copyFrom_68 : decode cX8_copyFrom 68 = .ok (.iconst 0, 1) := dl_o3 kcX8_copyFrom (by decide +kernel)
theorem dX8_copyFrom_69 : decode cX8_copyFrom 69 = .ok (.aload_n 0, 1) := dl_o42 kcX8_copyFrom (by decide +kernel)
theorem dX8_copyFrom_70 : decode cX8_copyFrom 70 = .ok (.getfield 43, 3) := dl_o180 kcX8_copyFrom (by decide +kernel)
theorem dX8_copyFrom_73 : decode cX8_copyFrom 73 = .ok (.invokestatic 55, 3) := dl_o184 kcX8_copyFrom (by decide +kernel)
theorem dX8_copyFrom_76 : decode cX8_copyFrom 76 = .ok (.aload_n 1, 1) := dl_o43 kcX8_copyFrom (by decide +kernel)
theorem dX8_copyFrom_77 : decode cX8_copyFrom 77 = .ok (.getfield 33, 3) := dl_o180 kcX8_copyFrom (by decide +kernel)
theorem dX8_copyFrom_80 : decode cX8_copyFrom 80 = .ok (.iconst 0, 1) := dl_o3 kcX8_copyFrom (by decide +kernel)
theorem dX8_copyFrom_81 : decode cX8_copyFrom 81 = .ok (.aload_n 0, 1) := dl_o42 kcX8_copyFrom (by decide +kernel)
theorem dX8_copyFrom_82 : decode cX8_copyFrom 82 = .ok (.getfield 33, 3) := dl_o180 kcX8_copyFrom (by decide +kernel)
theorem dX8_copyFrom_85 : decode cX8_copyFrom 85 = .ok (.iconst 0, 1) := dl_o3 kcX8_copyFrom (by decide +kernel)
theorem dX8_copyFrom_86 : decode cX8_copyFrom 86 = .ok (.aload_n 0, 1) := dl_o42 kcX8_copyFrom (by decide +kernel)
theorem dX8_copyFrom_87 : decode cX8_copyFrom 87 = .ok (.getfield 43, 3) := dl_o180 kcX8_copyFrom (by decide +kernel)
theorem dX8_copyFrom_90 : decode cX8_copyFrom 90 = .ok (.invokestatic 55, 3) := dl_o184 kcX8_copyFrom (by decide +kernel)
theorem dX8_copyFrom_93 : decode cX8_copyFrom 93 = .ok (.return_, 1) := dl_o177 kcX8_copyFrom (by decide +kernel)
def F_X8_copyFrom (l0 : Nat) (l1 : Nat) (V : sv_V) : Option sv_V := if lay l1 = .inl 8 then if lay l0 = .inl 8 then sx_let (sv_I V l0 9 (V.1 l1 9)) (fun V3 => (cr l1 0).bind (fun b4 => (cr l0 0).bind (fun b6 => (sv_len 0 b4).bind (fun n8 => (sv_len 0 b6).bind (fun n10 => if sv_cpo (0 : Int32) (V3.1 l0 9) n8 = true then if sv_cpo (0 : Int32) (V3.1 l0 9) n10 = true then sx_let (sv_C V3 b4 (0 : Int32).toNatClampNeg b6 (0 : Int32).toNatClampNeg (V3.1 l0 9).toNatClampNeg) (fun V14 => (cr l1 1).bind (fun b15 => (cr l0 1).bind (fun b17 => (sv_len 0 b15).bind (fun n19 => (sv_len 0 b17).bind (fun n21 => if sv_cpo (0 : Int32) (V14.1 l0 9) n19 = true then if sv_cpo (0 : Int32) (V14.1 l0 9) n21 = true then sx_let (sv_C V14 b15 (0 : Int32).toNatClampNeg b17 (0 : Int32).toNatClampNeg (V14.1 l0 9).toNatClampNeg) (fun V25 => (cr l1 2).bind (fun b26 => (cr l0 2).bind (fun b28 => (sv_len 0 b26).bind (fun n30 => (sv_len 0 b28).bind (fun n32 => if sv_cpo (0 : Int32) (V25.1 l0 9) n30 = true then if sv_cpo (0 : Int32) (V25.1 l0 9) n32 = true then sx_let (sv_C V25 b26 (0 : Int32).toNatClampNeg b28 (0 : Int32).toNatClampNeg (V25.1 l0 9).toNatClampNeg) (fun V36 => (cr l1 3).bind (fun b37 => (cr l0 3).bind (fun b39 => (sv_len 0 b37).bind (fun n41 => (sv_len 0 b39).bind (fun n43 => if sv_cpo (0 : Int32) (V36.1 l0 9) n41 = true then if sv_cpo (0 : Int32) (V36.1 l0 9) n43 = true then sx_let (sv_C V36 b37 (0 : Int32).toNatClampNeg b39 (0 : Int32).toNatClampNeg (V36.1 l0 9).toNatClampNeg) (fun V47 => (cr l1 4).bind (fun b48 => (cr l0 4).bind (fun b50 => (sv_len 0 b48).bind (fun n52 => (sv_len 0 b50).bind (fun n54 => if sv_cpo (0 : Int32) (V47.1 l0 9) n52 = true then if sv_cpo (0 : Int32) (V47.1 l0 9) n54 = true then sx_let (sv_C V47 b48 (0 : Int32).toNatClampNeg b50 (0 : Int32).toNatClampNeg (V47.1 l0 9).toNatClampNeg) (fun V58 => some V58) else none else none))))) else none else none))))) else none else none))))) else none else none))))) else none else none))))) else none else none
set_option maxRecDepth 20000 in
theorem t_X8_copyFrom {g : sx_G} (hG : sx_Go g) {P : Option Value → sv_V → Prop} {Vr : sv_V} (hP : P none Vr) {l0 : Nat} {l1 : Nat} {V : sv_V} (h : F_X8_copyFrom l0 l1 V = some Vr) : sv_N g qX8_copyFrom 1 0 [(0, .ref l0), (1, .ref l1)] [] V P := by
  unfold F_X8_copyFrom at h
  refine sx_aload_n (pc := 0) dX8_copyFrom_0 sx_m0 ?_
  refine sx_aload_n (pc := 1) dX8_copyFrom_1 sx_m1 ?_
  obtain ⟨g1, h⟩ := sx_grd h
  refine sv_getI (pc := 2) hG dX8_copyFrom_2 f_8_43 g1 rfl ?_
  obtain ⟨g2, h⟩ := sx_grd h
  obtain ⟨V3, hV3⟩ : ∃ z : sv_V, z = sv_I V l0 9 (V.1 l1 9) := ⟨_, rfl⟩
  have h := sx_letE hV3 h
  refine sv_putI (pc := 5) hG dX8_copyFrom_5 f_8_43 g2 rfl hV3 ?_
  refine sx_aload_n (pc := 8) dX8_copyFrom_8 sx_m1 ?_
  obtain ⟨b4, g5, h⟩ := sx_bnd h
  refine sv_getA (pc := 9) hG dX8_copyFrom_9 f_8_21 g1 rfl g5 ?_
  refine sx_iconst (pc := 12) (v := 0) dX8_copyFrom_12 (by decide) ?_
  refine sx_aload_n (pc := 13) dX8_copyFrom_13 sx_m0 ?_
  obtain ⟨b6, g7, h⟩ := sx_bnd h
  refine sv_getA (pc := 14) hG dX8_copyFrom_14 f_8_21 g2 rfl g7 ?_
  refine sx_iconst (pc := 17) (v := 0) dX8_copyFrom_17 (by decide) ?_
  refine sx_aload_n (pc := 18) dX8_copyFrom_18 sx_m0 ?_
  refine sv_getI (pc := 19) hG dX8_copyFrom_19 f_8_43 g2 rfl ?_
  obtain ⟨n8, g9, h⟩ := sx_bnd h
  obtain ⟨n10, g11, h⟩ := sx_bnd h
  obtain ⟨g12, h⟩ := sx_grd h
  obtain ⟨g13, h⟩ := sx_grd h
  obtain ⟨V14, hV14⟩ : ∃ z : sv_V, z = sv_C V3 b4 (0 : Int32).toNatClampNeg b6 (0 : Int32).toNatClampNeg (V3.1 l0 9).toNatClampNeg := ⟨_, rfl⟩
  have h := sx_letE hV14 h
  refine sv_copyI (pc := 22) hG dX8_copyFrom_22 l_X8_55 (sv_len_e g9) (sv_len_e g11) g12 g13 (by decide) (Nat.le_of_ble_eq_true rfl) hV14 ?_
  refine sx_aload_n (pc := 25) dX8_copyFrom_25 sx_m1 ?_
  obtain ⟨b15, g16, h⟩ := sx_bnd h
  refine sv_getA (pc := 26) hG dX8_copyFrom_26 f_8_24 g1 rfl g16 ?_
  refine sx_iconst (pc := 29) (v := 0) dX8_copyFrom_29 (by decide) ?_
  refine sx_aload_n (pc := 30) dX8_copyFrom_30 sx_m0 ?_
  obtain ⟨b17, g18, h⟩ := sx_bnd h
  refine sv_getA (pc := 31) hG dX8_copyFrom_31 f_8_24 g2 rfl g18 ?_
  refine sx_iconst (pc := 34) (v := 0) dX8_copyFrom_34 (by decide) ?_
  refine sx_aload_n (pc := 35) dX8_copyFrom_35 sx_m0 ?_
  refine sv_getI (pc := 36) hG dX8_copyFrom_36 f_8_43 g2 rfl ?_
  obtain ⟨n19, g20, h⟩ := sx_bnd h
  obtain ⟨n21, g22, h⟩ := sx_bnd h
  obtain ⟨g23, h⟩ := sx_grd h
  obtain ⟨g24, h⟩ := sx_grd h
  obtain ⟨V25, hV25⟩ : ∃ z : sv_V, z = sv_C V14 b15 (0 : Int32).toNatClampNeg b17 (0 : Int32).toNatClampNeg (V14.1 l0 9).toNatClampNeg := ⟨_, rfl⟩
  have h := sx_letE hV25 h
  refine sv_copyI (pc := 39) hG dX8_copyFrom_39 l_X8_55 (sv_len_e g20) (sv_len_e g22) g23 g24 (by decide) (Nat.le_of_ble_eq_true rfl) hV25 ?_
  refine sx_aload_n (pc := 42) dX8_copyFrom_42 sx_m1 ?_
  obtain ⟨b26, g27, h⟩ := sx_bnd h
  refine sv_getA (pc := 43) hG dX8_copyFrom_43 f_8_27 g1 rfl g27 ?_
  refine sx_iconst (pc := 46) (v := 0) dX8_copyFrom_46 (by decide) ?_
  refine sx_aload_n (pc := 47) dX8_copyFrom_47 sx_m0 ?_
  obtain ⟨b28, g29, h⟩ := sx_bnd h
  refine sv_getA (pc := 48) hG dX8_copyFrom_48 f_8_27 g2 rfl g29 ?_
  refine sx_iconst (pc := 51) (v := 0) dX8_copyFrom_51 (by decide) ?_
  refine sx_aload_n (pc := 52) dX8_copyFrom_52 sx_m0 ?_
  refine sv_getI (pc := 53) hG dX8_copyFrom_53 f_8_43 g2 rfl ?_
  obtain ⟨n30, g31, h⟩ := sx_bnd h
  obtain ⟨n32, g33, h⟩ := sx_bnd h
  obtain ⟨g34, h⟩ := sx_grd h
  obtain ⟨g35, h⟩ := sx_grd h
  obtain ⟨V36, hV36⟩ : ∃ z : sv_V, z = sv_C V25 b26 (0 : Int32).toNatClampNeg b28 (0 : Int32).toNatClampNeg (V25.1 l0 9).toNatClampNeg := ⟨_, rfl⟩
  have h := sx_letE hV36 h
  refine sv_copyI (pc := 56) hG dX8_copyFrom_56 l_X8_55 (sv_len_e g31) (sv_len_e g33) g34 g35 (by decide) (Nat.le_of_ble_eq_true rfl) hV36 ?_
  refine sx_aload_n (pc := 59) dX8_copyFrom_59 sx_m1 ?_
  obtain ⟨b37, g38, h⟩ := sx_bnd h
  refine sv_getA (pc := 60) hG dX8_copyFrom_60 f_8_30 g1 rfl g38 ?_
  refine sx_iconst (pc := 63) (v := 0) dX8_copyFrom_63 (by decide) ?_
  refine sx_aload_n (pc := 64) dX8_copyFrom_64 sx_m0 ?_
  obtain ⟨b39, g40, h⟩ := sx_bnd h
  refine sv_getA (pc := 65) hG dX8_copyFrom_65 f_8_30 g2 rfl g40 ?_
  refine sx_iconst (pc := 68) (v := 0) dX8_copyFrom_68 (by decide) ?_
  refine sx_aload_n (pc := 69) dX8_copyFrom_69 sx_m0 ?_
  refine sv_getI (pc := 70) hG dX8_copyFrom_70 f_8_43 g2 rfl ?_
  obtain ⟨n41, g42, h⟩ := sx_bnd h
  obtain ⟨n43, g44, h⟩ := sx_bnd h
  obtain ⟨g45, h⟩ := sx_grd h
  obtain ⟨g46, h⟩ := sx_grd h
  obtain ⟨V47, hV47⟩ : ∃ z : sv_V, z = sv_C V36 b37 (0 : Int32).toNatClampNeg b39 (0 : Int32).toNatClampNeg (V36.1 l0 9).toNatClampNeg := ⟨_, rfl⟩
  have h := sx_letE hV47 h
  refine sv_copyI (pc := 73) hG dX8_copyFrom_73 l_X8_55 (sv_len_e g42) (sv_len_e g44) g45 g46 (by decide) (Nat.le_of_ble_eq_true rfl) hV47 ?_
  refine sx_aload_n (pc := 76) dX8_copyFrom_76 sx_m1 ?_
  obtain ⟨b48, g49, h⟩ := sx_bnd h
  refine sv_getA (pc := 77) hG dX8_copyFrom_77 f_8_33 g1 rfl g49 ?_
  refine sx_iconst (pc := 80) (v := 0) dX8_copyFrom_80 (by decide) ?_
  refine sx_aload_n (pc := 81) dX8_copyFrom_81 sx_m0 ?_
  obtain ⟨b50, g51, h⟩ := sx_bnd h
  refine sv_getA (pc := 82) hG dX8_copyFrom_82 f_8_33 g2 rfl g51 ?_
  refine sx_iconst (pc := 85) (v := 0) dX8_copyFrom_85 (by decide) ?_
  refine sx_aload_n (pc := 86) dX8_copyFrom_86 sx_m0 ?_
  refine sv_getI (pc := 87) hG dX8_copyFrom_87 f_8_43 g2 rfl ?_
  obtain ⟨n52, g53, h⟩ := sx_bnd h
  obtain ⟨n54, g55, h⟩ := sx_bnd h
  obtain ⟨g56, h⟩ := sx_grd h
  obtain ⟨g57, h⟩ := sx_grd h
  obtain ⟨V58, hV58⟩ : ∃ z : sv_V, z = sv_C V47 b48 (0 : Int32).toNatClampNeg b50 (0 : Int32).toNatClampNeg (V47.1 l0 9).toNatClampNeg := ⟨_, rfl⟩
  have h := sx_letE hV58 h
  refine sv_copyI (pc := 90) hG dX8_copyFrom_90 l_X8_55 (sv_len_e g53) (sv_len_e g55) g56 g57 (by decide) (Nat.le_of_ble_eq_true rfl) hV58 ?_
  exact sv_vret (pc := 93) dX8_copyFrom_93 rfl h hP
def ncX8_endProgram : Nat := 459196640403924614078209628056641269605537860620531031046264270544973284321821388496327329837423116900144097737262747040771
theorem kcX8_endProgram : CK cX8_endProgram ncX8_endProgram 51 := ⟨by decide +kernel, by decide +kernel⟩
theorem dX8_endProgram_0 : decode cX8_endProgram 0 = .ok (.iconst 0, 1) := dl_o3 kcX8_endProgram (by decide +kernel)
theorem dX8_endProgram_1 : decode cX8_endProgram 1 = .ok (.istore_n 1, 1) := dl_o60 kcX8_endProgram (by decide +kernel)
theorem dX8_endProgram_2 : decode cX8_endProgram 2 = .ok (.iload_n 1, 1) := dl_o27 kcX8_endProgram (by decide +kernel)
theorem dX8_endProgram_3 : decode cX8_endProgram 3 = .ok (.aload_n 0, 1) := dl_o42 kcX8_endProgram (by decide +kernel)
theorem dX8_endProgram_4 : decode cX8_endProgram 4 = .ok (.getfield 39, 3) := dl_o180 kcX8_endProgram (by decide +kernel)
theorem dX8_endProgram_7 : decode cX8_endProgram 7 = .ok (.if_icmp .ge 43, 3) := dl_o162 kcX8_endProgram 43 (by decide +kernel) (by decide +kernel)
theorem dX8_endProgram_10 : decode cX8_endProgram 10 = .ok (.aload_n 0, 1) := dl_o42 kcX8_endProgram (by decide +kernel)
theorem dX8_endProgram_11 : decode cX8_endProgram 11 = .ok (.getfield 15, 3) := dl_o180 kcX8_endProgram (by decide +kernel)
theorem dX8_endProgram_14 : decode cX8_endProgram 14 = .ok (.iload_n 1, 1) := dl_o27 kcX8_endProgram (by decide +kernel)
theorem dX8_endProgram_15 : decode cX8_endProgram 15 = .ok (.aload_n 0, 1) := dl_o42 kcX8_endProgram (by decide +kernel)
theorem dX8_endProgram_16 : decode cX8_endProgram 16 = .ok (.getfield 21, 3) := dl_o180 kcX8_endProgram (by decide +kernel)
theorem dX8_endProgram_19 : decode cX8_endProgram 19 = .ok (.aload_n 0, 1) := dl_o42 kcX8_endProgram (by decide +kernel)
theorem dX8_endProgram_20 : decode cX8_endProgram 20 = .ok (.getfield 43, 3) := dl_o180 kcX8_endProgram (by decide +kernel)
theorem dX8_endProgram_23 : decode cX8_endProgram 23 = .ok (.iload_n 1, 1) := dl_o27 kcX8_endProgram (by decide +kernel)
theorem dX8_endProgram_24 : decode cX8_endProgram 24 = .ok (.iadd, 1) := dl_o96 kcX8_endProgram (by decide +kernel)
theorem dX8_endProgram_25 : decode cX8_endProgram 25 = .ok (.iaload, 1) := dl_o46 kcX8_endProgram (by decide +kernel)
theorem dX8_endProgram_26 : decode cX8_endProgram 26 = .ok (.iastore, 1) := dl_o79 kcX8_endProgram (by decide +kernel)
theorem dX8_endProgram_27 : decode cX8_endProgram 27 = .ok (.aload_n 0, 1) := dl_o42 kcX8_endProgram (by decide +kernel)
theorem dX8_endProgram_28 : decode cX8_endProgram 28 = .ok (.getfield 18, 3) := dl_o180 kcX8_endProgram (by decide +kernel)
theorem dX8_endProgram_31 : decode cX8_endProgram 31 = .ok (.iload_n 1, 1) := dl_o27 kcX8_endProgram (by decide +kernel)
theorem dX8_endProgram_32 : decode cX8_endProgram 32 = .ok (.aload_n 0, 1) := dl_o42 kcX8_endProgram (by decide +kernel)
theorem dX8_endProgram_33 : decode cX8_endProgram 33 = .ok (.getfield 24, 3) := dl_o180 kcX8_endProgram (by decide +kernel)
theorem dX8_endProgram_36 : decode cX8_endProgram 36 = .ok (.aload_n 0, 1) := dl_o42 kcX8_endProgram (by decide +kernel)
theorem dX8_endProgram_37 : decode cX8_endProgram 37 = .ok (.getfield 43, 3) := dl_o180 kcX8_endProgram (by decide +kernel)
theorem dX8_endProgram_40 : decode cX8_endProgram 40 = .ok (.iload_n 1, 1) := dl_o27 kcX8_endProgram (by decide +kernel)
theorem dX8_endProgram_41 : decode cX8_endProgram 41 = .ok (.iadd, 1) := dl_o96 kcX8_endProgram (by decide +kernel)
theorem dX8_endProgram_42 : decode cX8_endProgram 42 = .ok (.iaload, 1) := dl_o46 kcX8_endProgram (by decide +kernel)
theorem dX8_endProgram_43 : decode cX8_endProgram 43 = .ok (.iastore, 1) := dl_o79 kcX8_endProgram (by decide +kernel)
theorem dX8_endProgram_44 : decode cX8_endProgram 44 = .ok (.iinc 1 1, 3) := by decide +kernel
theorem dX8_endProgram_47 : decode cX8_endProgram 47 = .ok (.goto (-45), 3) := dl_o167 kcX8_endProgram 65491 (by decide +kernel) (by decide +kernel)
theorem dX8_endProgram_50 : decode cX8_endProgram 50 = .ok (.return_, 1) := dl_o177 kcX8_endProgram (by decide +kernel)
def B_X8_endProgram_2 (N : Nat) (k2 : Nat → Int32 → sv_V → Option sv_V) (l0 : Nat) (l1 : Int32) (V : sv_V) : Option sv_V := if lay l0 = .inl 8 then if (V.1 l0 11) ≤ l1 then (some V) else ((cr l0 7).bind (fun b3 => (cr l0 0).bind (fun b5 => (sv_len 0 b5).bind (fun n7 => if sx_in ((V.1 l0 9) + l1) n7 = true then (sv_len 0 b3).bind (fun n10 => if sx_in l1 n10 = true then sx_let (sv_I V b3 l1.toNatClampNeg (V.1 b5 ((V.1 l0 9) + l1).toNatClampNeg)) (fun V13 => (cr l0 8).bind (fun b14 => (cr l0 1).bind (fun b16 => (sv_len 0 b16).bind (fun n18 => if sx_in ((V13.1 l0 9) + l1) n18 = true then (sv_len 0 b14).bind (fun n21 => if sx_in l1 n21 = true then sx_let (sv_I V13 b14 l1.toNatClampNeg (V13.1 b16 ((V13.1 l0 9) + l1).toNatClampNeg)) (fun V24 => sx_let (l1 + 1) (fun x25 => k2 l0 x25 V24)) else none) else none)))) else none) else none)))) else none
set_option maxRecDepth 20000 in
theorem tB_X8_endProgram_2 {g : sx_G} (hG : sx_Go g) {P : Option Value → sv_V → Prop} {Vr : sv_V} (hP : P none Vr) {N : Nat} {k2 : Nat → Int32 → sv_V → Option sv_V} (hk2 : ∀ (l0 : Nat) (l1 : Int32) (V : sv_V), k2 l0 l1 V = some Vr → sv_N g qX8_endProgram 0 2 [(0, .ref l0), (1, .int l1)] [] V P) {l0 : Nat} {l1 : Int32} {V : sv_V} (h : B_X8_endProgram_2 N k2 l0 l1 V = some Vr) : sv_N g qX8_endProgram 0 2 [(0, .ref l0), (1, .int l1)] [] V P := by
  unfold B_X8_endProgram_2 at h
  refine sx_iload_n (pc := 2) dX8_endProgram_2 sx_m1 ?_
  refine sx_aload_n (pc := 3) dX8_endProgram_3 sx_m0 ?_
  obtain ⟨g1, h⟩ := sx_grd h
  refine sv_getI (pc := 4) hG dX8_endProgram_4 f_8_39 g1 rfl ?_
  refine sx_icmp_ge (pc := 7) (tgt := 50) dX8_endProgram_7 (by decide) (fun c2 => ?_) (fun c2 => ?_)
  · have h := sx_pos c2 h
    exact sv_vret (pc := 50) dX8_endProgram_50 rfl h hP
  · have h := sx_neg c2 h
    refine sx_aload_n (pc := 10) dX8_endProgram_10 sx_m0 ?_
    obtain ⟨b3, g4, h⟩ := sx_bnd h
    refine sv_getA (pc := 11) hG dX8_endProgram_11 f_8_15 g1 rfl g4 ?_
    refine sx_iload_n (pc := 14) dX8_endProgram_14 sx_m1 ?_
    refine sx_aload_n (pc := 15) dX8_endProgram_15 sx_m0 ?_
    obtain ⟨b5, g6, h⟩ := sx_bnd h
    refine sv_getA (pc := 16) hG dX8_endProgram_16 f_8_21 g1 rfl g6 ?_
    refine sx_aload_n (pc := 19) dX8_endProgram_19 sx_m0 ?_
    refine sv_getI (pc := 20) hG dX8_endProgram_20 f_8_43 g1 rfl ?_
    refine sx_iload_n (pc := 23) dX8_endProgram_23 sx_m1 ?_
    refine sx_iadd (pc := 24) dX8_endProgram_24 ?_
    obtain ⟨n7, g8, h⟩ := sx_bnd h
    obtain ⟨g9, h⟩ := sx_grd h
    refine sv_iald (pc := 25) hG dX8_endProgram_25 (sv_len_e g8) g9 ?_
    obtain ⟨n10, g11, h⟩ := sx_bnd h
    obtain ⟨g12, h⟩ := sx_grd h
    obtain ⟨V13, hV13⟩ : ∃ z : sv_V, z = sv_I V b3 l1.toNatClampNeg (V.1 b5 ((V.1 l0 9) + l1).toNatClampNeg) := ⟨_, rfl⟩
    have h := sx_letE hV13 h
    refine sv_iast (pc := 26) hG dX8_endProgram_26 (sv_len_e g11) g12 hV13 ?_
    refine sx_aload_n (pc := 27) dX8_endProgram_27 sx_m0 ?_
    obtain ⟨b14, g15, h⟩ := sx_bnd h
    refine sv_getA (pc := 28) hG dX8_endProgram_28 f_8_18 g1 rfl g15 ?_
    refine sx_iload_n (pc := 31) dX8_endProgram_31 sx_m1 ?_
    refine sx_aload_n (pc := 32) dX8_endProgram_32 sx_m0 ?_
    obtain ⟨b16, g17, h⟩ := sx_bnd h
    refine sv_getA (pc := 33) hG dX8_endProgram_33 f_8_24 g1 rfl g17 ?_
    refine sx_aload_n (pc := 36) dX8_endProgram_36 sx_m0 ?_
    refine sv_getI (pc := 37) hG dX8_endProgram_37 f_8_43 g1 rfl ?_
    refine sx_iload_n (pc := 40) dX8_endProgram_40 sx_m1 ?_
    refine sx_iadd (pc := 41) dX8_endProgram_41 ?_
    obtain ⟨n18, g19, h⟩ := sx_bnd h
    obtain ⟨g20, h⟩ := sx_grd h
    refine sv_iald (pc := 42) hG dX8_endProgram_42 (sv_len_e g19) g20 ?_
    obtain ⟨n21, g22, h⟩ := sx_bnd h
    obtain ⟨g23, h⟩ := sx_grd h
    obtain ⟨V24, hV24⟩ : ∃ z : sv_V, z = sv_I V13 b14 l1.toNatClampNeg (V13.1 b16 ((V13.1 l0 9) + l1).toNatClampNeg) := ⟨_, rfl⟩
    have h := sx_letE hV24 h
    refine sv_iast (pc := 43) hG dX8_endProgram_43 (sv_len_e g22) g23 hV24 ?_
    obtain ⟨x25, hx25⟩ : ∃ z : Int32, z = l1 + 1 := ⟨_, rfl⟩
    have h := sx_letE hx25 h
    refine sx_iinc (pc := 44) (v := x25) (lo' := [(1, .int x25), (0, .ref l0)]) dX8_endProgram_44 sx_m1 (by rw [hx25]; rfl) (by decide) rfl ?_
    refine sx_goto (pc := 47) (tgt := 2) dX8_endProgram_47 (by decide) ?_
    refine sx_wk (sx_s1 sx_m1 (sx_s1 sx_m0 sx_s0)) ?_
    exact hk2 _ _ _ h
theorem tL_X8_endProgram_2 {g : sx_G} (hG : sx_Go g) {P : Option Value → sv_V → Prop} {Vr : sv_V} (hP : P none Vr) {N : Nat}   : ∀ (n : Nat) (l0 : Nat) (l1 : Int32) (V : sv_V), sx_lp3 (B_X8_endProgram_2 N ) n l0 l1 V = some Vr → sv_N g qX8_endProgram 0 2 [(0, .ref l0), (1, .int l1)] [] V P :=
  sx_lp3_ind (fun k0 ih _ _ V h => tB_X8_endProgram_2 hG hP ih h)
def F_X8_endProgram (N : Nat) (l0 : Nat) (V : sv_V) : Option sv_V := sx_lp3 (B_X8_endProgram_2 N ) N l0 (0 : Int32) V
set_option maxRecDepth 20000 in
theorem t_X8_endProgram {g : sx_G} (hG : sx_Go g) {P : Option Value → sv_V → Prop} {Vr : sv_V} (hP : P none Vr) {N : Nat} {l0 : Nat} {V : sv_V} (h : F_X8_endProgram N l0 V = some Vr) : sv_N g qX8_endProgram 0 0 [(0, .ref l0)] [] V P := by
  unfold F_X8_endProgram at h
  refine sx_iconst (pc := 0) (v := 0) dX8_endProgram_0 (by decide) ?_
  refine sx_istore_n (pc := 1) (lo' := [(1, .int (0 : Int32)), (0, .ref l0)]) dX8_endProgram_1 (by decide) rfl ?_
  refine sx_wk (sx_s1 sx_m1 (sx_s1 sx_m0 sx_s0)) ?_
  exact tL_X8_endProgram_2 hG hP  N _ _ _ h
def ncX8_shift : Nat := 379930338984566294443960971298041179399750373035750281450465832614947308173380995560531192539526683
theorem kcX8_shift : CK cX8_shift ncX8_shift 41 := ⟨by decide +kernel, by decide +kernel⟩
theorem dX8_shift_0 : decode cX8_shift 0 = .ok (.iload_n 1, 1) := dl_o27 kcX8_shift (by decide +kernel)
theorem dX8_shift_1 : decode cX8_shift 1 = .ok (.istore 4, 2) := dl_o54 kcX8_shift (by decide +kernel)
theorem dX8_shift_3 : decode cX8_shift 3 = .ok (.iload 4, 2) := dl_o21 kcX8_shift (by decide +kernel)
theorem dX8_shift_5 : decode cX8_shift 5 = .ok (.aload_n 0, 1) := dl_o42 kcX8_shift (by decide +kernel)
theorem dX8_shift_6 : decode cX8_shift 6 = .ok (.getfield 43, 3) := dl_o180 kcX8_shift (by decide +kernel)
theorem dX8_shift_9 : decode cX8_shift 9 = .ok (.if_icmp .ge 31, 3) := dl_o162 kcX8_shift 31 (by decide +kernel) (by decide +kernel)
theorem dX8_shift_12 : decode cX8_shift 12 = .ok (.aload_n 0, 1) := dl_o42 kcX8_shift (by decide +kernel)
theorem dX8_shift_13 : decode cX8_shift 13 = .ok (.getfield 21, 3) := dl_o180 kcX8_shift (by decide +kernel)
theorem dX8_shift_16 : decode cX8_shift 16 = .ok (.iload 4, 2) := dl_o21 kcX8_shift (by decide +kernel)
theorem dX8_shift_18 : decode cX8_shift 18 = .ok (.dup2, 1) := dl_o92 kcX8_shift (by decide +kernel)
theorem dX8_shift_19 : decode cX8_shift 19 = .ok (.iaload, 1) := dl_o46 kcX8_shift (by decide +kernel)
theorem dX8_shift_20 : decode cX8_shift 20 = .ok (.iload_n 2, 1) := dl_o28 kcX8_shift (by decide +kernel)
theorem dX8_shift_21 : decode cX8_shift 21 = .ok (.iadd, 1) := dl_o96 kcX8_shift (by decide +kernel)
theorem dX8_shift_22 : decode cX8_shift 22 = .ok (.iastore, 1) := dl_o79 kcX8_shift (by decide +kernel)
theorem dX8_shift_23 : decode cX8_shift 23 = .ok (.aload_n 0, 1) := dl_o42 kcX8_shift (by decide +kernel)
theorem dX8_shift_24 : decode cX8_shift 24 = .ok (.getfield 24, 3) := dl_o180 kcX8_shift (by decide +kernel)
theorem dX8_shift_27 : decode cX8_shift 27 = .ok (.iload 4, 2) := dl_o21 kcX8_shift (by decide +kernel)
theorem dX8_shift_29 : decode cX8_shift 29 = .ok (.dup2, 1) := dl_o92 kcX8_shift (by decide +kernel)
theorem dX8_shift_30 : decode cX8_shift 30 = .ok (.iaload, 1) := dl_o46 kcX8_shift (by decide +kernel)
theorem dX8_shift_31 : decode cX8_shift 31 = .ok (.iload_n 3, 1) := dl_o29 kcX8_shift (by decide +kernel)
theorem dX8_shift_32 : decode cX8_shift 32 = .ok (.iadd, 1) := dl_o96 kcX8_shift (by decide +kernel)
theorem dX8_shift_33 : decode cX8_shift 33 = .ok (.iastore, 1) := dl_o79 kcX8_shift (by decide +kernel)
theorem dX8_shift_34 : decode cX8_shift 34 = .ok (.iinc 4 1, 3) := by decide +kernel
theorem dX8_shift_37 : decode cX8_shift 37 = .ok (.goto (-34), 3) := dl_o167 kcX8_shift 65502 (by decide +kernel) (by decide +kernel)
theorem dX8_shift_40 : decode cX8_shift 40 = .ok (.return_, 1) := dl_o177 kcX8_shift (by decide +kernel)
def B_X8_shift_3 (N : Nat) (k3 : Nat → Int32 → Int32 → Int32 → sv_V → Option sv_V) (l0 : Nat) (l2 : Int32) (l3 : Int32) (l4 : Int32) (V : sv_V) : Option sv_V := if lay l0 = .inl 8 then if (V.1 l0 9) ≤ l4 then (some V) else ((cr l0 0).bind (fun b3 => (sv_len 0 b3).bind (fun n5 => if sx_in l4 n5 = true then if sx_in l4 n5 = true then sx_let (sv_I V b3 l4.toNatClampNeg ((V.1 b3 l4.toNatClampNeg) + l2)) (fun V9 => (cr l0 1).bind (fun b10 => (sv_len 0 b10).bind (fun n12 => if sx_in l4 n12 = true then if sx_in l4 n12 = true then sx_let (sv_I V9 b10 l4.toNatClampNeg ((V9.1 b10 l4.toNatClampNeg) + l3)) (fun V16 => sx_let (l4 + 1) (fun x17 => k3 l0 l2 l3 x17 V16)) else none else none))) else none else none))) else none
set_option maxRecDepth 20000 in
theorem tB_X8_shift_3 {g : sx_G} (hG : sx_Go g) {P : Option Value → sv_V → Prop} {Vr : sv_V} (hP : P none Vr) {N : Nat} {k3 : Nat → Int32 → Int32 → Int32 → sv_V → Option sv_V} (hk3 : ∀ (l0 : Nat) (l2 : Int32) (l3 : Int32) (l4 : Int32) (V : sv_V), k3 l0 l2 l3 l4 V = some Vr → sv_N g qX8_shift 0 3 [(0, .ref l0), (2, .int l2), (3, .int l3), (4, .int l4)] [] V P) {l0 : Nat} {l2 : Int32} {l3 : Int32} {l4 : Int32} {V : sv_V} (h : B_X8_shift_3 N k3 l0 l2 l3 l4 V = some Vr) : sv_N g qX8_shift 0 3 [(0, .ref l0), (2, .int l2), (3, .int l3), (4, .int l4)] [] V P := by
  unfold B_X8_shift_3 at h
  refine sx_iload (pc := 3) dX8_shift_3 sx_m3 ?_
  refine sx_aload_n (pc := 5) dX8_shift_5 sx_m0 ?_
  obtain ⟨g1, h⟩ := sx_grd h
  refine sv_getI (pc := 6) hG dX8_shift_6 f_8_43 g1 rfl ?_
  refine sx_icmp_ge (pc := 9) (tgt := 40) dX8_shift_9 (by decide) (fun c2 => ?_) (fun c2 => ?_)
  · have h := sx_pos c2 h
    exact sv_vret (pc := 40) dX8_shift_40 rfl h hP
  · have h := sx_neg c2 h
    refine sx_aload_n (pc := 12) dX8_shift_12 sx_m0 ?_
    obtain ⟨b3, g4, h⟩ := sx_bnd h
    refine sv_getA (pc := 13) hG dX8_shift_13 f_8_21 g1 rfl g4 ?_
    refine sx_iload (pc := 16) dX8_shift_16 sx_m3 ?_
    refine sx_dup2 (pc := 18) dX8_shift_18 rfl rfl ?_
    obtain ⟨n5, g6, h⟩ := sx_bnd h
    obtain ⟨g7, h⟩ := sx_grd h
    refine sv_iald (pc := 19) hG dX8_shift_19 (sv_len_e g6) g7 ?_
    refine sx_iload_n (pc := 20) dX8_shift_20 sx_m1 ?_
    refine sx_iadd (pc := 21) dX8_shift_21 ?_
    obtain ⟨g8, h⟩ := sx_grd h
    obtain ⟨V9, hV9⟩ : ∃ z : sv_V, z = sv_I V b3 l4.toNatClampNeg ((V.1 b3 l4.toNatClampNeg) + l2) := ⟨_, rfl⟩
    have h := sx_letE hV9 h
    refine sv_iast (pc := 22) hG dX8_shift_22 (sv_len_e g6) g8 hV9 ?_
    refine sx_aload_n (pc := 23) dX8_shift_23 sx_m0 ?_
    obtain ⟨b10, g11, h⟩ := sx_bnd h
    refine sv_getA (pc := 24) hG dX8_shift_24 f_8_24 g1 rfl g11 ?_
    refine sx_iload (pc := 27) dX8_shift_27 sx_m3 ?_
    refine sx_dup2 (pc := 29) dX8_shift_29 rfl rfl ?_
    obtain ⟨n12, g13, h⟩ := sx_bnd h
    obtain ⟨g14, h⟩ := sx_grd h
    refine sv_iald (pc := 30) hG dX8_shift_30 (sv_len_e g13) g14 ?_
    refine sx_iload_n (pc := 31) dX8_shift_31 sx_m2 ?_
    refine sx_iadd (pc := 32) dX8_shift_32 ?_
    obtain ⟨g15, h⟩ := sx_grd h
    obtain ⟨V16, hV16⟩ : ∃ z : sv_V, z = sv_I V9 b10 l4.toNatClampNeg ((V9.1 b10 l4.toNatClampNeg) + l3) := ⟨_, rfl⟩
    have h := sx_letE hV16 h
    refine sv_iast (pc := 33) hG dX8_shift_33 (sv_len_e g13) g15 hV16 ?_
    obtain ⟨x17, hx17⟩ : ∃ z : Int32, z = l4 + 1 := ⟨_, rfl⟩
    have h := sx_letE hx17 h
    refine sx_iinc (pc := 34) (v := x17) (lo' := [(4, .int x17), (0, .ref l0), (2, .int l2), (3, .int l3)]) dX8_shift_34 sx_m3 (by rw [hx17]; rfl) (by decide) rfl ?_
    refine sx_goto (pc := 37) (tgt := 3) dX8_shift_37 (by decide) ?_
    refine sx_wk (sx_s1 sx_m1 (sx_s1 sx_m2 (sx_s1 sx_m3 (sx_s1 sx_m0 sx_s0)))) ?_
    exact hk3 _ _ _ _ _ h
theorem tL_X8_shift_3 {g : sx_G} (hG : sx_Go g) {P : Option Value → sv_V → Prop} {Vr : sv_V} (hP : P none Vr) {N : Nat}   : ∀ (n : Nat) (l0 : Nat) (l2 : Int32) (l3 : Int32) (l4 : Int32) (V : sv_V), sx_lp5 (B_X8_shift_3 N ) n l0 l2 l3 l4 V = some Vr → sv_N g qX8_shift 0 3 [(0, .ref l0), (2, .int l2), (3, .int l3), (4, .int l4)] [] V P :=
  sx_lp5_ind (fun k0 ih _ _ _ _ V h => tB_X8_shift_3 hG hP ih h)
def F_X8_shift (N : Nat) (l0 : Nat) (l1 : Int32) (l2 : Int32) (l3 : Int32) (V : sv_V) : Option sv_V := sx_lp5 (B_X8_shift_3 N ) N l0 l2 l3 l1 V
set_option maxRecDepth 20000 in
theorem t_X8_shift {g : sx_G} (hG : sx_Go g) {P : Option Value → sv_V → Prop} {Vr : sv_V} (hP : P none Vr) {N : Nat} {l0 : Nat} {l1 : Int32} {l2 : Int32} {l3 : Int32} {V : sv_V} (h : F_X8_shift N l0 l1 l2 l3 V = some Vr) : sv_N g qX8_shift 0 0 [(0, .ref l0), (1, .int l1), (2, .int l2), (3, .int l3)] [] V P := by
  unfold F_X8_shift at h
  refine sx_iload_n (pc := 0) dX8_shift_0 sx_m1 ?_
  refine sx_istore (pc := 1) (lo' := [(4, .int l1), (0, .ref l0), (1, .int l1), (2, .int l2), (3, .int l3)]) dX8_shift_1 (by decide) rfl ?_
  refine sx_wk (sx_s1 sx_m1 (sx_s1 sx_m3 (sx_s1 sx_m4 (sx_s1 sx_m0 sx_s0)))) ?_
  exact tL_X8_shift_3 hG hP  N _ _ _ _ _ h
def ncX9_useWayForP : Nat := 20520530564766270365626155547422247670007166236521984040950237972791227896310314
theorem kcX9_useWayForP : CK cX9_useWayForP ncX9_useWayForP 33 := ⟨by decide +kernel, by decide +kernel⟩
theorem dX9_useWayForP_0 : decode cX9_useWayForP 0 = .ok (.aload_n 0, 1) := dl_o42 kcX9_useWayForP (by decide +kernel)
theorem dX9_useWayForP_1 : decode cX9_useWayForP 1 = .ok (.aload_n 0, 1) := dl_o42 kcX9_useWayForP (by decide +kernel)
theorem dX9_useWayForP_2 : decode cX9_useWayForP 2 = .ok (.getfield 35, 3) := dl_o180 kcX9_useWayForP (by decide +kernel)
theorem dX9_useWayForP_5 : decode cX9_useWayForP 5 = .ok (.putfield 47, 3) := dl_o181 kcX9_useWayForP (by decide +kernel)
theorem dX9_useWayForP_8 : decode cX9_useWayForP 8 = .ok (.aload_n 0, 1) := dl_o42 kcX9_useWayForP (by decide +kernel)
theorem dX9_useWayForP_9 : decode cX9_useWayForP 9 = .ok (.aload_n 0, 1) := dl_o42 kcX9_useWayForP (by decide +kernel)
theorem dX9_useWayForP_10 : decode cX9_useWayForP 10 = .ok (.getfield 38, 3) := dl_o180 kcX9_useWayForP (by decide +kernel)
theorem dX9_useWayForP_13 : decode cX9_useWayForP 13 = .ok (.putfield 50, 3) := dl_o181 kcX9_useWayForP (by decide +kernel)
theorem dX9_useWayForP_16 : decode cX9_useWayForP 16 = .ok (.aload_n 0, 1) := dl_o42 kcX9_useWayForP (by decide +kernel)
theorem dX9_useWayForP_17 : decode cX9_useWayForP 17 = .ok (.aload_n 0, 1) := dl_o42 kcX9_useWayForP (by decide +kernel)
theorem dX9_useWayForP_18 : decode cX9_useWayForP 18 = .ok (.getfield 35, 3) := dl_o180 kcX9_useWayForP (by decide +kernel)
theorem dX9_useWayForP_21 : decode cX9_useWayForP 21 = .ok (.putfield 53, 3) := dl_o181 kcX9_useWayForP (by decide +kernel)
theorem dX9_useWayForP_24 : decode cX9_useWayForP 24 = .ok (.aload_n 0, 1) := dl_o42 kcX9_useWayForP (by decide +kernel)
theorem dX9_useWayForP_25 : decode cX9_useWayForP 25 = .ok (.aload_n 0, 1) := dl_o42 kcX9_useWayForP (by decide +kernel)
theorem dX9_useWayForP_26 : decode cX9_useWayForP 26 = .ok (.getfield 38, 3) := dl_o180 kcX9_useWayForP (by decide +kernel)
theorem dX9_useWayForP_29 : decode cX9_useWayForP 29 = .ok (.putfield 56, 3) := dl_o181 kcX9_useWayForP (by decide +kernel)
theorem dX9_useWayForP_32 : decode cX9_useWayForP 32 = .ok (.return_, 1) := dl_o177 kcX9_useWayForP (by decide +kernel)
def F_X9_useWayForP  (V : sv_V) : Option sv_V := sx_let (sv_I V 70 2 (V.1 70 12)) (fun V1 => sx_let (sv_I V1 70 3 (V1.1 70 13)) (fun V2 => sx_let (sv_I V2 70 4 (V2.1 70 12)) (fun V3 => sx_let (sv_I V3 70 5 (V3.1 70 13)) (fun V4 => some V4))))
set_option maxRecDepth 20000 in
theorem t_X9_useWayForP {g : sx_G} (hG : sx_Go g) {P : Option Value → sv_V → Prop} {Vr : sv_V} (hP : P none Vr)  {V : sv_V} (h : F_X9_useWayForP  V = some Vr) : sv_N g qX9_useWayForP 0 0 [(0, .ref 70)] [] V P := by
  unfold F_X9_useWayForP at h
  refine sx_aload_n (pc := 0) dX9_useWayForP_0 sx_m0 ?_
  refine sx_aload_n (pc := 1) dX9_useWayForP_1 sx_m0 ?_
  refine sv_getI (pc := 2) hG dX9_useWayForP_2 f_9_35 lay_70 rfl ?_
  obtain ⟨V1, hV1⟩ : ∃ z : sv_V, z = sv_I V 70 2 (V.1 70 12) := ⟨_, rfl⟩
  have h := sx_letE hV1 h
  refine sv_putI (pc := 5) hG dX9_useWayForP_5 f_9_47 lay_70 rfl hV1 ?_
  refine sx_aload_n (pc := 8) dX9_useWayForP_8 sx_m0 ?_
  refine sx_aload_n (pc := 9) dX9_useWayForP_9 sx_m0 ?_
  refine sv_getI (pc := 10) hG dX9_useWayForP_10 f_9_38 lay_70 rfl ?_
  obtain ⟨V2, hV2⟩ : ∃ z : sv_V, z = sv_I V1 70 3 (V1.1 70 13) := ⟨_, rfl⟩
  have h := sx_letE hV2 h
  refine sv_putI (pc := 13) hG dX9_useWayForP_13 f_9_50 lay_70 rfl hV2 ?_
  refine sx_aload_n (pc := 16) dX9_useWayForP_16 sx_m0 ?_
  refine sx_aload_n (pc := 17) dX9_useWayForP_17 sx_m0 ?_
  refine sv_getI (pc := 18) hG dX9_useWayForP_18 f_9_35 lay_70 rfl ?_
  obtain ⟨V3, hV3⟩ : ∃ z : sv_V, z = sv_I V2 70 4 (V2.1 70 12) := ⟨_, rfl⟩
  have h := sx_letE hV3 h
  refine sv_putI (pc := 21) hG dX9_useWayForP_21 f_9_53 lay_70 rfl hV3 ?_
  refine sx_aload_n (pc := 24) dX9_useWayForP_24 sx_m0 ?_
  refine sx_aload_n (pc := 25) dX9_useWayForP_25 sx_m0 ?_
  refine sv_getI (pc := 26) hG dX9_useWayForP_26 f_9_38 lay_70 rfl ?_
  obtain ⟨V4, hV4⟩ : ∃ z : sv_V, z = sv_I V3 70 5 (V3.1 70 13) := ⟨_, rfl⟩
  have h := sx_letE hV4 h
  refine sv_putI (pc := 29) hG dX9_useWayForP_29 f_9_56 lay_70 rfl hV4 ?_
  exact sv_vret (pc := 32) dX9_useWayForP_32 rfl h hP
def ncX9_useWayForF : Nat := 60312394754871799059397670878250032966186
theorem kcX9_useWayForF : CK cX9_useWayForF ncX9_useWayForF 17 := ⟨by decide +kernel, by decide +kernel⟩
theorem dX9_useWayForF_0 : decode cX9_useWayForF 0 = .ok (.aload_n 0, 1) := dl_o42 kcX9_useWayForF (by decide +kernel)
theorem dX9_useWayForF_1 : decode cX9_useWayForF 1 = .ok (.aload_n 0, 1) := dl_o42 kcX9_useWayForF (by decide +kernel)
theorem dX9_useWayForF_2 : decode cX9_useWayForF 2 = .ok (.getfield 35, 3) := dl_o180 kcX9_useWayForF (by decide +kernel)
theorem dX9_useWayForF_5 : decode cX9_useWayForF 5 = .ok (.putfield 59, 3) := dl_o181 kcX9_useWayForF (by decide +kernel)
theorem dX9_useWayForF_8 : decode cX9_useWayForF 8 = .ok (.aload_n 0, 1) := dl_o42 kcX9_useWayForF (by decide +kernel)
theorem dX9_useWayForF_9 : decode cX9_useWayForF 9 = .ok (.aload_n 0, 1) := dl_o42 kcX9_useWayForF (by decide +kernel)
theorem dX9_useWayForF_10 : decode cX9_useWayForF 10 = .ok (.getfield 38, 3) := dl_o180 kcX9_useWayForF (by decide +kernel)
theorem dX9_useWayForF_13 : decode cX9_useWayForF 13 = .ok (.putfield 62, 3) := dl_o181 kcX9_useWayForF (by decide +kernel)
theorem dX9_useWayForF_16 : decode cX9_useWayForF 16 = .ok (.return_, 1) := dl_o177 kcX9_useWayForF (by decide +kernel)
def F_X9_useWayForF  (V : sv_V) : Option sv_V := sx_let (sv_I V 70 0 (V.1 70 12)) (fun V1 => sx_let (sv_I V1 70 1 (V1.1 70 13)) (fun V2 => some V2))
set_option maxRecDepth 20000 in
theorem t_X9_useWayForF {g : sx_G} (hG : sx_Go g) {P : Option Value → sv_V → Prop} {Vr : sv_V} (hP : P none Vr)  {V : sv_V} (h : F_X9_useWayForF  V = some Vr) : sv_N g qX9_useWayForF 0 0 [(0, .ref 70)] [] V P := by
  unfold F_X9_useWayForF at h
  refine sx_aload_n (pc := 0) dX9_useWayForF_0 sx_m0 ?_
  refine sx_aload_n (pc := 1) dX9_useWayForF_1 sx_m0 ?_
  refine sv_getI (pc := 2) hG dX9_useWayForF_2 f_9_35 lay_70 rfl ?_
  obtain ⟨V1, hV1⟩ : ∃ z : sv_V, z = sv_I V 70 0 (V.1 70 12) := ⟨_, rfl⟩
  have h := sx_letE hV1 h
  refine sv_putI (pc := 5) hG dX9_useWayForF_5 f_9_59 lay_70 rfl hV1 ?_
  refine sx_aload_n (pc := 8) dX9_useWayForF_8 sx_m0 ?_
  refine sx_aload_n (pc := 9) dX9_useWayForF_9 sx_m0 ?_
  refine sv_getI (pc := 10) hG dX9_useWayForF_10 f_9_38 lay_70 rfl ?_
  obtain ⟨V2, hV2⟩ : ∃ z : sv_V, z = sv_I V1 70 1 (V1.1 70 13) := ⟨_, rfl⟩
  have h := sx_letE hV2 h
  refine sv_putI (pc := 13) hG dX9_useWayForF_13 f_9_62 lay_70 rfl hV2 ?_
  exact sv_vret (pc := 16) dX9_useWayForF_16 rfl h hP
def ncX9_turnWayLeft : Nat := 1011338856380580114453251231308320387857041634346
theorem kcX9_turnWayLeft : CK cX9_turnWayLeft ncX9_turnWayLeft 20 := ⟨by decide +kernel, by decide +kernel⟩
theorem dX9_turnWayLeft_0 : decode cX9_turnWayLeft 0 = .ok (.aload_n 0, 1) := dl_o42 kcX9_turnWayLeft (by decide +kernel)
theorem dX9_turnWayLeft_1 : decode cX9_turnWayLeft 1 = .ok (.getfield 35, 3) := dl_o180 kcX9_turnWayLeft (by decide +kernel)
theorem dX9_turnWayLeft_4 : decode cX9_turnWayLeft 4 = .ok (.istore_n 1, 1) := dl_o60 kcX9_turnWayLeft (by decide +kernel)
theorem dX9_turnWayLeft_5 : decode cX9_turnWayLeft 5 = .ok (.aload_n 0, 1) := dl_o42 kcX9_turnWayLeft (by decide +kernel)
theorem dX9_turnWayLeft_6 : decode cX9_turnWayLeft 6 = .ok (.aload_n 0, 1) := dl_o42 kcX9_turnWayLeft (by decide +kernel)
theorem dX9_turnWayLeft_7 : decode cX9_turnWayLeft 7 = .ok (.getfield 38, 3) := dl_o180 kcX9_turnWayLeft (by decide +kernel)
theorem dX9_turnWayLeft_10 : decode cX9_turnWayLeft 10 = .ok (.ineg, 1) := dl_o116 kcX9_turnWayLeft (by decide +kernel)
theorem dX9_turnWayLeft_11 : decode cX9_turnWayLeft 11 = .ok (.putfield 35, 3) := dl_o181 kcX9_turnWayLeft (by decide +kernel)
theorem dX9_turnWayLeft_14 : decode cX9_turnWayLeft 14 = .ok (.aload_n 0, 1) := dl_o42 kcX9_turnWayLeft (by decide +kernel)
theorem dX9_turnWayLeft_15 : decode cX9_turnWayLeft 15 = .ok (.iload_n 1, 1) := dl_o27 kcX9_turnWayLeft (by decide +kernel)
theorem dX9_turnWayLeft_16 : decode cX9_turnWayLeft 16 = .ok (.putfield 38, 3) := dl_o181 kcX9_turnWayLeft (by decide +kernel)
theorem dX9_turnWayLeft_19 : decode cX9_turnWayLeft 19 = .ok (.return_, 1) := dl_o177 kcX9_turnWayLeft (by decide +kernel)
def F_X9_turnWayLeft  (V : sv_V) : Option sv_V := sx_let (V.1 70 12) (fun x1 => sx_let (sv_I V 70 12 (-(V.1 70 13))) (fun V2 => sx_let (sv_I V2 70 13 x1) (fun V3 => some V3)))
set_option maxRecDepth 20000 in
theorem t_X9_turnWayLeft {g : sx_G} (hG : sx_Go g) {P : Option Value → sv_V → Prop} {Vr : sv_V} (hP : P none Vr)  {V : sv_V} (h : F_X9_turnWayLeft  V = some Vr) : sv_N g qX9_turnWayLeft 0 0 [(0, .ref 70)] [] V P := by
  unfold F_X9_turnWayLeft at h
  refine sx_aload_n (pc := 0) dX9_turnWayLeft_0 sx_m0 ?_
  refine sv_getI (pc := 1) hG dX9_turnWayLeft_1 f_9_35 lay_70 rfl ?_
  refine sv_tI (fun x1 hx1 => ?_)
  have h := sx_letE hx1 h
  refine sx_istore_n (pc := 4) (lo' := [(1, .int x1), (0, .ref 70)]) dX9_turnWayLeft_4 (by decide) rfl ?_
  refine sx_aload_n (pc := 5) dX9_turnWayLeft_5 sx_m1 ?_
  refine sx_aload_n (pc := 6) dX9_turnWayLeft_6 sx_m1 ?_
  refine sv_getI (pc := 7) hG dX9_turnWayLeft_7 f_9_38 lay_70 rfl ?_
  refine sx_ineg (pc := 10) dX9_turnWayLeft_10 ?_
  obtain ⟨V2, hV2⟩ : ∃ z : sv_V, z = sv_I V 70 12 (-(V.1 70 13)) := ⟨_, rfl⟩
  have h := sx_letE hV2 h
  refine sv_putI (pc := 11) hG dX9_turnWayLeft_11 f_9_35 lay_70 rfl hV2 ?_
  refine sx_aload_n (pc := 14) dX9_turnWayLeft_14 sx_m1 ?_
  refine sx_iload_n (pc := 15) dX9_turnWayLeft_15 sx_m0 ?_
  obtain ⟨V3, hV3⟩ : ∃ z : sv_V, z = sv_I V2 70 13 x1 := ⟨_, rfl⟩
  have h := sx_letE hV3 h
  refine sv_putI (pc := 16) hG dX9_turnWayLeft_16 f_9_38 lay_70 rfl hV3 ?_
  exact sv_vret (pc := 19) dX9_turnWayLeft_19 rfl h hP
def ncX9_shareOf : Nat := 322867814971642612162199669131824664676886120454268439230240339740499410085667921652014921221550648752300686893759186164538929459048651154555859537155068120258205239362612159459082110382736882480562494883488737894585936534270531275518516504502820768177651732
theorem kcX9_shareOf : CK cX9_shareOf ncX9_shareOf 107 := ⟨by decide +kernel, by decide +kernel⟩
theorem dX9_shareOf_0 : decode cX9_shareOf 0 = .ok (.ldc2_w 75, 3) := dl_o20 kcX9_shareOf (by decide +kernel)
theorem dX9_shareOf_3 : decode cX9_shareOf 3 = .ok (.lload_n 0, 1) := dl_o30 kcX9_shareOf (by decide +kernel)
theorem dX9_shareOf_4 : decode cX9_shareOf 4 = .ok (.lmul, 1) := dl_o105 kcX9_shareOf (by decide +kernel)
theorem dX9_shareOf_5 : decode cX9_shareOf 5 = .ok (.ldc2_w 75, 3) := dl_o20 kcX9_shareOf (by decide +kernel)
theorem dX9_shareOf_8 : decode cX9_shareOf 8 = .ok (.lload_n 0, 1) := dl_o30 kcX9_shareOf (by decide +kernel)
theorem dX9_shareOf_9 : decode cX9_shareOf 9 = .ok (.lmul, 1) := dl_o105 kcX9_shareOf (by decide +kernel)
theorem dX9_shareOf_10 : decode cX9_shareOf 10 = .ok (.lmul, 1) := dl_o105 kcX9_shareOf (by decide +kernel)
theorem dX9_shareOf_11 : decode cX9_shareOf 11 = .ok (.lstore 4, 2) := dl_o55 kcX9_shareOf (by decide +kernel)
theorem dX9_shareOf_13 : decode cX9_shareOf 13 = .ok (.iconst 0, 1) := dl_o3 kcX9_shareOf (by decide +kernel)
theorem dX9_shareOf_14 : decode cX9_shareOf 14 = .ok (.istore 6, 2) := dl_o54 kcX9_shareOf (by decide +kernel)
theorem dX9_shareOf_16 : decode cX9_shareOf 16 = .ok (.sipush 16384, 3) := dl_o17 kcX9_shareOf 16384 (by decide +kernel) (by decide +kernel)
theorem dX9_shareOf_19 : decode cX9_shareOf 19 = .ok (.istore 7, 2) := dl_o54 kcX9_shareOf (by decide +kernel)
theorem dX9_shareOf_21 : decode cX9_shareOf 21 = .ok (.iconst 0, 1) := dl_o3 kcX9_shareOf (by decide +kernel)
theorem dX9_shareOf_22 : decode cX9_shareOf 22 = .ok (.istore 8, 2) := dl_o54 kcX9_shareOf (by decide +kernel)
theorem dX9_shareOf_24 : decode cX9_shareOf 24 = .ok (.iload 8, 2) := dl_o21 kcX9_shareOf (by decide +kernel)
theorem dX9_shareOf_26 : decode cX9_shareOf 26 = .ok (.bipush 20, 2) := dl_o16 kcX9_shareOf 20 (by decide +kernel) (by decide +kernel)
theorem dX9_shareOf_28 : decode cX9_shareOf 28 = .ok (.if_icmp .ge 64, 3) := dl_o162 kcX9_shareOf 64 (by decide +kernel) (by decide +kernel)
theorem dX9_shareOf_31 : decode cX9_shareOf 31 = .ok (.iload 6, 2) := dl_o21 kcX9_shareOf (by decide +kernel)
theorem dX9_shareOf_33 : decode cX9_shareOf 33 = .ok (.iload 7, 2) := dl_o21 kcX9_shareOf (by decide +kernel)
theorem dX9_shareOf_35 : decode cX9_shareOf 35 = .ok (.if_icmp .ge 57, 3) := dl_o162 kcX9_shareOf 57 (by decide +kernel) (by decide +kernel)
theorem dX9_shareOf_38 : decode cX9_shareOf 38 = .ok (.iload 6, 2) := dl_o21 kcX9_shareOf (by decide +kernel)
theorem dX9_shareOf_40 : decode cX9_shareOf 40 = .ok (.iload 7, 2) := dl_o21 kcX9_shareOf (by decide +kernel)
theorem dX9_shareOf_42 : decode cX9_shareOf 42 = .ok (.iadd, 1) := dl_o96 kcX9_shareOf (by decide +kernel)
theorem dX9_shareOf_43 : decode cX9_shareOf 43 = .ok (.iconst 1, 1) := dl_o4 kcX9_shareOf (by decide +kernel)
theorem dX9_shareOf_44 : decode cX9_shareOf 44 = .ok (.iadd, 1) := dl_o96 kcX9_shareOf (by decide +kernel)
theorem dX9_shareOf_45 : decode cX9_shareOf 45 = .ok (.iconst 2, 1) := dl_o5 kcX9_shareOf (by decide +kernel)
theorem dX9_shareOf_46 : decode cX9_shareOf 46 = .ok (.idiv, 1) := dl_o108 kcX9_shareOf (by decide +kernel)
theorem dX9_shareOf_47 : decode cX9_shareOf 47 = .ok (.istore 9, 2) := dl_o54 kcX9_shareOf (by decide +kernel)
theorem dX9_shareOf_49 : decode cX9_shareOf 49 = .ok (.ldc2_w 69, 3) := dl_o20 kcX9_shareOf (by decide +kernel)
theorem dX9_shareOf_52 : decode cX9_shareOf 52 = .ok (.iload 9, 2) := dl_o21 kcX9_shareOf (by decide +kernel)
theorem dX9_shareOf_54 : decode cX9_shareOf 54 = .ok (.i2l, 1) := dl_o133 kcX9_shareOf (by decide +kernel)
theorem dX9_shareOf_55 : decode cX9_shareOf 55 = .ok (.lmul, 1) := dl_o105 kcX9_shareOf (by decide +kernel)
theorem dX9_shareOf_56 : decode cX9_shareOf 56 = .ok (.lconst 1, 1) := dl_o10 kcX9_shareOf (by decide +kernel)
theorem dX9_shareOf_57 : decode cX9_shareOf 57 = .ok (.lsub, 1) := dl_o101 kcX9_shareOf (by decide +kernel)
theorem dX9_shareOf_58 : decode cX9_shareOf 58 = .ok (.lstore 10, 2) := dl_o55 kcX9_shareOf (by decide +kernel)
theorem dX9_shareOf_60 : decode cX9_shareOf 60 = .ok (.lload 10, 2) := dl_o22 kcX9_shareOf (by decide +kernel)
theorem dX9_shareOf_62 : decode cX9_shareOf 62 = .ok (.lload 10, 2) := dl_o22 kcX9_shareOf (by decide +kernel)
theorem dX9_shareOf_64 : decode cX9_shareOf 64 = .ok (.lmul, 1) := dl_o105 kcX9_shareOf (by decide +kernel)
theorem dX9_shareOf_65 : decode cX9_shareOf 65 = .ok (.lload_n 2, 1) := dl_o32 kcX9_shareOf (by decide +kernel)
theorem dX9_shareOf_66 : decode cX9_shareOf 66 = .ok (.lmul, 1) := dl_o105 kcX9_shareOf (by decide +kernel)
theorem dX9_shareOf_67 : decode cX9_shareOf 67 = .ok (.lload 4, 2) := dl_o22 kcX9_shareOf (by decide +kernel)
theorem dX9_shareOf_69 : decode cX9_shareOf 69 = .ok (.lcmp, 1) := dl_o148 kcX9_shareOf (by decide +kernel)
theorem dX9_shareOf_70 : decode cX9_shareOf 70 = .ok (.ifCond .gt 10, 3) := dl_o157 kcX9_shareOf 10 (by decide +kernel) (by decide +kernel)
theorem dX9_shareOf_73 : decode cX9_shareOf 73 = .ok (.iload 9, 2) := dl_o21 kcX9_shareOf (by decide +kernel)
theorem dX9_shareOf_75 : decode cX9_shareOf 75 = .ok (.istore 6, 2) := dl_o54 kcX9_shareOf (by decide +kernel)
theorem dX9_shareOf_77 : decode cX9_shareOf 77 = .ok (.goto 9, 3) := dl_o167 kcX9_shareOf 9 (by decide +kernel) (by decide +kernel)
theorem dX9_shareOf_80 : decode cX9_shareOf 80 = .ok (.iload 9, 2) := dl_o21 kcX9_shareOf (by decide +kernel)
theorem dX9_shareOf_82 : decode cX9_shareOf 82 = .ok (.iconst 1, 1) := dl_o4 kcX9_shareOf (by decide +kernel)
theorem dX9_shareOf_83 : decode cX9_shareOf 83 = .ok (.isub, 1) := dl_o100 kcX9_shareOf (by decide +kernel)
theorem dX9_shareOf_84 : decode cX9_shareOf 84 = .ok (.istore 7, 2) := dl_o54 kcX9_shareOf (by decide +kernel)
theorem dX9_shareOf_86 : decode cX9_shareOf 86 = .ok (.iinc 8 1, 3) := by decide +kernel
theorem dX9_shareOf_89 : decode cX9_shareOf 89 = .ok (.goto (-65), 3) := dl_o167 kcX9_shareOf 65471 (by decide +kernel) (by decide +kernel)
theorem dX9_shareOf_92 : decode cX9_shareOf 92 = .ok (.lload_n 0, 1) := dl_o30 kcX9_shareOf (by decide +kernel)
theorem dX9_shareOf_93 : decode cX9_shareOf 93 = .ok (.lconst 0, 1) := dl_o9 kcX9_shareOf (by decide +kernel)
theorem dX9_shareOf_94 : decode cX9_shareOf 94 = .ok (.lcmp, 1) := dl_o148 kcX9_shareOf (by decide +kernel)
theorem dX9_shareOf_95 : decode cX9_shareOf 95 = .ok (.ifCond .ge 9, 3) := dl_o156 kcX9_shareOf 9 (by decide +kernel) (by decide +kernel)
theorem dX9_shareOf_98 : decode cX9_shareOf 98 = .ok (.iload 6, 2) := dl_o21 kcX9_shareOf (by decide +kernel)
theorem dX9_shareOf_100 : decode cX9_shareOf 100 = .ok (.ineg, 1) := dl_o116 kcX9_shareOf (by decide +kernel)
theorem dX9_shareOf_101 : decode cX9_shareOf 101 = .ok (.goto 5, 3) := dl_o167 kcX9_shareOf 5 (by decide +kernel) (by decide +kernel)
theorem dX9_shareOf_104 : decode cX9_shareOf 104 = .ok (.iload 6, 2) := dl_o21 kcX9_shareOf (by decide +kernel)
theorem dX9_shareOf_106 : decode cX9_shareOf 106 = .ok (.ireturn, 1) := dl_o172 kcX9_shareOf (by decide +kernel)
def B_X9_shareOf_86 (N : Nat) (k24 : Int64 → Int64 → Int64 → Int32 → Int32 → Int32 → sv_V → Option (Int32 × sv_V)) (l0 : Int64) (l2 : Int64) (l4 : Int64) (l6 : Int32) (l7 : Int32) (l8 : Int32) (V : sv_V) : Option (Int32 × sv_V) := sx_let (l8 + 1) (fun x1 => k24 l0 l2 l4 l6 l7 x1 V)
set_option maxRecDepth 20000 in
theorem tB_X9_shareOf_86 {g : sx_G} (hG : sx_Go g) {P : Option Value → sv_V → Prop} {r : Int32} {Vr : sv_V} (hP : P (some (.int r)) Vr) {N : Nat} {k24 : Int64 → Int64 → Int64 → Int32 → Int32 → Int32 → sv_V → Option (Int32 × sv_V)} (hk24 : ∀ (l0 : Int64) (l2 : Int64) (l4 : Int64) (l6 : Int32) (l7 : Int32) (l8 : Int32) (V : sv_V), k24 l0 l2 l4 l6 l7 l8 V = some (r, Vr) → sv_N g qX9_shareOf 0 24 [(0, .long l0), (2, .long l2), (4, .long l4), (6, .int l6), (7, .int l7), (8, .int l8)] [] V P) {l0 : Int64} {l2 : Int64} {l4 : Int64} {l6 : Int32} {l7 : Int32} {l8 : Int32} {V : sv_V} (h : B_X9_shareOf_86 N k24 l0 l2 l4 l6 l7 l8 V = some (r, Vr)) : sv_N g qX9_shareOf 0 86 [(0, .long l0), (2, .long l2), (4, .long l4), (6, .int l6), (7, .int l7), (8, .int l8)] [] V P := by
  unfold B_X9_shareOf_86 at h
  obtain ⟨x1, hx1⟩ : ∃ z : Int32, z = l8 + 1 := ⟨_, rfl⟩
  have h := sx_letE hx1 h
  refine sx_iinc (pc := 86) (v := x1) (lo' := [(8, .int x1), (0, .long l0), (2, .long l2), (4, .long l4), (6, .int l6), (7, .int l7)]) dX9_shareOf_86 sx_m5 (by rw [hx1]; rfl) (by decide) rfl ?_
  refine sx_goto (pc := 89) (tgt := 24) dX9_shareOf_89 (by decide) ?_
  refine sx_wk (sx_s1 sx_m1 (sx_s1 sx_m2 (sx_s1 sx_m3 (sx_s1 sx_m4 (sx_s1 sx_m5 (sx_s1 sx_m0 sx_s0)))))) ?_
  exact hk24 _ _ _ _ _ _ _ h
def B_X9_shareOf_92 (N : Nat)  (l0 : Int64) (l6 : Int32) (V : sv_V) : Option (Int32 × sv_V) := if 0 ≤ (lg_cmp l0 (0 : Int64)) then (some (l6, V)) else (some (-l6, V))
set_option maxRecDepth 20000 in
theorem tB_X9_shareOf_92 {g : sx_G} (hG : sx_Go g) {P : Option Value → sv_V → Prop} {r : Int32} {Vr : sv_V} (hP : P (some (.int r)) Vr) {N : Nat}   {l0 : Int64} {l6 : Int32} {V : sv_V} (h : B_X9_shareOf_92 N  l0 l6 V = some (r, Vr)) : sv_N g qX9_shareOf 0 92 [(0, .long l0), (6, .int l6)] [] V P := by
  unfold B_X9_shareOf_92 at h
  refine sx_lload_n (pc := 92) dX9_shareOf_92 sx_m0 ?_
  refine sx_lconst (pc := 93) (v := 0) dX9_shareOf_93 rfl ?_
  refine sx_lcmp (pc := 94) dX9_shareOf_94 ?_
  refine sx_if_ge (pc := 95) (tgt := 104) dX9_shareOf_95 (by decide) (fun c2 => ?_) (fun c2 => ?_)
  · have h := sx_pos c2 h
    refine sx_iload (pc := 104) dX9_shareOf_104 sx_m1 ?_
    exact sv_iret (pc := 106) dX9_shareOf_106 rfl h hP
  · have h := sx_neg c2 h
    refine sx_iload (pc := 98) dX9_shareOf_98 sx_m1 ?_
    refine sx_ineg (pc := 100) dX9_shareOf_100 ?_
    refine sx_goto (pc := 101) (tgt := 106) dX9_shareOf_101 (by decide) ?_
    exact sv_iret (pc := 106) dX9_shareOf_106 rfl h hP
def B_X9_shareOf_24 (N : Nat) (k24 : Int64 → Int64 → Int64 → Int32 → Int32 → Int32 → sv_V → Option (Int32 × sv_V)) (l0 : Int64) (l2 : Int64) (l4 : Int64) (l6 : Int32) (l7 : Int32) (l8 : Int32) (V : sv_V) : Option (Int32 × sv_V) := if (20 : Int32) ≤ l8 then (B_X9_shareOf_92 N  l0 l6 V) else (if l7 ≤ l6 then (B_X9_shareOf_92 N  l0 l6 V) else (sx_let (((l6 + l7) + (1 : Int32)) / (2 : Int32)) (fun x5 => sx_let (((2 : Int64) * x5.toInt64) - (1 : Int64)) (fun x6 => if 0 < (lg_cmp ((x6 * x6) * l2) l4) then (sx_let (x5 - (1 : Int32)) (fun x8 => B_X9_shareOf_86 N k24 l0 l2 l4 l6 x8 l8 V)) else (B_X9_shareOf_86 N k24 l0 l2 l4 x5 l7 l8 V)))))
set_option maxRecDepth 20000 in
theorem tB_X9_shareOf_24 {g : sx_G} (hG : sx_Go g) {P : Option Value → sv_V → Prop} {r : Int32} {Vr : sv_V} (hP : P (some (.int r)) Vr) {N : Nat} {k24 : Int64 → Int64 → Int64 → Int32 → Int32 → Int32 → sv_V → Option (Int32 × sv_V)} (hk24 : ∀ (l0 : Int64) (l2 : Int64) (l4 : Int64) (l6 : Int32) (l7 : Int32) (l8 : Int32) (V : sv_V), k24 l0 l2 l4 l6 l7 l8 V = some (r, Vr) → sv_N g qX9_shareOf 0 24 [(0, .long l0), (2, .long l2), (4, .long l4), (6, .int l6), (7, .int l7), (8, .int l8)] [] V P) {l0 : Int64} {l2 : Int64} {l4 : Int64} {l6 : Int32} {l7 : Int32} {l8 : Int32} {V : sv_V} (h : B_X9_shareOf_24 N k24 l0 l2 l4 l6 l7 l8 V = some (r, Vr)) : sv_N g qX9_shareOf 0 24 [(0, .long l0), (2, .long l2), (4, .long l4), (6, .int l6), (7, .int l7), (8, .int l8)] [] V P := by
  unfold B_X9_shareOf_24 at h
  refine sx_iload (pc := 24) dX9_shareOf_24 sx_m5 ?_
  refine sx_bipush (pc := 26) (v := 20) dX9_shareOf_26 (by decide) ?_
  refine sx_icmp_ge (pc := 28) (tgt := 92) dX9_shareOf_28 (by decide) (fun c3 => ?_) (fun c3 => ?_)
  · have h := sx_pos c3 h
    refine sx_wk (sx_s1 sx_m0 (sx_s1 sx_m3 sx_s0)) ?_
    exact tB_X9_shareOf_92 hG hP  h
  · have h := sx_neg c3 h
    refine sx_iload (pc := 31) dX9_shareOf_31 sx_m3 ?_
    refine sx_iload (pc := 33) dX9_shareOf_33 sx_m4 ?_
    refine sx_icmp_ge (pc := 35) (tgt := 92) dX9_shareOf_35 (by decide) (fun c4 => ?_) (fun c4 => ?_)
    · have h := sx_pos c4 h
      refine sx_wk (sx_s1 sx_m0 (sx_s1 sx_m3 sx_s0)) ?_
      exact tB_X9_shareOf_92 hG hP  h
    · have h := sx_neg c4 h
      refine sx_iload (pc := 38) dX9_shareOf_38 sx_m3 ?_
      refine sx_iload (pc := 40) dX9_shareOf_40 sx_m4 ?_
      refine sx_iadd (pc := 42) dX9_shareOf_42 ?_
      refine sx_iconst (pc := 43) (v := 1) dX9_shareOf_43 (by decide) ?_
      refine sx_iadd (pc := 44) dX9_shareOf_44 ?_
      refine sx_iconst (pc := 45) (v := 2) dX9_shareOf_45 (by decide) ?_
      refine sx_idiv (pc := 46) dX9_shareOf_46 (by decide) ?_
      refine sv_tI (fun x5 hx5 => ?_)
      have h := sx_letE hx5 h
      refine sx_istore (pc := 47) (lo' := [(9, .int x5), (0, .long l0), (2, .long l2), (4, .long l4), (6, .int l6), (7, .int l7), (8, .int l8)]) dX9_shareOf_47 (by decide) rfl ?_
      refine sx_ldc2 (pc := 49) dX9_shareOf_49 k_X9_69 ?_
      refine sx_iload (pc := 52) dX9_shareOf_52 sx_m0 ?_
      refine sx_i2l (pc := 54) dX9_shareOf_54 ?_
      refine sx_lmul (pc := 55) dX9_shareOf_55 ?_
      refine sx_lconst (pc := 56) (v := 1) dX9_shareOf_56 rfl ?_
      refine sx_lsub (pc := 57) dX9_shareOf_57 ?_
      refine sv_tJ (fun x6 hx6 => ?_)
      have h := sx_letE hx6 h
      refine sx_lstore (pc := 58) (lo' := [(10, .long x6), (9, .int x5), (0, .long l0), (2, .long l2), (4, .long l4), (6, .int l6), (7, .int l7), (8, .int l8)]) dX9_shareOf_58 (by decide) rfl ?_
      refine sx_lload (pc := 60) dX9_shareOf_60 sx_m0 ?_
      refine sx_lload (pc := 62) dX9_shareOf_62 sx_m0 ?_
      refine sx_lmul (pc := 64) dX9_shareOf_64 ?_
      refine sx_lload_n (pc := 65) dX9_shareOf_65 sx_m3 ?_
      refine sx_lmul (pc := 66) dX9_shareOf_66 ?_
      refine sx_lload (pc := 67) dX9_shareOf_67 sx_m4 ?_
      refine sx_lcmp (pc := 69) dX9_shareOf_69 ?_
      refine sx_if_gt (pc := 70) (tgt := 80) dX9_shareOf_70 (by decide) (fun c7 => ?_) (fun c7 => ?_)
      · have h := sx_pos c7 h
        refine sx_iload (pc := 80) dX9_shareOf_80 sx_m1 ?_
        refine sx_iconst (pc := 82) (v := 1) dX9_shareOf_82 (by decide) ?_
        refine sx_isub (pc := 83) dX9_shareOf_83 ?_
        refine sv_tI (fun x8 hx8 => ?_)
        have h := sx_letE hx8 h
        refine sx_istore (pc := 84) (lo' := [(7, .int x8), (10, .long x6), (9, .int x5), (0, .long l0), (2, .long l2), (4, .long l4), (6, .int l6), (8, .int l8)]) dX9_shareOf_84 (by decide) rfl ?_
        refine sx_wk (sx_s1 sx_m3 (sx_s1 sx_m4 (sx_s1 sx_m5 (sx_s1 sx_m6 (sx_s1 sx_m0 (sx_s1 sx_m7 sx_s0)))))) ?_
        exact tB_X9_shareOf_86 hG hP hk24 h
      · have h := sx_neg c7 h
        refine sx_iload (pc := 73) dX9_shareOf_73 sx_m1 ?_
        refine sx_istore (pc := 75) (lo' := [(6, .int x5), (10, .long x6), (9, .int x5), (0, .long l0), (2, .long l2), (4, .long l4), (7, .int l7), (8, .int l8)]) dX9_shareOf_75 (by decide) rfl ?_
        refine sx_goto (pc := 77) (tgt := 86) dX9_shareOf_77 (by decide) ?_
        refine sx_wk (sx_s1 sx_m3 (sx_s1 sx_m4 (sx_s1 sx_m5 (sx_s1 sx_m0 (sx_s1 sx_m6 (sx_s1 sx_m7 sx_s0)))))) ?_
        exact tB_X9_shareOf_86 hG hP hk24 h
theorem tL_X9_shareOf_24 {g : sx_G} (hG : sx_Go g) {P : Option Value → sv_V → Prop} {r : Int32} {Vr : sv_V} (hP : P (some (.int r)) Vr) {N : Nat}   : ∀ (n : Nat) (l0 : Int64) (l2 : Int64) (l4 : Int64) (l6 : Int32) (l7 : Int32) (l8 : Int32) (V : sv_V), sx_lp7 (B_X9_shareOf_24 N ) n l0 l2 l4 l6 l7 l8 V = some (r, Vr) → sv_N g qX9_shareOf 0 24 [(0, .long l0), (2, .long l2), (4, .long l4), (6, .int l6), (7, .int l7), (8, .int l8)] [] V P :=
  sx_lp7_ind (fun k0 ih _ _ _ _ _ _ V h => tB_X9_shareOf_24 hG hP ih h)
def F_X9_shareOf (N : Nat) (l0 : Int64) (l2 : Int64) (V : sv_V) : Option (Int32 × sv_V) := sx_let (((32768 : Int64) * l0) * ((32768 : Int64) * l0)) (fun x9 => sx_lp7 (B_X9_shareOf_24 N ) N l0 l2 x9 (0 : Int32) (16384 : Int32) (0 : Int32) V)
set_option maxRecDepth 20000 in
theorem t_X9_shareOf {g : sx_G} (hG : sx_Go g) {P : Option Value → sv_V → Prop} {r : Int32} {Vr : sv_V} (hP : P (some (.int r)) Vr) {N : Nat} {l0 : Int64} {l2 : Int64} {V : sv_V} (h : F_X9_shareOf N l0 l2 V = some (r, Vr)) : sv_N g qX9_shareOf 0 0 [(0, .long l0), (2, .long l2)] [] V P := by
  unfold F_X9_shareOf at h
  refine sx_ldc2 (pc := 0) dX9_shareOf_0 k_X9_75 ?_
  refine sx_lload_n (pc := 3) dX9_shareOf_3 sx_m0 ?_
  refine sx_lmul (pc := 4) dX9_shareOf_4 ?_
  refine sx_ldc2 (pc := 5) dX9_shareOf_5 k_X9_75 ?_
  refine sx_lload_n (pc := 8) dX9_shareOf_8 sx_m0 ?_
  refine sx_lmul (pc := 9) dX9_shareOf_9 ?_
  refine sx_lmul (pc := 10) dX9_shareOf_10 ?_
  refine sv_tJ (fun x9 hx9 => ?_)
  have h := sx_letE hx9 h
  refine sx_lstore (pc := 11) (lo' := [(4, .long x9), (0, .long l0), (2, .long l2)]) dX9_shareOf_11 (by decide) rfl ?_
  refine sx_iconst (pc := 13) (v := 0) dX9_shareOf_13 (by decide) ?_
  refine sx_istore (pc := 14) (lo' := [(6, .int (0 : Int32)), (4, .long x9), (0, .long l0), (2, .long l2)]) dX9_shareOf_14 (by decide) rfl ?_
  refine sx_sipush (pc := 16) (v := 16384) dX9_shareOf_16 (by decide) ?_
  refine sx_istore (pc := 19) (lo' := [(7, .int (16384 : Int32)), (6, .int (0 : Int32)), (4, .long x9), (0, .long l0), (2, .long l2)]) dX9_shareOf_19 (by decide) rfl ?_
  refine sx_iconst (pc := 21) (v := 0) dX9_shareOf_21 (by decide) ?_
  refine sx_istore (pc := 22) (lo' := [(8, .int (0 : Int32)), (7, .int (16384 : Int32)), (6, .int (0 : Int32)), (4, .long x9), (0, .long l0), (2, .long l2)]) dX9_shareOf_22 (by decide) rfl ?_
  refine sx_wk (sx_s1 sx_m4 (sx_s1 sx_m5 (sx_s1 sx_m3 (sx_s1 sx_m2 (sx_s1 sx_m1 (sx_s1 sx_m0 sx_s0)))))) ?_
  exact tL_X9_shareOf_24 hG hP  N _ _ _ _ _ _ _ h
def ncX9_roundBy : Nat := 93679420706947481233496810241138563336161115738768019441369891857178672579173567686429557553149973753062522702963429963936367372285614823791865692393188714353968173514715483354698308427040454004931624770253345206232928299479329676161237963530977882066292567732439498103594
theorem kcX9_roundBy : CK cX9_roundBy ncX9_roundBy 113 := ⟨by decide +kernel, by decide +kernel⟩
theorem dX9_roundBy_0 : decode cX9_roundBy 0 = .ok (.aload_n 0, 1) := dl_o42 kcX9_roundBy (by decide +kernel)
theorem dX9_roundBy_1 : decode cX9_roundBy 1 = .ok (.iload_n 1, 1) := dl_o27 kcX9_roundBy (by decide +kernel)
theorem dX9_roundBy_2 : decode cX9_roundBy 2 = .ok (.bipush 61, 2) := dl_o16 kcX9_roundBy 61 (by decide +kernel) (by decide +kernel)
theorem dX9_roundBy_4 : decode cX9_roundBy 4 = .ok (.if_icmp .ne 8, 3) := dl_o160 kcX9_roundBy 8 (by decide +kernel) (by decide +kernel)
theorem dX9_roundBy_7 : decode cX9_roundBy 7 = .ok (.bipush 32, 2) := dl_o16 kcX9_roundBy 32 (by decide +kernel) (by decide +kernel)
theorem dX9_roundBy_9 : decode cX9_roundBy 9 = .ok (.goto 15, 3) := dl_o167 kcX9_roundBy 15 (by decide +kernel) (by decide +kernel)
theorem dX9_roundBy_12 : decode cX9_roundBy 12 = .ok (.iload_n 1, 1) := dl_o27 kcX9_roundBy (by decide +kernel)
theorem dX9_roundBy_13 : decode cX9_roundBy 13 = .ok (.bipush 122, 2) := dl_o16 kcX9_roundBy 122 (by decide +kernel) (by decide +kernel)
theorem dX9_roundBy_15 : decode cX9_roundBy 15 = .ok (.if_icmp .ne 7, 3) := dl_o160 kcX9_roundBy 7 (by decide +kernel) (by decide +kernel)
theorem dX9_roundBy_18 : decode cX9_roundBy 18 = .ok (.iconst 0, 1) := dl_o3 kcX9_roundBy (by decide +kernel)
theorem dX9_roundBy_19 : decode cX9_roundBy 19 = .ok (.goto 5, 3) := dl_o167 kcX9_roundBy 5 (by decide +kernel) (by decide +kernel)
theorem dX9_roundBy_22 : decode cX9_roundBy 22 = .ok (.bipush 64, 2) := dl_o16 kcX9_roundBy 64 (by decide +kernel) (by decide +kernel)
theorem dX9_roundBy_24 : decode cX9_roundBy 24 = .ok (.putfield 77, 3) := dl_o181 kcX9_roundBy (by decide +kernel)
theorem dX9_roundBy_27 : decode cX9_roundBy 27 = .ok (.aload_n 0, 1) := dl_o42 kcX9_roundBy (by decide +kernel)
theorem dX9_roundBy_28 : decode cX9_roundBy 28 = .ok (.iload_n 1, 1) := dl_o27 kcX9_roundBy (by decide +kernel)
theorem dX9_roundBy_29 : decode cX9_roundBy 29 = .ok (.bipush 25, 2) := dl_o16 kcX9_roundBy 25 (by decide +kernel) (by decide +kernel)
theorem dX9_roundBy_31 : decode cX9_roundBy 31 = .ok (.if_icmp .ne 8, 3) := dl_o160 kcX9_roundBy 8 (by decide +kernel) (by decide +kernel)
theorem dX9_roundBy_34 : decode cX9_roundBy 34 = .ok (.bipush 32, 2) := dl_o16 kcX9_roundBy 32 (by decide +kernel) (by decide +kernel)
theorem dX9_roundBy_36 : decode cX9_roundBy 36 = .ok (.goto 4, 3) := dl_o167 kcX9_roundBy 4 (by decide +kernel) (by decide +kernel)
theorem dX9_roundBy_39 : decode cX9_roundBy 39 = .ok (.iconst 0, 1) := dl_o3 kcX9_roundBy (by decide +kernel)
theorem dX9_roundBy_40 : decode cX9_roundBy 40 = .ok (.putfield 80, 3) := dl_o181 kcX9_roundBy (by decide +kernel)
theorem dX9_roundBy_43 : decode cX9_roundBy 43 = .ok (.iload_n 1, 1) := dl_o27 kcX9_roundBy (by decide +kernel)
theorem dX9_roundBy_44 : decode cX9_roundBy 44 = .ok (.lookupswitch 62 #[(61, 36), (124, 45), (125, 54)], 36) := by decide +kernel
theorem dX9_roundBy_80 : decode cX9_roundBy 80 = .ok (.aload_n 0, 1) := dl_o42 kcX9_roundBy (by decide +kernel)
theorem dX9_roundBy_81 : decode cX9_roundBy 81 = .ok (.bipush 16, 2) := dl_o16 kcX9_roundBy 16 (by decide +kernel) (by decide +kernel)
theorem dX9_roundBy_83 : decode cX9_roundBy 83 = .ok (.putfield 83, 3) := dl_o181 kcX9_roundBy (by decide +kernel)
theorem dX9_roundBy_86 : decode cX9_roundBy 86 = .ok (.goto 26, 3) := dl_o167 kcX9_roundBy 26 (by decide +kernel) (by decide +kernel)
theorem dX9_roundBy_89 : decode cX9_roundBy 89 = .ok (.aload_n 0, 1) := dl_o42 kcX9_roundBy (by decide +kernel)
theorem dX9_roundBy_90 : decode cX9_roundBy 90 = .ok (.bipush 63, 2) := dl_o16 kcX9_roundBy 63 (by decide +kernel) (by decide +kernel)
theorem dX9_roundBy_92 : decode cX9_roundBy 92 = .ok (.putfield 83, 3) := dl_o181 kcX9_roundBy (by decide +kernel)
theorem dX9_roundBy_95 : decode cX9_roundBy 95 = .ok (.goto 17, 3) := dl_o167 kcX9_roundBy 17 (by decide +kernel) (by decide +kernel)
theorem dX9_roundBy_98 : decode cX9_roundBy 98 = .ok (.aload_n 0, 1) := dl_o42 kcX9_roundBy (by decide +kernel)
theorem dX9_roundBy_99 : decode cX9_roundBy 99 = .ok (.iconst 0, 1) := dl_o3 kcX9_roundBy (by decide +kernel)
theorem dX9_roundBy_100 : decode cX9_roundBy 100 = .ok (.putfield 83, 3) := dl_o181 kcX9_roundBy (by decide +kernel)
theorem dX9_roundBy_103 : decode cX9_roundBy 103 = .ok (.goto 9, 3) := dl_o167 kcX9_roundBy 9 (by decide +kernel) (by decide +kernel)
theorem dX9_roundBy_106 : decode cX9_roundBy 106 = .ok (.aload_n 0, 1) := dl_o42 kcX9_roundBy (by decide +kernel)
theorem dX9_roundBy_107 : decode cX9_roundBy 107 = .ok (.bipush 32, 2) := dl_o16 kcX9_roundBy 32 (by decide +kernel) (by decide +kernel)
theorem dX9_roundBy_109 : decode cX9_roundBy 109 = .ok (.putfield 83, 3) := dl_o181 kcX9_roundBy (by decide +kernel)
theorem dX9_roundBy_112 : decode cX9_roundBy 112 = .ok (.return_, 1) := dl_o177 kcX9_roundBy (by decide +kernel)
def B_X9_roundBy_40  (l1 : Int32) (s1 : Int32) (V : sv_V) : Option sv_V := sx_let (sv_I V 70 10 s1) (fun V1 => if l1 = 61 then (sx_let (sv_I V1 70 11 (16 : Int32)) (fun V3 => some V3)) else (if l1 = 124 then (sx_let (sv_I V1 70 11 (63 : Int32)) (fun V5 => some V5)) else (if l1 = 125 then (sx_let (sv_I V1 70 11 (0 : Int32)) (fun V7 => some V7)) else (sx_let (sv_I V1 70 11 (32 : Int32)) (fun V8 => some V8)))))
set_option maxRecDepth 20000 in
theorem tB_X9_roundBy_40 {g : sx_G} (hG : sx_Go g) {P : Option Value → sv_V → Prop} {Vr : sv_V} (hP : P none Vr)   {l1 : Int32} {s1 : Int32} {V : sv_V} (h : B_X9_roundBy_40  l1 s1 V = some Vr) : sv_N g qX9_roundBy 0 40 [(0, .ref 70), (1, .int l1)] [.int s1, .ref 70] V P := by
  unfold B_X9_roundBy_40 at h
  obtain ⟨V1, hV1⟩ : ∃ z : sv_V, z = sv_I V 70 10 s1 := ⟨_, rfl⟩
  have h := sx_letE hV1 h
  refine sv_putI (pc := 40) hG dX9_roundBy_40 f_9_80 lay_70 rfl hV1 ?_
  refine sx_iload_n (pc := 43) dX9_roundBy_43 sx_m1 ?_
  by_cases c2 : l1 = 61
  · have h := sx_pos c2 h
    refine sx_look (pc := 44) (off := 36) (tgt := 80) dX9_roundBy_44 (by decide) (by rw [c2]; rfl) (by decide) ?_
    refine sx_aload_n (pc := 80) dX9_roundBy_80 sx_m0 ?_
    refine sx_bipush (pc := 81) (v := 16) dX9_roundBy_81 (by decide) ?_
    obtain ⟨V3, hV3⟩ : ∃ z : sv_V, z = sv_I V1 70 11 (16 : Int32) := ⟨_, rfl⟩
    have h := sx_letE hV3 h
    refine sv_putI (pc := 83) hG dX9_roundBy_83 f_9_83 lay_70 rfl hV3 ?_
    refine sx_goto (pc := 86) (tgt := 112) dX9_roundBy_86 (by decide) ?_
    exact sv_vret (pc := 112) dX9_roundBy_112 rfl h hP
  have h := sx_neg c2 h
  by_cases c4 : l1 = 124
  · have h := sx_pos c4 h
    refine sx_look (pc := 44) (off := 45) (tgt := 89) dX9_roundBy_44 (by decide) (by rw [c4]; rfl) (by decide) ?_
    refine sx_aload_n (pc := 89) dX9_roundBy_89 sx_m0 ?_
    refine sx_bipush (pc := 90) (v := 63) dX9_roundBy_90 (by decide) ?_
    obtain ⟨V5, hV5⟩ : ∃ z : sv_V, z = sv_I V1 70 11 (63 : Int32) := ⟨_, rfl⟩
    have h := sx_letE hV5 h
    refine sv_putI (pc := 92) hG dX9_roundBy_92 f_9_83 lay_70 rfl hV5 ?_
    refine sx_goto (pc := 95) (tgt := 112) dX9_roundBy_95 (by decide) ?_
    exact sv_vret (pc := 112) dX9_roundBy_112 rfl h hP
  have h := sx_neg c4 h
  by_cases c6 : l1 = 125
  · have h := sx_pos c6 h
    refine sx_look (pc := 44) (off := 54) (tgt := 98) dX9_roundBy_44 (by decide) (by rw [c6]; rfl) (by decide) ?_
    refine sx_aload_n (pc := 98) dX9_roundBy_98 sx_m0 ?_
    refine sx_iconst (pc := 99) (v := 0) dX9_roundBy_99 (by decide) ?_
    obtain ⟨V7, hV7⟩ : ∃ z : sv_V, z = sv_I V1 70 11 (0 : Int32) := ⟨_, rfl⟩
    have h := sx_letE hV7 h
    refine sv_putI (pc := 100) hG dX9_roundBy_100 f_9_83 lay_70 rfl hV7 ?_
    refine sx_goto (pc := 103) (tgt := 112) dX9_roundBy_103 (by decide) ?_
    exact sv_vret (pc := 112) dX9_roundBy_112 rfl h hP
  have h := sx_neg c6 h
  refine sx_look (pc := 44) (off := 62) (tgt := 106) dX9_roundBy_44 (by decide) (by show Op.lookupswitch.offset [(61, 36), (124, 45), (125, 54)] 62 l1.toInt = 62; rw [lv_osw (a := 61) c2 rfl, lv_osw (a := 124) c4 rfl, lv_osw (a := 125) c6 rfl]; rfl) (by decide) ?_
  refine sx_aload_n (pc := 106) dX9_roundBy_106 sx_m0 ?_
  refine sx_bipush (pc := 107) (v := 32) dX9_roundBy_107 (by decide) ?_
  obtain ⟨V8, hV8⟩ : ∃ z : sv_V, z = sv_I V1 70 11 (32 : Int32) := ⟨_, rfl⟩
  have h := sx_letE hV8 h
  refine sv_putI (pc := 109) hG dX9_roundBy_109 f_9_83 lay_70 rfl hV8 ?_
  exact sv_vret (pc := 112) dX9_roundBy_112 rfl h hP
def B_X9_roundBy_24  (l1 : Int32) (s1 : Int32) (V : sv_V) : Option sv_V := sx_let (sv_I V 70 9 s1) (fun V9 => if l1 = (25 : Int32) then (B_X9_roundBy_40  l1 (32 : Int32) V9) else (B_X9_roundBy_40  l1 (0 : Int32) V9))
set_option maxRecDepth 20000 in
theorem tB_X9_roundBy_24 {g : sx_G} (hG : sx_Go g) {P : Option Value → sv_V → Prop} {Vr : sv_V} (hP : P none Vr)   {l1 : Int32} {s1 : Int32} {V : sv_V} (h : B_X9_roundBy_24  l1 s1 V = some Vr) : sv_N g qX9_roundBy 0 24 [(0, .ref 70), (1, .int l1)] [.int s1, .ref 70] V P := by
  unfold B_X9_roundBy_24 at h
  obtain ⟨V9, hV9⟩ : ∃ z : sv_V, z = sv_I V 70 9 s1 := ⟨_, rfl⟩
  have h := sx_letE hV9 h
  refine sv_putI (pc := 24) hG dX9_roundBy_24 f_9_77 lay_70 rfl hV9 ?_
  refine sx_aload_n (pc := 27) dX9_roundBy_27 sx_m0 ?_
  refine sx_iload_n (pc := 28) dX9_roundBy_28 sx_m1 ?_
  refine sx_bipush (pc := 29) (v := 25) dX9_roundBy_29 (by decide) ?_
  refine sx_icmp_ne (pc := 31) (tgt := 39) dX9_roundBy_31 (by decide) (fun c10 => ?_) (fun c10 => ?_)
  · have h := sx_neg c10 h
    refine sx_iconst (pc := 39) (v := 0) dX9_roundBy_39 (by decide) ?_
    refine sx_wk (sx_s1 sx_m0 (sx_s1 sx_m1 sx_s0)) ?_
    exact tB_X9_roundBy_40 hG hP  h
  · have h := sx_pos c10 h
    refine sx_bipush (pc := 34) (v := 32) dX9_roundBy_34 (by decide) ?_
    refine sx_goto (pc := 36) (tgt := 40) dX9_roundBy_36 (by decide) ?_
    refine sx_wk (sx_s1 sx_m0 (sx_s1 sx_m1 sx_s0)) ?_
    exact tB_X9_roundBy_40 hG hP  h
def F_X9_roundBy (l1 : Int32) (V : sv_V) : Option sv_V := if l1 = (61 : Int32) then (B_X9_roundBy_24  l1 (32 : Int32) V) else (if l1 = (122 : Int32) then (B_X9_roundBy_24  l1 (0 : Int32) V) else (B_X9_roundBy_24  l1 (64 : Int32) V))
set_option maxRecDepth 20000 in
theorem t_X9_roundBy {g : sx_G} (hG : sx_Go g) {P : Option Value → sv_V → Prop} {Vr : sv_V} (hP : P none Vr) {l1 : Int32} {V : sv_V} (h : F_X9_roundBy l1 V = some Vr) : sv_N g qX9_roundBy 0 0 [(0, .ref 70), (1, .int l1)] [] V P := by
  unfold F_X9_roundBy at h
  refine sx_aload_n (pc := 0) dX9_roundBy_0 sx_m0 ?_
  refine sx_iload_n (pc := 1) dX9_roundBy_1 sx_m1 ?_
  refine sx_bipush (pc := 2) (v := 61) dX9_roundBy_2 (by decide) ?_
  refine sx_icmp_ne (pc := 4) (tgt := 12) dX9_roundBy_4 (by decide) (fun c11 => ?_) (fun c11 => ?_)
  · have h := sx_neg c11 h
    refine sx_iload_n (pc := 12) dX9_roundBy_12 sx_m1 ?_
    refine sx_bipush (pc := 13) (v := 122) dX9_roundBy_13 (by decide) ?_
    refine sx_icmp_ne (pc := 15) (tgt := 22) dX9_roundBy_15 (by decide) (fun c12 => ?_) (fun c12 => ?_)
    · have h := sx_neg c12 h
      refine sx_bipush (pc := 22) (v := 64) dX9_roundBy_22 (by decide) ?_
      refine sx_wk (sx_s1 sx_m0 (sx_s1 sx_m1 sx_s0)) ?_
      exact tB_X9_roundBy_24 hG hP  h
    · have h := sx_pos c12 h
      refine sx_iconst (pc := 18) (v := 0) dX9_roundBy_18 (by decide) ?_
      refine sx_goto (pc := 19) (tgt := 24) dX9_roundBy_19 (by decide) ?_
      refine sx_wk (sx_s1 sx_m0 (sx_s1 sx_m1 sx_s0)) ?_
      exact tB_X9_roundBy_24 hG hP  h
  · have h := sx_pos c11 h
    refine sx_bipush (pc := 7) (v := 32) dX9_roundBy_7 (by decide) ?_
    refine sx_goto (pc := 9) (tgt := 24) dX9_roundBy_9 (by decide) ?_
    refine sx_wk (sx_s1 sx_m0 (sx_s1 sx_m1 sx_s0)) ?_
    exact tB_X9_roundBy_24 hG hP  h
def ncX9_roundFinely : Nat := 68367190084817556725424304119139893854075575212982580831384646668168284587308156651962529338279158174805845870859217887448672344844740700748921623550106450751992752114235946757800112860463610140876694547358207959198376280349477181984795
theorem kcX9_roundFinely : CK cX9_roundFinely ncX9_roundFinely 98 := ⟨by decide +kernel, by decide +kernel⟩
theorem dX9_roundFinely_0 : decode cX9_roundFinely 0 = .ok (.iload_n 1, 1) := dl_o27 kcX9_roundFinely (by decide +kernel)
theorem dX9_roundFinely_1 : decode cX9_roundFinely 1 = .ok (.bipush 6, 2) := dl_o16 kcX9_roundFinely 6 (by decide +kernel) (by decide +kernel)
theorem dX9_roundFinely_3 : decode cX9_roundFinely 3 = .ok (.ishr, 1) := dl_o122 kcX9_roundFinely (by decide +kernel)
theorem dX9_roundFinely_4 : decode cX9_roundFinely 4 = .ok (.iconst 3, 1) := dl_o6 kcX9_roundFinely (by decide +kernel)
theorem dX9_roundFinely_5 : decode cX9_roundFinely 5 = .ok (.iand, 1) := dl_o126 kcX9_roundFinely (by decide +kernel)
theorem dX9_roundFinely_6 : decode cX9_roundFinely 6 = .ok (.istore_n 3, 1) := dl_o62 kcX9_roundFinely (by decide +kernel)
theorem dX9_roundFinely_7 : decode cX9_roundFinely 7 = .ok (.iload_n 3, 1) := dl_o29 kcX9_roundFinely (by decide +kernel)
theorem dX9_roundFinely_8 : decode cX9_roundFinely 8 = .ok (.iconst 3, 1) := dl_o6 kcX9_roundFinely (by decide +kernel)
theorem dX9_roundFinely_9 : decode cX9_roundFinely 9 = .ok (.if_icmp .ne 5, 3) := dl_o160 kcX9_roundFinely 5 (by decide +kernel) (by decide +kernel)
theorem dX9_roundFinely_12 : decode cX9_roundFinely 12 = .ok (.iconst 0, 1) := dl_o3 kcX9_roundFinely (by decide +kernel)
theorem dX9_roundFinely_13 : decode cX9_roundFinely 13 = .ok (.ireturn, 1) := dl_o172 kcX9_roundFinely (by decide +kernel)
theorem dX9_roundFinely_14 : decode cX9_roundFinely 14 = .ok (.aload_n 0, 1) := dl_o42 kcX9_roundFinely (by decide +kernel)
theorem dX9_roundFinely_15 : decode cX9_roundFinely 15 = .ok (.iload_n 2, 1) := dl_o28 kcX9_roundFinely (by decide +kernel)
theorem dX9_roundFinely_16 : decode cX9_roundFinely 16 = .ok (.bipush 118, 2) := dl_o16 kcX9_roundFinely 118 (by decide +kernel) (by decide +kernel)
theorem dX9_roundFinely_18 : decode cX9_roundFinely 18 = .ok (.if_icmp .ne 10, 3) := dl_o160 kcX9_roundFinely 10 (by decide +kernel) (by decide +kernel)
theorem dX9_roundFinely_21 : decode cX9_roundFinely 21 = .ok (.bipush 32, 2) := dl_o16 kcX9_roundFinely 32 (by decide +kernel) (by decide +kernel)
theorem dX9_roundFinely_23 : decode cX9_roundFinely 23 = .ok (.iload_n 3, 1) := dl_o29 kcX9_roundFinely (by decide +kernel)
theorem dX9_roundFinely_24 : decode cX9_roundFinely 24 = .ok (.ishl, 1) := dl_o120 kcX9_roundFinely (by decide +kernel)
theorem dX9_roundFinely_25 : decode cX9_roundFinely 25 = .ok (.goto 16, 3) := dl_o167 kcX9_roundFinely 16 (by decide +kernel) (by decide +kernel)
theorem dX9_roundFinely_28 : decode cX9_roundFinely 28 = .ok (.iload_n 3, 1) := dl_o29 kcX9_roundFinely (by decide +kernel)
theorem dX9_roundFinely_29 : decode cX9_roundFinely 29 = .ok (.ifCond .ne 8, 3) := dl_o154 kcX9_roundFinely 8 (by decide +kernel) (by decide +kernel)
theorem dX9_roundFinely_32 : decode cX9_roundFinely 32 = .ok (.bipush 22, 2) := dl_o16 kcX9_roundFinely 22 (by decide +kernel) (by decide +kernel)
theorem dX9_roundFinely_34 : decode cX9_roundFinely 34 = .ok (.goto 7, 3) := dl_o167 kcX9_roundFinely 7 (by decide +kernel) (by decide +kernel)
theorem dX9_roundFinely_37 : decode cX9_roundFinely 37 = .ok (.bipush 45, 2) := dl_o16 kcX9_roundFinely 45 (by decide +kernel) (by decide +kernel)
theorem dX9_roundFinely_39 : decode cX9_roundFinely 39 = .ok (.iload_n 3, 1) := dl_o29 kcX9_roundFinely (by decide +kernel)
theorem dX9_roundFinely_40 : decode cX9_roundFinely 40 = .ok (.imul, 1) := dl_o104 kcX9_roundFinely (by decide +kernel)
theorem dX9_roundFinely_41 : decode cX9_roundFinely 41 = .ok (.putfield 77, 3) := dl_o181 kcX9_roundFinely (by decide +kernel)
theorem dX9_roundFinely_44 : decode cX9_roundFinely 44 = .ok (.aload_n 0, 1) := dl_o42 kcX9_roundFinely (by decide +kernel)
theorem dX9_roundFinely_45 : decode cX9_roundFinely 45 = .ok (.iload_n 1, 1) := dl_o27 kcX9_roundFinely (by decide +kernel)
theorem dX9_roundFinely_46 : decode cX9_roundFinely 46 = .ok (.iconst 4, 1) := dl_o7 kcX9_roundFinely (by decide +kernel)
theorem dX9_roundFinely_47 : decode cX9_roundFinely 47 = .ok (.ishr, 1) := dl_o122 kcX9_roundFinely (by decide +kernel)
theorem dX9_roundFinely_48 : decode cX9_roundFinely 48 = .ok (.iconst 3, 1) := dl_o6 kcX9_roundFinely (by decide +kernel)
theorem dX9_roundFinely_49 : decode cX9_roundFinely 49 = .ok (.iand, 1) := dl_o126 kcX9_roundFinely (by decide +kernel)
theorem dX9_roundFinely_50 : decode cX9_roundFinely 50 = .ok (.aload_n 0, 1) := dl_o42 kcX9_roundFinely (by decide +kernel)
theorem dX9_roundFinely_51 : decode cX9_roundFinely 51 = .ok (.getfield 77, 3) := dl_o180 kcX9_roundFinely (by decide +kernel)
theorem dX9_roundFinely_54 : decode cX9_roundFinely 54 = .ok (.imul, 1) := dl_o104 kcX9_roundFinely (by decide +kernel)
theorem dX9_roundFinely_55 : decode cX9_roundFinely 55 = .ok (.iconst 4, 1) := dl_o7 kcX9_roundFinely (by decide +kernel)
theorem dX9_roundFinely_56 : decode cX9_roundFinely 56 = .ok (.idiv, 1) := dl_o108 kcX9_roundFinely (by decide +kernel)
theorem dX9_roundFinely_57 : decode cX9_roundFinely 57 = .ok (.putfield 80, 3) := dl_o181 kcX9_roundFinely (by decide +kernel)
theorem dX9_roundFinely_60 : decode cX9_roundFinely 60 = .ok (.iload_n 1, 1) := dl_o27 kcX9_roundFinely (by decide +kernel)
theorem dX9_roundFinely_61 : decode cX9_roundFinely 61 = .ok (.bipush 15, 2) := dl_o16 kcX9_roundFinely 15 (by decide +kernel) (by decide +kernel)
theorem dX9_roundFinely_63 : decode cX9_roundFinely 63 = .ok (.iand, 1) := dl_o126 kcX9_roundFinely (by decide +kernel)
theorem dX9_roundFinely_64 : decode cX9_roundFinely 64 = .ok (.istore 4, 2) := dl_o54 kcX9_roundFinely (by decide +kernel)
theorem dX9_roundFinely_66 : decode cX9_roundFinely 66 = .ok (.aload_n 0, 1) := dl_o42 kcX9_roundFinely (by decide +kernel)
theorem dX9_roundFinely_67 : decode cX9_roundFinely 67 = .ok (.iload 4, 2) := dl_o21 kcX9_roundFinely (by decide +kernel)
theorem dX9_roundFinely_69 : decode cX9_roundFinely 69 = .ok (.ifCond .ne 12, 3) := dl_o154 kcX9_roundFinely 12 (by decide +kernel) (by decide +kernel)
theorem dX9_roundFinely_72 : decode cX9_roundFinely 72 = .ok (.aload_n 0, 1) := dl_o42 kcX9_roundFinely (by decide +kernel)
theorem dX9_roundFinely_73 : decode cX9_roundFinely 73 = .ok (.getfield 77, 3) := dl_o180 kcX9_roundFinely (by decide +kernel)
theorem dX9_roundFinely_76 : decode cX9_roundFinely 76 = .ok (.iconst 1, 1) := dl_o4 kcX9_roundFinely (by decide +kernel)
theorem dX9_roundFinely_77 : decode cX9_roundFinely 77 = .ok (.isub, 1) := dl_o100 kcX9_roundFinely (by decide +kernel)
theorem dX9_roundFinely_78 : decode cX9_roundFinely 78 = .ok (.goto 15, 3) := dl_o167 kcX9_roundFinely 15 (by decide +kernel) (by decide +kernel)
theorem dX9_roundFinely_81 : decode cX9_roundFinely 81 = .ok (.iload 4, 2) := dl_o21 kcX9_roundFinely (by decide +kernel)
theorem dX9_roundFinely_83 : decode cX9_roundFinely 83 = .ok (.iconst 4, 1) := dl_o7 kcX9_roundFinely (by decide +kernel)
theorem dX9_roundFinely_84 : decode cX9_roundFinely 84 = .ok (.isub, 1) := dl_o100 kcX9_roundFinely (by decide +kernel)
theorem dX9_roundFinely_85 : decode cX9_roundFinely 85 = .ok (.aload_n 0, 1) := dl_o42 kcX9_roundFinely (by decide +kernel)
theorem dX9_roundFinely_86 : decode cX9_roundFinely 86 = .ok (.getfield 77, 3) := dl_o180 kcX9_roundFinely (by decide +kernel)
theorem dX9_roundFinely_89 : decode cX9_roundFinely 89 = .ok (.imul, 1) := dl_o104 kcX9_roundFinely (by decide +kernel)
theorem dX9_roundFinely_90 : decode cX9_roundFinely 90 = .ok (.bipush 8, 2) := dl_o16 kcX9_roundFinely 8 (by decide +kernel) (by decide +kernel)
theorem dX9_roundFinely_92 : decode cX9_roundFinely 92 = .ok (.idiv, 1) := dl_o108 kcX9_roundFinely (by decide +kernel)
theorem dX9_roundFinely_93 : decode cX9_roundFinely 93 = .ok (.putfield 83, 3) := dl_o181 kcX9_roundFinely (by decide +kernel)
theorem dX9_roundFinely_96 : decode cX9_roundFinely 96 = .ok (.iconst 1, 1) := dl_o4 kcX9_roundFinely (by decide +kernel)
theorem dX9_roundFinely_97 : decode cX9_roundFinely 97 = .ok (.ireturn, 1) := dl_o172 kcX9_roundFinely (by decide +kernel)
def B_X9_roundFinely_41  (l1 : Int32) (s1 : Int32) (V : sv_V) : Option (Int32 × sv_V) := sx_let (sv_I V 70 9 s1) (fun V1 => sx_let (sv_I V1 70 10 ((((l1 >>> ((4 : Int32) &&& 31)) &&& (3 : Int32)) * (V1.1 70 9)) / (4 : Int32))) (fun V2 => sx_let (l1 &&& (15 : Int32)) (fun x3 => if x3 = 0 then (sx_let (sv_I V2 70 11 ((V2.1 70 9) - (1 : Int32))) (fun V6 => some ((1 : Int32), V6))) else (sx_let (sv_I V2 70 11 (((x3 - (4 : Int32)) * (V2.1 70 9)) / (8 : Int32))) (fun V5 => some ((1 : Int32), V5))))))
set_option maxRecDepth 20000 in
theorem tB_X9_roundFinely_41 {g : sx_G} (hG : sx_Go g) {P : Option Value → sv_V → Prop} {r : Int32} {Vr : sv_V} (hP : P (some (.int r)) Vr)   {l1 : Int32} {s1 : Int32} {V : sv_V} (h : B_X9_roundFinely_41  l1 s1 V = some (r, Vr)) : sv_N g qX9_roundFinely 0 41 [(0, .ref 70), (1, .int l1)] [.int s1, .ref 70] V P := by
  unfold B_X9_roundFinely_41 at h
  obtain ⟨V1, hV1⟩ : ∃ z : sv_V, z = sv_I V 70 9 s1 := ⟨_, rfl⟩
  have h := sx_letE hV1 h
  refine sv_putI (pc := 41) hG dX9_roundFinely_41 f_9_77 lay_70 rfl hV1 ?_
  refine sx_aload_n (pc := 44) dX9_roundFinely_44 sx_m0 ?_
  refine sx_iload_n (pc := 45) dX9_roundFinely_45 sx_m1 ?_
  refine sx_iconst (pc := 46) (v := 4) dX9_roundFinely_46 (by decide) ?_
  refine sx_ishr (pc := 47) dX9_roundFinely_47 ?_
  refine sx_iconst (pc := 48) (v := 3) dX9_roundFinely_48 (by decide) ?_
  refine sx_iand (pc := 49) dX9_roundFinely_49 ?_
  refine sx_aload_n (pc := 50) dX9_roundFinely_50 sx_m0 ?_
  refine sv_getI (pc := 51) hG dX9_roundFinely_51 f_9_77 lay_70 rfl ?_
  refine sx_imul (pc := 54) dX9_roundFinely_54 ?_
  refine sx_iconst (pc := 55) (v := 4) dX9_roundFinely_55 (by decide) ?_
  refine sx_idiv (pc := 56) dX9_roundFinely_56 (by decide) ?_
  obtain ⟨V2, hV2⟩ : ∃ z : sv_V, z = sv_I V1 70 10 ((((l1 >>> ((4 : Int32) &&& 31)) &&& (3 : Int32)) * (V1.1 70 9)) / (4 : Int32)) := ⟨_, rfl⟩
  have h := sx_letE hV2 h
  refine sv_putI (pc := 57) hG dX9_roundFinely_57 f_9_80 lay_70 rfl hV2 ?_
  refine sx_iload_n (pc := 60) dX9_roundFinely_60 sx_m1 ?_
  refine sx_bipush (pc := 61) (v := 15) dX9_roundFinely_61 (by decide) ?_
  refine sx_iand (pc := 63) dX9_roundFinely_63 ?_
  refine sv_tI (fun x3 hx3 => ?_)
  have h := sx_letE hx3 h
  refine sx_istore (pc := 64) (lo' := [(4, .int x3), (0, .ref 70), (1, .int l1)]) dX9_roundFinely_64 (by decide) rfl ?_
  refine sx_aload_n (pc := 66) dX9_roundFinely_66 sx_m1 ?_
  refine sx_iload (pc := 67) dX9_roundFinely_67 sx_m0 ?_
  refine sx_if_ne (pc := 69) (tgt := 81) dX9_roundFinely_69 (by decide) (fun c4 => ?_) (fun c4 => ?_)
  · have h := sx_neg c4 h
    refine sx_iload (pc := 81) dX9_roundFinely_81 sx_m0 ?_
    refine sx_iconst (pc := 83) (v := 4) dX9_roundFinely_83 (by decide) ?_
    refine sx_isub (pc := 84) dX9_roundFinely_84 ?_
    refine sx_aload_n (pc := 85) dX9_roundFinely_85 sx_m1 ?_
    refine sv_getI (pc := 86) hG dX9_roundFinely_86 f_9_77 lay_70 rfl ?_
    refine sx_imul (pc := 89) dX9_roundFinely_89 ?_
    refine sx_bipush (pc := 90) (v := 8) dX9_roundFinely_90 (by decide) ?_
    refine sx_idiv (pc := 92) dX9_roundFinely_92 (by decide) ?_
    obtain ⟨V5, hV5⟩ : ∃ z : sv_V, z = sv_I V2 70 11 (((x3 - (4 : Int32)) * (V2.1 70 9)) / (8 : Int32)) := ⟨_, rfl⟩
    have h := sx_letE hV5 h
    refine sv_putI (pc := 93) hG dX9_roundFinely_93 f_9_83 lay_70 rfl hV5 ?_
    refine sx_iconst (pc := 96) (v := 1) dX9_roundFinely_96 (by decide) ?_
    exact sv_zret (pc := 97) dX9_roundFinely_97 rfl rfl h hP
  · have h := sx_pos c4 h
    refine sx_aload_n (pc := 72) dX9_roundFinely_72 sx_m1 ?_
    refine sv_getI (pc := 73) hG dX9_roundFinely_73 f_9_77 lay_70 rfl ?_
    refine sx_iconst (pc := 76) (v := 1) dX9_roundFinely_76 (by decide) ?_
    refine sx_isub (pc := 77) dX9_roundFinely_77 ?_
    refine sx_goto (pc := 78) (tgt := 93) dX9_roundFinely_78 (by decide) ?_
    obtain ⟨V6, hV6⟩ : ∃ z : sv_V, z = sv_I V2 70 11 ((V2.1 70 9) - (1 : Int32)) := ⟨_, rfl⟩
    have h := sx_letE hV6 h
    refine sv_putI (pc := 93) hG dX9_roundFinely_93 f_9_83 lay_70 rfl hV6 ?_
    refine sx_iconst (pc := 96) (v := 1) dX9_roundFinely_96 (by decide) ?_
    exact sv_zret (pc := 97) dX9_roundFinely_97 rfl rfl h hP
def F_X9_roundFinely (l1 : Int32) (l2 : Int32) (V : sv_V) : Option (Int32 × sv_V) := sx_let ((l1 >>> ((6 : Int32) &&& 31)) &&& (3 : Int32)) (fun x7 => if x7 = (3 : Int32) then (some ((0 : Int32), V)) else (if l2 = (118 : Int32) then (B_X9_roundFinely_41  l1 ((32 : Int32) <<< (x7 &&& 31)) V) else (if x7 = 0 then (B_X9_roundFinely_41  l1 (22 : Int32) V) else (B_X9_roundFinely_41  l1 ((45 : Int32) * x7) V))))
set_option maxRecDepth 20000 in
theorem t_X9_roundFinely {g : sx_G} (hG : sx_Go g) {P : Option Value → sv_V → Prop} {r : Int32} {Vr : sv_V} (hP : P (some (.int r)) Vr) {l1 : Int32} {l2 : Int32} {V : sv_V} (h : F_X9_roundFinely l1 l2 V = some (r, Vr)) : sv_N g qX9_roundFinely 0 0 [(0, .ref 70), (1, .int l1), (2, .int l2)] [] V P := by
  unfold F_X9_roundFinely at h
  refine sx_iload_n (pc := 0) dX9_roundFinely_0 sx_m1 ?_
  refine sx_bipush (pc := 1) (v := 6) dX9_roundFinely_1 (by decide) ?_
  refine sx_ishr (pc := 3) dX9_roundFinely_3 ?_
  refine sx_iconst (pc := 4) (v := 3) dX9_roundFinely_4 (by decide) ?_
  refine sx_iand (pc := 5) dX9_roundFinely_5 ?_
  refine sv_tI (fun x7 hx7 => ?_)
  have h := sx_letE hx7 h
  refine sx_istore_n (pc := 6) (lo' := [(3, .int x7), (0, .ref 70), (1, .int l1), (2, .int l2)]) dX9_roundFinely_6 (by decide) rfl ?_
  refine sx_iload_n (pc := 7) dX9_roundFinely_7 sx_m0 ?_
  refine sx_iconst (pc := 8) (v := 3) dX9_roundFinely_8 (by decide) ?_
  refine sx_icmp_ne (pc := 9) (tgt := 14) dX9_roundFinely_9 (by decide) (fun c8 => ?_) (fun c8 => ?_)
  · have h := sx_neg c8 h
    refine sx_aload_n (pc := 14) dX9_roundFinely_14 sx_m1 ?_
    refine sx_iload_n (pc := 15) dX9_roundFinely_15 sx_m3 ?_
    refine sx_bipush (pc := 16) (v := 118) dX9_roundFinely_16 (by decide) ?_
    refine sx_icmp_ne (pc := 18) (tgt := 28) dX9_roundFinely_18 (by decide) (fun c9 => ?_) (fun c9 => ?_)
    · have h := sx_neg c9 h
      refine sx_iload_n (pc := 28) dX9_roundFinely_28 sx_m0 ?_
      refine sx_if_ne (pc := 29) (tgt := 37) dX9_roundFinely_29 (by decide) (fun c10 => ?_) (fun c10 => ?_)
      · have h := sx_neg c10 h
        refine sx_bipush (pc := 37) (v := 45) dX9_roundFinely_37 (by decide) ?_
        refine sx_iload_n (pc := 39) dX9_roundFinely_39 sx_m0 ?_
        refine sx_imul (pc := 40) dX9_roundFinely_40 ?_
        refine sx_wk (sx_s1 sx_m1 (sx_s1 sx_m2 sx_s0)) ?_
        exact tB_X9_roundFinely_41 hG hP  h
      · have h := sx_pos c10 h
        refine sx_bipush (pc := 32) (v := 22) dX9_roundFinely_32 (by decide) ?_
        refine sx_goto (pc := 34) (tgt := 41) dX9_roundFinely_34 (by decide) ?_
        refine sx_wk (sx_s1 sx_m1 (sx_s1 sx_m2 sx_s0)) ?_
        exact tB_X9_roundFinely_41 hG hP  h
    · have h := sx_pos c9 h
      refine sx_bipush (pc := 21) (v := 32) dX9_roundFinely_21 (by decide) ?_
      refine sx_iload_n (pc := 23) dX9_roundFinely_23 sx_m0 ?_
      refine sx_ishl (pc := 24) dX9_roundFinely_24 ?_
      refine sx_goto (pc := 25) (tgt := 41) dX9_roundFinely_25 (by decide) ?_
      refine sx_wk (sx_s1 sx_m1 (sx_s1 sx_m2 sx_s0)) ?_
      exact tB_X9_roundFinely_41 hG hP  h
  · have h := sx_pos c8 h
    refine sx_iconst (pc := 12) (v := 0) dX9_roundFinely_12 (by decide) ?_
    exact sv_zret (pc := 13) dX9_roundFinely_13 rfl rfl h hP
def ncX10_addLine : Nat := 136773889443194640216143094134548466550337065137472882152072101430995703395050773409719895365247370661676944810116584772341671492133180956261768925019755713980666256555427065838662092544071489262192726672003722871499668103236164341446456381822548803868303991629158954283273355760650226207689374359085781376568866593879082
theorem kcX10_addLine : CK cX10_addLine ncX10_addLine 133 := ⟨by decide +kernel, by decide +kernel⟩
theorem dX10_addLine_0 : decode cX10_addLine 0 = .ok (.aload_n 0, 1) := dl_o42 kcX10_addLine (by decide +kernel)
theorem dX10_addLine_1 : decode cX10_addLine 1 = .ok (.getfield 37, 3) := dl_o180 kcX10_addLine (by decide +kernel)
theorem dX10_addLine_4 : decode cX10_addLine 4 = .ok (.bipush 100, 2) := dl_o16 kcX10_addLine 100 (by decide +kernel) (by decide +kernel)
theorem dX10_addLine_6 : decode cX10_addLine 6 = .ok (.if_icmp .lt 4, 3) := dl_o161 kcX10_addLine 4 (by decide +kernel) (by decide +kernel)
theorem dX10_addLine_9 : decode cX10_addLine 9 = .ok (.return_, 1) := dl_o177 kcX10_addLine (by decide +kernel)
theorem dX10_addLine_10 : decode cX10_addLine 10 = .ok (.aload_n 0, 1) := dl_o42 kcX10_addLine (by decide +kernel)
theorem dX10_addLine_11 : decode cX10_addLine 11 = .ok (.getfield 9, 3) := dl_o180 kcX10_addLine (by decide +kernel)
theorem dX10_addLine_14 : decode cX10_addLine 14 = .ok (.aload_n 0, 1) := dl_o42 kcX10_addLine (by decide +kernel)
theorem dX10_addLine_15 : decode cX10_addLine 15 = .ok (.getfield 37, 3) := dl_o180 kcX10_addLine (by decide +kernel)
theorem dX10_addLine_18 : decode cX10_addLine 18 = .ok (.iconst 2, 1) := dl_o5 kcX10_addLine (by decide +kernel)
theorem dX10_addLine_19 : decode cX10_addLine 19 = .ok (.aload_n 1, 1) := dl_o43 kcX10_addLine (by decide +kernel)
theorem dX10_addLine_20 : decode cX10_addLine 20 = .ok (.getfield 66, 3) := dl_o180 kcX10_addLine (by decide +kernel)
theorem dX10_addLine_23 : decode cX10_addLine 23 = .ok (.iload_n 2, 1) := dl_o28 kcX10_addLine (by decide +kernel)
theorem dX10_addLine_24 : decode cX10_addLine 24 = .ok (.iaload, 1) := dl_o46 kcX10_addLine (by decide +kernel)
theorem dX10_addLine_25 : decode cX10_addLine 25 = .ok (.imul, 1) := dl_o104 kcX10_addLine (by decide +kernel)
theorem dX10_addLine_26 : decode cX10_addLine 26 = .ok (.iastore, 1) := dl_o79 kcX10_addLine (by decide +kernel)
theorem dX10_addLine_27 : decode cX10_addLine 27 = .ok (.aload_n 0, 1) := dl_o42 kcX10_addLine (by decide +kernel)
theorem dX10_addLine_28 : decode cX10_addLine 28 = .ok (.getfield 15, 3) := dl_o180 kcX10_addLine (by decide +kernel)
theorem dX10_addLine_31 : decode cX10_addLine 31 = .ok (.aload_n 0, 1) := dl_o42 kcX10_addLine (by decide +kernel)
theorem dX10_addLine_32 : decode cX10_addLine 32 = .ok (.getfield 37, 3) := dl_o180 kcX10_addLine (by decide +kernel)
theorem dX10_addLine_35 : decode cX10_addLine 35 = .ok (.iconst 2, 1) := dl_o5 kcX10_addLine (by decide +kernel)
theorem dX10_addLine_36 : decode cX10_addLine 36 = .ok (.aload_n 1, 1) := dl_o43 kcX10_addLine (by decide +kernel)
theorem dX10_addLine_37 : decode cX10_addLine 37 = .ok (.getfield 88, 3) := dl_o180 kcX10_addLine (by decide +kernel)
theorem dX10_addLine_40 : decode cX10_addLine 40 = .ok (.iload_n 2, 1) := dl_o28 kcX10_addLine (by decide +kernel)
theorem dX10_addLine_41 : decode cX10_addLine 41 = .ok (.iaload, 1) := dl_o46 kcX10_addLine (by decide +kernel)
theorem dX10_addLine_42 : decode cX10_addLine 42 = .ok (.imul, 1) := dl_o104 kcX10_addLine (by decide +kernel)
theorem dX10_addLine_43 : decode cX10_addLine 43 = .ok (.iastore, 1) := dl_o79 kcX10_addLine (by decide +kernel)
theorem dX10_addLine_44 : decode cX10_addLine 44 = .ok (.aload_n 0, 1) := dl_o42 kcX10_addLine (by decide +kernel)
theorem dX10_addLine_45 : decode cX10_addLine 45 = .ok (.getfield 18, 3) := dl_o180 kcX10_addLine (by decide +kernel)
theorem dX10_addLine_48 : decode cX10_addLine 48 = .ok (.aload_n 0, 1) := dl_o42 kcX10_addLine (by decide +kernel)
theorem dX10_addLine_49 : decode cX10_addLine 49 = .ok (.getfield 37, 3) := dl_o180 kcX10_addLine (by decide +kernel)
theorem dX10_addLine_52 : decode cX10_addLine 52 = .ok (.iconst 2, 1) := dl_o5 kcX10_addLine (by decide +kernel)
theorem dX10_addLine_53 : decode cX10_addLine 53 = .ok (.aload_n 1, 1) := dl_o43 kcX10_addLine (by decide +kernel)
theorem dX10_addLine_54 : decode cX10_addLine 54 = .ok (.getfield 66, 3) := dl_o180 kcX10_addLine (by decide +kernel)
theorem dX10_addLine_57 : decode cX10_addLine 57 = .ok (.iload_n 2, 1) := dl_o28 kcX10_addLine (by decide +kernel)
theorem dX10_addLine_58 : decode cX10_addLine 58 = .ok (.iaload, 1) := dl_o46 kcX10_addLine (by decide +kernel)
theorem dX10_addLine_59 : decode cX10_addLine 59 = .ok (.imul, 1) := dl_o104 kcX10_addLine (by decide +kernel)
theorem dX10_addLine_60 : decode cX10_addLine 60 = .ok (.iastore, 1) := dl_o79 kcX10_addLine (by decide +kernel)
theorem dX10_addLine_61 : decode cX10_addLine 61 = .ok (.aload_n 0, 1) := dl_o42 kcX10_addLine (by decide +kernel)
theorem dX10_addLine_62 : decode cX10_addLine 62 = .ok (.getfield 21, 3) := dl_o180 kcX10_addLine (by decide +kernel)
theorem dX10_addLine_65 : decode cX10_addLine 65 = .ok (.aload_n 0, 1) := dl_o42 kcX10_addLine (by decide +kernel)
theorem dX10_addLine_66 : decode cX10_addLine 66 = .ok (.getfield 37, 3) := dl_o180 kcX10_addLine (by decide +kernel)
theorem dX10_addLine_69 : decode cX10_addLine 69 = .ok (.iconst 2, 1) := dl_o5 kcX10_addLine (by decide +kernel)
theorem dX10_addLine_70 : decode cX10_addLine 70 = .ok (.aload_n 1, 1) := dl_o43 kcX10_addLine (by decide +kernel)
theorem dX10_addLine_71 : decode cX10_addLine 71 = .ok (.getfield 88, 3) := dl_o180 kcX10_addLine (by decide +kernel)
theorem dX10_addLine_74 : decode cX10_addLine 74 = .ok (.iload_n 2, 1) := dl_o28 kcX10_addLine (by decide +kernel)
theorem dX10_addLine_75 : decode cX10_addLine 75 = .ok (.iaload, 1) := dl_o46 kcX10_addLine (by decide +kernel)
theorem dX10_addLine_76 : decode cX10_addLine 76 = .ok (.imul, 1) := dl_o104 kcX10_addLine (by decide +kernel)
theorem dX10_addLine_77 : decode cX10_addLine 77 = .ok (.iastore, 1) := dl_o79 kcX10_addLine (by decide +kernel)
theorem dX10_addLine_78 : decode cX10_addLine 78 = .ok (.aload_n 0, 1) := dl_o42 kcX10_addLine (by decide +kernel)
theorem dX10_addLine_79 : decode cX10_addLine 79 = .ok (.getfield 24, 3) := dl_o180 kcX10_addLine (by decide +kernel)
theorem dX10_addLine_82 : decode cX10_addLine 82 = .ok (.aload_n 0, 1) := dl_o42 kcX10_addLine (by decide +kernel)
theorem dX10_addLine_83 : decode cX10_addLine 83 = .ok (.getfield 37, 3) := dl_o180 kcX10_addLine (by decide +kernel)
theorem dX10_addLine_86 : decode cX10_addLine 86 = .ok (.iconst 2, 1) := dl_o5 kcX10_addLine (by decide +kernel)
theorem dX10_addLine_87 : decode cX10_addLine 87 = .ok (.aload_n 1, 1) := dl_o43 kcX10_addLine (by decide +kernel)
theorem dX10_addLine_88 : decode cX10_addLine 88 = .ok (.getfield 66, 3) := dl_o180 kcX10_addLine (by decide +kernel)
theorem dX10_addLine_91 : decode cX10_addLine 91 = .ok (.iload_n 3, 1) := dl_o29 kcX10_addLine (by decide +kernel)
theorem dX10_addLine_92 : decode cX10_addLine 92 = .ok (.iaload, 1) := dl_o46 kcX10_addLine (by decide +kernel)
theorem dX10_addLine_93 : decode cX10_addLine 93 = .ok (.imul, 1) := dl_o104 kcX10_addLine (by decide +kernel)
theorem dX10_addLine_94 : decode cX10_addLine 94 = .ok (.iastore, 1) := dl_o79 kcX10_addLine (by decide +kernel)
theorem dX10_addLine_95 : decode cX10_addLine 95 = .ok (.aload_n 0, 1) := dl_o42 kcX10_addLine (by decide +kernel)
theorem dX10_addLine_96 : decode cX10_addLine 96 = .ok (.getfield 27, 3) := dl_o180 kcX10_addLine (by decide +kernel)
theorem dX10_addLine_99 : decode cX10_addLine 99 = .ok (.aload_n 0, 1) := dl_o42 kcX10_addLine (by decide +kernel)
theorem dX10_addLine_100 : decode cX10_addLine 100 = .ok (.getfield 37, 3) := dl_o180 kcX10_addLine (by decide +kernel)
theorem dX10_addLine_103 : decode cX10_addLine 103 = .ok (.iconst 2, 1) := dl_o5 kcX10_addLine (by decide +kernel)
theorem dX10_addLine_104 : decode cX10_addLine 104 = .ok (.aload_n 1, 1) := dl_o43 kcX10_addLine (by decide +kernel)
theorem dX10_addLine_105 : decode cX10_addLine 105 = .ok (.getfield 88, 3) := dl_o180 kcX10_addLine (by decide +kernel)
theorem dX10_addLine_108 : decode cX10_addLine 108 = .ok (.iload_n 3, 1) := dl_o29 kcX10_addLine (by decide +kernel)
theorem dX10_addLine_109 : decode cX10_addLine 109 = .ok (.iaload, 1) := dl_o46 kcX10_addLine (by decide +kernel)
theorem dX10_addLine_110 : decode cX10_addLine 110 = .ok (.imul, 1) := dl_o104 kcX10_addLine (by decide +kernel)
theorem dX10_addLine_111 : decode cX10_addLine 111 = .ok (.iastore, 1) := dl_o79 kcX10_addLine (by decide +kernel)
theorem dX10_addLine_112 : decode cX10_addLine 112 = .ok (.aload_n 0, 1) := dl_o42 kcX10_addLine (by decide +kernel)
theorem dX10_addLine_113 : decode cX10_addLine 113 = .ok (.getfield 30, 3) := dl_o180 kcX10_addLine (by decide +kernel)
theorem dX10_addLine_116 : decode cX10_addLine 116 = .ok (.aload_n 0, 1) := dl_o42 kcX10_addLine (by decide +kernel)
theorem dX10_addLine_117 : decode cX10_addLine 117 = .ok (.getfield 37, 3) := dl_o180 kcX10_addLine (by decide +kernel)
theorem dX10_addLine_120 : decode cX10_addLine 120 = .ok (.iconst 0, 1) := dl_o3 kcX10_addLine (by decide +kernel)
theorem dX10_addLine_121 : decode cX10_addLine 121 = .ok (.bastore, 1) := dl_o84 kcX10_addLine (by decide +kernel)
theorem dX10_addLine_122 : decode cX10_addLine 122 = .ok (.aload_n 0, 1) := dl_o42 kcX10_addLine (by decide +kernel)
theorem dX10_addLine_123 : decode cX10_addLine 123 = .ok (.dup, 1) := dl_o89 kcX10_addLine (by decide +kernel)
theorem dX10_addLine_124 : decode cX10_addLine 124 = .ok (.getfield 37, 3) := dl_o180 kcX10_addLine (by decide +kernel)
theorem dX10_addLine_127 : decode cX10_addLine 127 = .ok (.iconst 1, 1) := dl_o4 kcX10_addLine (by decide +kernel)
theorem dX10_addLine_128 : decode cX10_addLine 128 = .ok (.iadd, 1) := dl_o96 kcX10_addLine (by decide +kernel)
theorem dX10_addLine_129 : decode cX10_addLine 129 = .ok (.putfield 37, 3) := dl_o181 kcX10_addLine (by decide +kernel)
theorem dX10_addLine_132 : decode cX10_addLine 132 = .ok (.return_, 1) := dl_o177 kcX10_addLine (by decide +kernel)
def F_X10_addLine (l1 : Nat) (l2 : Int32) (l3 : Int32) (V : sv_V) : Option sv_V := if (V.1 60 7) < (100 : Int32) then (if lay l1 = .inl 8 then (cr l1 0).bind (fun b3 => (sv_len 0 b3).bind (fun n5 => if sx_in l2 n5 = true then if sx_in (V.1 60 7) 100 = true then sx_let (sv_I V 61 (V.1 60 7).toNatClampNeg ((2 : Int32) * (V.1 b3 l2.toNatClampNeg))) (fun V9 => (cr l1 1).bind (fun b10 => (sv_len 0 b10).bind (fun n12 => if sx_in l2 n12 = true then if sx_in (V9.1 60 7) 100 = true then sx_let (sv_I V9 62 (V9.1 60 7).toNatClampNeg ((2 : Int32) * (V9.1 b10 l2.toNatClampNeg))) (fun V16 => if sx_in l2 n5 = true then if sx_in (V16.1 60 7) 100 = true then sx_let (sv_I V16 63 (V16.1 60 7).toNatClampNeg ((2 : Int32) * (V16.1 b3 l2.toNatClampNeg))) (fun V19 => if sx_in l2 n12 = true then if sx_in (V19.1 60 7) 100 = true then sx_let (sv_I V19 64 (V19.1 60 7).toNatClampNeg ((2 : Int32) * (V19.1 b10 l2.toNatClampNeg))) (fun V22 => if sx_in l3 n5 = true then if sx_in (V22.1 60 7) 100 = true then sx_let (sv_I V22 65 (V22.1 60 7).toNatClampNeg ((2 : Int32) * (V22.1 b3 l3.toNatClampNeg))) (fun V25 => if sx_in l3 n12 = true then if sx_in (V25.1 60 7) 100 = true then sx_let (sv_I V25 66 (V25.1 60 7).toNatClampNeg ((2 : Int32) * (V25.1 b10 l3.toNatClampNeg))) (fun V28 => if sx_in (V28.1 60 7) 100 = true then sx_let (sv_I V28 67 (V28.1 60 7).toNatClampNeg (0 : Int32)) (fun V30 => sx_let (sv_I V30 60 7 ((V30.1 60 7) + (1 : Int32))) (fun V31 => some V31)) else none) else none else none) else none else none) else none else none) else none else none) else none else none))) else none else none)) else none) else (some V)
set_option maxRecDepth 20000 in
theorem t_X10_addLine {g : sx_G} (hG : sx_Go g) {P : Option Value → sv_V → Prop} {Vr : sv_V} (hP : P none Vr) {l1 : Nat} {l2 : Int32} {l3 : Int32} {V : sv_V} (h : F_X10_addLine l1 l2 l3 V = some Vr) : sv_N g qX10_addLine 0 0 [(0, .ref 60), (1, .ref l1), (2, .int l2), (3, .int l3)] [] V P := by
  unfold F_X10_addLine at h
  refine sx_aload_n (pc := 0) dX10_addLine_0 sx_m0 ?_
  refine sv_getI (pc := 1) hG dX10_addLine_1 f_10_37 lay_60 rfl ?_
  refine sx_bipush (pc := 4) (v := 100) dX10_addLine_4 (by decide) ?_
  refine sx_icmp_lt (pc := 6) (tgt := 10) dX10_addLine_6 (by decide) (fun c1 => ?_) (fun c1 => ?_)
  · have h := sx_pos c1 h
    refine sx_aload_n (pc := 10) dX10_addLine_10 sx_m0 ?_
    refine sv_getA (pc := 11) hG dX10_addLine_11 f_10_9 lay_60 rfl cr_60_0 ?_
    refine sx_aload_n (pc := 14) dX10_addLine_14 sx_m0 ?_
    refine sv_getI (pc := 15) hG dX10_addLine_15 f_10_37 lay_60 rfl ?_
    refine sx_iconst (pc := 18) (v := 2) dX10_addLine_18 (by decide) ?_
    refine sx_aload_n (pc := 19) dX10_addLine_19 sx_m1 ?_
    obtain ⟨g2, h⟩ := sx_grd h
    obtain ⟨b3, g4, h⟩ := sx_bnd h
    refine sv_getA (pc := 20) hG dX10_addLine_20 f_10_66 g2 rfl g4 ?_
    refine sx_iload_n (pc := 23) dX10_addLine_23 sx_m2 ?_
    obtain ⟨n5, g6, h⟩ := sx_bnd h
    obtain ⟨g7, h⟩ := sx_grd h
    refine sv_iald (pc := 24) hG dX10_addLine_24 (sv_len_e g6) g7 ?_
    refine sx_imul (pc := 25) dX10_addLine_25 ?_
    obtain ⟨g8, h⟩ := sx_grd h
    obtain ⟨V9, hV9⟩ : ∃ z : sv_V, z = sv_I V 61 (V.1 60 7).toNatClampNeg ((2 : Int32) * (V.1 b3 l2.toNatClampNeg)) := ⟨_, rfl⟩
    have h := sx_letE hV9 h
    refine sv_iast (pc := 26) hG dX10_addLine_26 lay_61 g8 hV9 ?_
    refine sx_aload_n (pc := 27) dX10_addLine_27 sx_m0 ?_
    refine sv_getA (pc := 28) hG dX10_addLine_28 f_10_15 lay_60 rfl cr_60_1 ?_
    refine sx_aload_n (pc := 31) dX10_addLine_31 sx_m0 ?_
    refine sv_getI (pc := 32) hG dX10_addLine_32 f_10_37 lay_60 rfl ?_
    refine sx_iconst (pc := 35) (v := 2) dX10_addLine_35 (by decide) ?_
    refine sx_aload_n (pc := 36) dX10_addLine_36 sx_m1 ?_
    obtain ⟨b10, g11, h⟩ := sx_bnd h
    refine sv_getA (pc := 37) hG dX10_addLine_37 f_10_88 g2 rfl g11 ?_
    refine sx_iload_n (pc := 40) dX10_addLine_40 sx_m2 ?_
    obtain ⟨n12, g13, h⟩ := sx_bnd h
    obtain ⟨g14, h⟩ := sx_grd h
    refine sv_iald (pc := 41) hG dX10_addLine_41 (sv_len_e g13) g14 ?_
    refine sx_imul (pc := 42) dX10_addLine_42 ?_
    obtain ⟨g15, h⟩ := sx_grd h
    obtain ⟨V16, hV16⟩ : ∃ z : sv_V, z = sv_I V9 62 (V9.1 60 7).toNatClampNeg ((2 : Int32) * (V9.1 b10 l2.toNatClampNeg)) := ⟨_, rfl⟩
    have h := sx_letE hV16 h
    refine sv_iast (pc := 43) hG dX10_addLine_43 lay_62 g15 hV16 ?_
    refine sx_aload_n (pc := 44) dX10_addLine_44 sx_m0 ?_
    refine sv_getA (pc := 45) hG dX10_addLine_45 f_10_18 lay_60 rfl cr_60_2 ?_
    refine sx_aload_n (pc := 48) dX10_addLine_48 sx_m0 ?_
    refine sv_getI (pc := 49) hG dX10_addLine_49 f_10_37 lay_60 rfl ?_
    refine sx_iconst (pc := 52) (v := 2) dX10_addLine_52 (by decide) ?_
    refine sx_aload_n (pc := 53) dX10_addLine_53 sx_m1 ?_
    refine sv_getA (pc := 54) hG dX10_addLine_54 f_10_66 g2 rfl g4 ?_
    refine sx_iload_n (pc := 57) dX10_addLine_57 sx_m2 ?_
    obtain ⟨g17, h⟩ := sx_grd h
    refine sv_iald (pc := 58) hG dX10_addLine_58 (sv_len_e g6) g17 ?_
    refine sx_imul (pc := 59) dX10_addLine_59 ?_
    obtain ⟨g18, h⟩ := sx_grd h
    obtain ⟨V19, hV19⟩ : ∃ z : sv_V, z = sv_I V16 63 (V16.1 60 7).toNatClampNeg ((2 : Int32) * (V16.1 b3 l2.toNatClampNeg)) := ⟨_, rfl⟩
    have h := sx_letE hV19 h
    refine sv_iast (pc := 60) hG dX10_addLine_60 lay_63 g18 hV19 ?_
    refine sx_aload_n (pc := 61) dX10_addLine_61 sx_m0 ?_
    refine sv_getA (pc := 62) hG dX10_addLine_62 f_10_21 lay_60 rfl cr_60_3 ?_
    refine sx_aload_n (pc := 65) dX10_addLine_65 sx_m0 ?_
    refine sv_getI (pc := 66) hG dX10_addLine_66 f_10_37 lay_60 rfl ?_
    refine sx_iconst (pc := 69) (v := 2) dX10_addLine_69 (by decide) ?_
    refine sx_aload_n (pc := 70) dX10_addLine_70 sx_m1 ?_
    refine sv_getA (pc := 71) hG dX10_addLine_71 f_10_88 g2 rfl g11 ?_
    refine sx_iload_n (pc := 74) dX10_addLine_74 sx_m2 ?_
    obtain ⟨g20, h⟩ := sx_grd h
    refine sv_iald (pc := 75) hG dX10_addLine_75 (sv_len_e g13) g20 ?_
    refine sx_imul (pc := 76) dX10_addLine_76 ?_
    obtain ⟨g21, h⟩ := sx_grd h
    obtain ⟨V22, hV22⟩ : ∃ z : sv_V, z = sv_I V19 64 (V19.1 60 7).toNatClampNeg ((2 : Int32) * (V19.1 b10 l2.toNatClampNeg)) := ⟨_, rfl⟩
    have h := sx_letE hV22 h
    refine sv_iast (pc := 77) hG dX10_addLine_77 lay_64 g21 hV22 ?_
    refine sx_aload_n (pc := 78) dX10_addLine_78 sx_m0 ?_
    refine sv_getA (pc := 79) hG dX10_addLine_79 f_10_24 lay_60 rfl cr_60_4 ?_
    refine sx_aload_n (pc := 82) dX10_addLine_82 sx_m0 ?_
    refine sv_getI (pc := 83) hG dX10_addLine_83 f_10_37 lay_60 rfl ?_
    refine sx_iconst (pc := 86) (v := 2) dX10_addLine_86 (by decide) ?_
    refine sx_aload_n (pc := 87) dX10_addLine_87 sx_m1 ?_
    refine sv_getA (pc := 88) hG dX10_addLine_88 f_10_66 g2 rfl g4 ?_
    refine sx_iload_n (pc := 91) dX10_addLine_91 sx_m3 ?_
    obtain ⟨g23, h⟩ := sx_grd h
    refine sv_iald (pc := 92) hG dX10_addLine_92 (sv_len_e g6) g23 ?_
    refine sx_imul (pc := 93) dX10_addLine_93 ?_
    obtain ⟨g24, h⟩ := sx_grd h
    obtain ⟨V25, hV25⟩ : ∃ z : sv_V, z = sv_I V22 65 (V22.1 60 7).toNatClampNeg ((2 : Int32) * (V22.1 b3 l3.toNatClampNeg)) := ⟨_, rfl⟩
    have h := sx_letE hV25 h
    refine sv_iast (pc := 94) hG dX10_addLine_94 lay_65 g24 hV25 ?_
    refine sx_aload_n (pc := 95) dX10_addLine_95 sx_m0 ?_
    refine sv_getA (pc := 96) hG dX10_addLine_96 f_10_27 lay_60 rfl cr_60_5 ?_
    refine sx_aload_n (pc := 99) dX10_addLine_99 sx_m0 ?_
    refine sv_getI (pc := 100) hG dX10_addLine_100 f_10_37 lay_60 rfl ?_
    refine sx_iconst (pc := 103) (v := 2) dX10_addLine_103 (by decide) ?_
    refine sx_aload_n (pc := 104) dX10_addLine_104 sx_m1 ?_
    refine sv_getA (pc := 105) hG dX10_addLine_105 f_10_88 g2 rfl g11 ?_
    refine sx_iload_n (pc := 108) dX10_addLine_108 sx_m3 ?_
    obtain ⟨g26, h⟩ := sx_grd h
    refine sv_iald (pc := 109) hG dX10_addLine_109 (sv_len_e g13) g26 ?_
    refine sx_imul (pc := 110) dX10_addLine_110 ?_
    obtain ⟨g27, h⟩ := sx_grd h
    obtain ⟨V28, hV28⟩ : ∃ z : sv_V, z = sv_I V25 66 (V25.1 60 7).toNatClampNeg ((2 : Int32) * (V25.1 b10 l3.toNatClampNeg)) := ⟨_, rfl⟩
    have h := sx_letE hV28 h
    refine sv_iast (pc := 111) hG dX10_addLine_111 lay_66 g27 hV28 ?_
    refine sx_aload_n (pc := 112) dX10_addLine_112 sx_m0 ?_
    refine sv_getA (pc := 113) hG dX10_addLine_113 f_10_30 lay_60 rfl cr_60_6 ?_
    refine sx_aload_n (pc := 116) dX10_addLine_116 sx_m0 ?_
    refine sv_getI (pc := 117) hG dX10_addLine_117 f_10_37 lay_60 rfl ?_
    refine sx_iconst (pc := 120) (v := 0) dX10_addLine_120 (by decide) ?_
    obtain ⟨g29, h⟩ := sx_grd h
    obtain ⟨V30, hV30⟩ : ∃ z : sv_V, z = sv_I V28 67 (V28.1 60 7).toNatClampNeg (0 : Int32) := ⟨_, rfl⟩
    have h := sx_letE hV30 h
    refine sv_zast (pc := 121) hG dX10_addLine_121 lay_67 g29 rfl hV30 ?_
    refine sx_aload_n (pc := 122) dX10_addLine_122 sx_m0 ?_
    refine sx_dup (pc := 123) dX10_addLine_123 rfl ?_
    refine sv_getI (pc := 124) hG dX10_addLine_124 f_10_37 lay_60 rfl ?_
    refine sx_iconst (pc := 127) (v := 1) dX10_addLine_127 (by decide) ?_
    refine sx_iadd (pc := 128) dX10_addLine_128 ?_
    obtain ⟨V31, hV31⟩ : ∃ z : sv_V, z = sv_I V30 60 7 ((V30.1 60 7) + (1 : Int32)) := ⟨_, rfl⟩
    have h := sx_letE hV31 h
    refine sv_putI (pc := 129) hG dX10_addLine_129 f_10_37 lay_60 rfl hV31 ?_
    exact sv_vret (pc := 132) dX10_addLine_132 rfl h hP
  · have h := sx_neg c1 h
    exact sv_vret (pc := 9) dX10_addLine_9 rfl h hP
def ncX10_addCurve : Nat := 27982147819298662775679310243808663931165260308064669183469086950861147039088044645112674571302132517352757865208826392196592658706024175995581438102357106088193726759651665277039163441663620320554188799959047966921865120011902499680917302113281739925147424505373170978438894628162123728539136770875312693819526922153533708614358559920562198397275354705628967651305706372250326833596078765297135504073129257396986180101996792205017198753281142421319679160678240034534442
theorem kcX10_addCurve : CK cX10_addCurve ncX10_addCurve 195 := ⟨by decide +kernel, by decide +kernel⟩
theorem dX10_addCurve_0 : decode cX10_addCurve 0 = .ok (.aload_n 0, 1) := dl_o42 kcX10_addCurve (by decide +kernel)
theorem dX10_addCurve_1 : decode cX10_addCurve 1 = .ok (.getfield 37, 3) := dl_o180 kcX10_addCurve (by decide +kernel)
theorem dX10_addCurve_4 : decode cX10_addCurve 4 = .ok (.bipush 100, 2) := dl_o16 kcX10_addCurve 100 (by decide +kernel) (by decide +kernel)
theorem dX10_addCurve_6 : decode cX10_addCurve 6 = .ok (.if_icmp .lt 4, 3) := dl_o161 kcX10_addCurve 4 (by decide +kernel) (by decide +kernel)
theorem dX10_addCurve_9 : decode cX10_addCurve 9 = .ok (.return_, 1) := dl_o177 kcX10_addCurve (by decide +kernel)
theorem dX10_addCurve_10 : decode cX10_addCurve 10 = .ok (.aload_n 1, 1) := dl_o43 kcX10_addCurve (by decide +kernel)
theorem dX10_addCurve_11 : decode cX10_addCurve 11 = .ok (.getfield 78, 3) := dl_o180 kcX10_addCurve (by decide +kernel)
theorem dX10_addCurve_14 : decode cX10_addCurve 14 = .ok (.iload_n 2, 1) := dl_o28 kcX10_addCurve (by decide +kernel)
theorem dX10_addCurve_15 : decode cX10_addCurve 15 = .ok (.iaload, 1) := dl_o46 kcX10_addCurve (by decide +kernel)
theorem dX10_addCurve_16 : decode cX10_addCurve 16 = .ok (.iconst 1, 1) := dl_o4 kcX10_addCurve (by decide +kernel)
theorem dX10_addCurve_17 : decode cX10_addCurve 17 = .ok (.if_icmp .ne 7, 3) := dl_o160 kcX10_addCurve 7 (by decide +kernel) (by decide +kernel)
theorem dX10_addCurve_20 : decode cX10_addCurve 20 = .ok (.iload_n 2, 1) := dl_o28 kcX10_addCurve (by decide +kernel)
theorem dX10_addCurve_21 : decode cX10_addCurve 21 = .ok (.goto 4, 3) := dl_o167 kcX10_addCurve 4 (by decide +kernel) (by decide +kernel)
theorem dX10_addCurve_24 : decode cX10_addCurve 24 = .ok (.iload_n 3, 1) := dl_o29 kcX10_addCurve (by decide +kernel)
theorem dX10_addCurve_25 : decode cX10_addCurve 25 = .ok (.istore 5, 2) := dl_o54 kcX10_addCurve (by decide +kernel)
theorem dX10_addCurve_27 : decode cX10_addCurve 27 = .ok (.aload_n 1, 1) := dl_o43 kcX10_addCurve (by decide +kernel)
theorem dX10_addCurve_28 : decode cX10_addCurve 28 = .ok (.getfield 78, 3) := dl_o180 kcX10_addCurve (by decide +kernel)
theorem dX10_addCurve_31 : decode cX10_addCurve 31 = .ok (.iload 4, 2) := dl_o21 kcX10_addCurve (by decide +kernel)
theorem dX10_addCurve_33 : decode cX10_addCurve 33 = .ok (.iaload, 1) := dl_o46 kcX10_addCurve (by decide +kernel)
theorem dX10_addCurve_34 : decode cX10_addCurve 34 = .ok (.iconst 1, 1) := dl_o4 kcX10_addCurve (by decide +kernel)
theorem dX10_addCurve_35 : decode cX10_addCurve 35 = .ok (.if_icmp .ne 8, 3) := dl_o160 kcX10_addCurve 8 (by decide +kernel) (by decide +kernel)
theorem dX10_addCurve_38 : decode cX10_addCurve 38 = .ok (.iload 4, 2) := dl_o21 kcX10_addCurve (by decide +kernel)
theorem dX10_addCurve_40 : decode cX10_addCurve 40 = .ok (.goto 4, 3) := dl_o167 kcX10_addCurve 4 (by decide +kernel) (by decide +kernel)
theorem dX10_addCurve_43 : decode cX10_addCurve 43 = .ok (.iload_n 3, 1) := dl_o29 kcX10_addCurve (by decide +kernel)
theorem dX10_addCurve_44 : decode cX10_addCurve 44 = .ok (.istore 6, 2) := dl_o54 kcX10_addCurve (by decide +kernel)
theorem dX10_addCurve_46 : decode cX10_addCurve 46 = .ok (.aload_n 0, 1) := dl_o42 kcX10_addCurve (by decide +kernel)
theorem dX10_addCurve_47 : decode cX10_addCurve 47 = .ok (.getfield 9, 3) := dl_o180 kcX10_addCurve (by decide +kernel)
theorem dX10_addCurve_50 : decode cX10_addCurve 50 = .ok (.aload_n 0, 1) := dl_o42 kcX10_addCurve (by decide +kernel)
theorem dX10_addCurve_51 : decode cX10_addCurve 51 = .ok (.getfield 37, 3) := dl_o180 kcX10_addCurve (by decide +kernel)
theorem dX10_addCurve_54 : decode cX10_addCurve 54 = .ok (.aload_n 1, 1) := dl_o43 kcX10_addCurve (by decide +kernel)
theorem dX10_addCurve_55 : decode cX10_addCurve 55 = .ok (.getfield 66, 3) := dl_o180 kcX10_addCurve (by decide +kernel)
theorem dX10_addCurve_58 : decode cX10_addCurve 58 = .ok (.iload_n 2, 1) := dl_o28 kcX10_addCurve (by decide +kernel)
theorem dX10_addCurve_59 : decode cX10_addCurve 59 = .ok (.iaload, 1) := dl_o46 kcX10_addCurve (by decide +kernel)
theorem dX10_addCurve_60 : decode cX10_addCurve 60 = .ok (.aload_n 1, 1) := dl_o43 kcX10_addCurve (by decide +kernel)
theorem dX10_addCurve_61 : decode cX10_addCurve 61 = .ok (.getfield 66, 3) := dl_o180 kcX10_addCurve (by decide +kernel)
theorem dX10_addCurve_64 : decode cX10_addCurve 64 = .ok (.iload 5, 2) := dl_o21 kcX10_addCurve (by decide +kernel)
theorem dX10_addCurve_66 : decode cX10_addCurve 66 = .ok (.iaload, 1) := dl_o46 kcX10_addCurve (by decide +kernel)
theorem dX10_addCurve_67 : decode cX10_addCurve 67 = .ok (.iadd, 1) := dl_o96 kcX10_addCurve (by decide +kernel)
theorem dX10_addCurve_68 : decode cX10_addCurve 68 = .ok (.iastore, 1) := dl_o79 kcX10_addCurve (by decide +kernel)
theorem dX10_addCurve_69 : decode cX10_addCurve 69 = .ok (.aload_n 0, 1) := dl_o42 kcX10_addCurve (by decide +kernel)
theorem dX10_addCurve_70 : decode cX10_addCurve 70 = .ok (.getfield 15, 3) := dl_o180 kcX10_addCurve (by decide +kernel)
theorem dX10_addCurve_73 : decode cX10_addCurve 73 = .ok (.aload_n 0, 1) := dl_o42 kcX10_addCurve (by decide +kernel)
theorem dX10_addCurve_74 : decode cX10_addCurve 74 = .ok (.getfield 37, 3) := dl_o180 kcX10_addCurve (by decide +kernel)
theorem dX10_addCurve_77 : decode cX10_addCurve 77 = .ok (.aload_n 1, 1) := dl_o43 kcX10_addCurve (by decide +kernel)
theorem dX10_addCurve_78 : decode cX10_addCurve 78 = .ok (.getfield 88, 3) := dl_o180 kcX10_addCurve (by decide +kernel)
theorem dX10_addCurve_81 : decode cX10_addCurve 81 = .ok (.iload_n 2, 1) := dl_o28 kcX10_addCurve (by decide +kernel)
theorem dX10_addCurve_82 : decode cX10_addCurve 82 = .ok (.iaload, 1) := dl_o46 kcX10_addCurve (by decide +kernel)
theorem dX10_addCurve_83 : decode cX10_addCurve 83 = .ok (.aload_n 1, 1) := dl_o43 kcX10_addCurve (by decide +kernel)
theorem dX10_addCurve_84 : decode cX10_addCurve 84 = .ok (.getfield 88, 3) := dl_o180 kcX10_addCurve (by decide +kernel)
theorem dX10_addCurve_87 : decode cX10_addCurve 87 = .ok (.iload 5, 2) := dl_o21 kcX10_addCurve (by decide +kernel)
theorem dX10_addCurve_89 : decode cX10_addCurve 89 = .ok (.iaload, 1) := dl_o46 kcX10_addCurve (by decide +kernel)
theorem dX10_addCurve_90 : decode cX10_addCurve 90 = .ok (.iadd, 1) := dl_o96 kcX10_addCurve (by decide +kernel)
theorem dX10_addCurve_91 : decode cX10_addCurve 91 = .ok (.iastore, 1) := dl_o79 kcX10_addCurve (by decide +kernel)
theorem dX10_addCurve_92 : decode cX10_addCurve 92 = .ok (.aload_n 0, 1) := dl_o42 kcX10_addCurve (by decide +kernel)
theorem dX10_addCurve_93 : decode cX10_addCurve 93 = .ok (.getfield 18, 3) := dl_o180 kcX10_addCurve (by decide +kernel)
theorem dX10_addCurve_96 : decode cX10_addCurve 96 = .ok (.aload_n 0, 1) := dl_o42 kcX10_addCurve (by decide +kernel)
theorem dX10_addCurve_97 : decode cX10_addCurve 97 = .ok (.getfield 37, 3) := dl_o180 kcX10_addCurve (by decide +kernel)
theorem dX10_addCurve_100 : decode cX10_addCurve 100 = .ok (.iconst 2, 1) := dl_o5 kcX10_addCurve (by decide +kernel)
theorem dX10_addCurve_101 : decode cX10_addCurve 101 = .ok (.aload_n 1, 1) := dl_o43 kcX10_addCurve (by decide +kernel)
theorem dX10_addCurve_102 : decode cX10_addCurve 102 = .ok (.getfield 66, 3) := dl_o180 kcX10_addCurve (by decide +kernel)
theorem dX10_addCurve_105 : decode cX10_addCurve 105 = .ok (.iload_n 3, 1) := dl_o29 kcX10_addCurve (by decide +kernel)
theorem dX10_addCurve_106 : decode cX10_addCurve 106 = .ok (.iaload, 1) := dl_o46 kcX10_addCurve (by decide +kernel)
theorem dX10_addCurve_107 : decode cX10_addCurve 107 = .ok (.imul, 1) := dl_o104 kcX10_addCurve (by decide +kernel)
theorem dX10_addCurve_108 : decode cX10_addCurve 108 = .ok (.iastore, 1) := dl_o79 kcX10_addCurve (by decide +kernel)
theorem dX10_addCurve_109 : decode cX10_addCurve 109 = .ok (.aload_n 0, 1) := dl_o42 kcX10_addCurve (by decide +kernel)
theorem dX10_addCurve_110 : decode cX10_addCurve 110 = .ok (.getfield 21, 3) := dl_o180 kcX10_addCurve (by decide +kernel)
theorem dX10_addCurve_113 : decode cX10_addCurve 113 = .ok (.aload_n 0, 1) := dl_o42 kcX10_addCurve (by decide +kernel)
theorem dX10_addCurve_114 : decode cX10_addCurve 114 = .ok (.getfield 37, 3) := dl_o180 kcX10_addCurve (by decide +kernel)
theorem dX10_addCurve_117 : decode cX10_addCurve 117 = .ok (.iconst 2, 1) := dl_o5 kcX10_addCurve (by decide +kernel)
theorem dX10_addCurve_118 : decode cX10_addCurve 118 = .ok (.aload_n 1, 1) := dl_o43 kcX10_addCurve (by decide +kernel)
theorem dX10_addCurve_119 : decode cX10_addCurve 119 = .ok (.getfield 88, 3) := dl_o180 kcX10_addCurve (by decide +kernel)
theorem dX10_addCurve_122 : decode cX10_addCurve 122 = .ok (.iload_n 3, 1) := dl_o29 kcX10_addCurve (by decide +kernel)
theorem dX10_addCurve_123 : decode cX10_addCurve 123 = .ok (.iaload, 1) := dl_o46 kcX10_addCurve (by decide +kernel)
theorem dX10_addCurve_124 : decode cX10_addCurve 124 = .ok (.imul, 1) := dl_o104 kcX10_addCurve (by decide +kernel)
theorem dX10_addCurve_125 : decode cX10_addCurve 125 = .ok (.iastore, 1) := dl_o79 kcX10_addCurve (by decide +kernel)
theorem dX10_addCurve_126 : decode cX10_addCurve 126 = .ok (.aload_n 0, 1) := dl_o42 kcX10_addCurve (by decide +kernel)
theorem dX10_addCurve_127 : decode cX10_addCurve 127 = .ok (.getfield 24, 3) := dl_o180 kcX10_addCurve (by decide +kernel)
theorem dX10_addCurve_130 : decode cX10_addCurve 130 = .ok (.aload_n 0, 1) := dl_o42 kcX10_addCurve (by decide +kernel)
theorem dX10_addCurve_131 : decode cX10_addCurve 131 = .ok (.getfield 37, 3) := dl_o180 kcX10_addCurve (by decide +kernel)
theorem dX10_addCurve_134 : decode cX10_addCurve 134 = .ok (.aload_n 1, 1) := dl_o43 kcX10_addCurve (by decide +kernel)
theorem dX10_addCurve_135 : decode cX10_addCurve 135 = .ok (.getfield 66, 3) := dl_o180 kcX10_addCurve (by decide +kernel)
theorem dX10_addCurve_138 : decode cX10_addCurve 138 = .ok (.iload 4, 2) := dl_o21 kcX10_addCurve (by decide +kernel)
theorem dX10_addCurve_140 : decode cX10_addCurve 140 = .ok (.iaload, 1) := dl_o46 kcX10_addCurve (by decide +kernel)
theorem dX10_addCurve_141 : decode cX10_addCurve 141 = .ok (.aload_n 1, 1) := dl_o43 kcX10_addCurve (by decide +kernel)
theorem dX10_addCurve_142 : decode cX10_addCurve 142 = .ok (.getfield 66, 3) := dl_o180 kcX10_addCurve (by decide +kernel)
theorem dX10_addCurve_145 : decode cX10_addCurve 145 = .ok (.iload 6, 2) := dl_o21 kcX10_addCurve (by decide +kernel)
theorem dX10_addCurve_147 : decode cX10_addCurve 147 = .ok (.iaload, 1) := dl_o46 kcX10_addCurve (by decide +kernel)
theorem dX10_addCurve_148 : decode cX10_addCurve 148 = .ok (.iadd, 1) := dl_o96 kcX10_addCurve (by decide +kernel)
theorem dX10_addCurve_149 : decode cX10_addCurve 149 = .ok (.iastore, 1) := dl_o79 kcX10_addCurve (by decide +kernel)
theorem dX10_addCurve_150 : decode cX10_addCurve 150 = .ok (.aload_n 0, 1) := dl_o42 kcX10_addCurve (by decide +kernel)
theorem dX10_addCurve_151 : decode cX10_addCurve 151 = .ok (.getfield 27, 3) := dl_o180 kcX10_addCurve (by decide +kernel)
theorem dX10_addCurve_154 : decode cX10_addCurve 154 = .ok (.aload_n 0, 1) := dl_o42 kcX10_addCurve (by decide +kernel)
theorem dX10_addCurve_155 : decode cX10_addCurve 155 = .ok (.getfield 37, 3) := dl_o180 kcX10_addCurve (by decide +kernel)
theorem dX10_addCurve_158 : decode cX10_addCurve 158 = .ok (.aload_n 1, 1) := dl_o43 kcX10_addCurve (by decide +kernel)
theorem dX10_addCurve_159 : decode cX10_addCurve 159 = .ok (.getfield 88, 3) := dl_o180 kcX10_addCurve (by decide +kernel)
theorem dX10_addCurve_162 : decode cX10_addCurve 162 = .ok (.iload 4, 2) := dl_o21 kcX10_addCurve (by decide +kernel)
theorem dX10_addCurve_164 : decode cX10_addCurve 164 = .ok (.iaload, 1) := dl_o46 kcX10_addCurve (by decide +kernel)
theorem dX10_addCurve_165 : decode cX10_addCurve 165 = .ok (.aload_n 1, 1) := dl_o43 kcX10_addCurve (by decide +kernel)
theorem dX10_addCurve_166 : decode cX10_addCurve 166 = .ok (.getfield 88, 3) := dl_o180 kcX10_addCurve (by decide +kernel)
theorem dX10_addCurve_169 : decode cX10_addCurve 169 = .ok (.iload 6, 2) := dl_o21 kcX10_addCurve (by decide +kernel)
theorem dX10_addCurve_171 : decode cX10_addCurve 171 = .ok (.iaload, 1) := dl_o46 kcX10_addCurve (by decide +kernel)
theorem dX10_addCurve_172 : decode cX10_addCurve 172 = .ok (.iadd, 1) := dl_o96 kcX10_addCurve (by decide +kernel)
theorem dX10_addCurve_173 : decode cX10_addCurve 173 = .ok (.iastore, 1) := dl_o79 kcX10_addCurve (by decide +kernel)
theorem dX10_addCurve_174 : decode cX10_addCurve 174 = .ok (.aload_n 0, 1) := dl_o42 kcX10_addCurve (by decide +kernel)
theorem dX10_addCurve_175 : decode cX10_addCurve 175 = .ok (.getfield 30, 3) := dl_o180 kcX10_addCurve (by decide +kernel)
theorem dX10_addCurve_178 : decode cX10_addCurve 178 = .ok (.aload_n 0, 1) := dl_o42 kcX10_addCurve (by decide +kernel)
theorem dX10_addCurve_179 : decode cX10_addCurve 179 = .ok (.getfield 37, 3) := dl_o180 kcX10_addCurve (by decide +kernel)
theorem dX10_addCurve_182 : decode cX10_addCurve 182 = .ok (.iconst 1, 1) := dl_o4 kcX10_addCurve (by decide +kernel)
theorem dX10_addCurve_183 : decode cX10_addCurve 183 = .ok (.bastore, 1) := dl_o84 kcX10_addCurve (by decide +kernel)
theorem dX10_addCurve_184 : decode cX10_addCurve 184 = .ok (.aload_n 0, 1) := dl_o42 kcX10_addCurve (by decide +kernel)
theorem dX10_addCurve_185 : decode cX10_addCurve 185 = .ok (.dup, 1) := dl_o89 kcX10_addCurve (by decide +kernel)
theorem dX10_addCurve_186 : decode cX10_addCurve 186 = .ok (.getfield 37, 3) := dl_o180 kcX10_addCurve (by decide +kernel)
theorem dX10_addCurve_189 : decode cX10_addCurve 189 = .ok (.iconst 1, 1) := dl_o4 kcX10_addCurve (by decide +kernel)
theorem dX10_addCurve_190 : decode cX10_addCurve 190 = .ok (.iadd, 1) := dl_o96 kcX10_addCurve (by decide +kernel)
theorem dX10_addCurve_191 : decode cX10_addCurve 191 = .ok (.putfield 37, 3) := dl_o181 kcX10_addCurve (by decide +kernel)
theorem dX10_addCurve_194 : decode cX10_addCurve 194 = .ok (.return_, 1) := dl_o177 kcX10_addCurve (by decide +kernel)
def B_X10_addCurve_44  (l1 : Nat) (l2 : Int32) (l3 : Int32) (l4 : Int32) (l5 : Int32) (s0 : Int32) (V : sv_V) : Option sv_V := if lay l1 = .inl 8 then (cr l1 0).bind (fun b2 => (sv_len 0 b2).bind (fun n4 => if sx_in l2 n4 = true then if sx_in l5 n4 = true then if sx_in (V.1 60 7) 100 = true then sx_let (sv_I V 61 (V.1 60 7).toNatClampNeg ((V.1 b2 l2.toNatClampNeg) + (V.1 b2 l5.toNatClampNeg))) (fun V9 => (cr l1 1).bind (fun b10 => (sv_len 0 b10).bind (fun n12 => if sx_in l2 n12 = true then if sx_in l5 n12 = true then if sx_in (V9.1 60 7) 100 = true then sx_let (sv_I V9 62 (V9.1 60 7).toNatClampNeg ((V9.1 b10 l2.toNatClampNeg) + (V9.1 b10 l5.toNatClampNeg))) (fun V17 => if sx_in l3 n4 = true then if sx_in (V17.1 60 7) 100 = true then sx_let (sv_I V17 63 (V17.1 60 7).toNatClampNeg ((2 : Int32) * (V17.1 b2 l3.toNatClampNeg))) (fun V20 => if sx_in l3 n12 = true then if sx_in (V20.1 60 7) 100 = true then sx_let (sv_I V20 64 (V20.1 60 7).toNatClampNeg ((2 : Int32) * (V20.1 b10 l3.toNatClampNeg))) (fun V23 => if sx_in l4 n4 = true then if sx_in s0 n4 = true then if sx_in (V23.1 60 7) 100 = true then sx_let (sv_I V23 65 (V23.1 60 7).toNatClampNeg ((V23.1 b2 l4.toNatClampNeg) + (V23.1 b2 s0.toNatClampNeg))) (fun V27 => if sx_in l4 n12 = true then if sx_in s0 n12 = true then if sx_in (V27.1 60 7) 100 = true then sx_let (sv_I V27 66 (V27.1 60 7).toNatClampNeg ((V27.1 b10 l4.toNatClampNeg) + (V27.1 b10 s0.toNatClampNeg))) (fun V31 => if sx_in (V31.1 60 7) 100 = true then sx_let (sv_I V31 67 (V31.1 60 7).toNatClampNeg (1 : Int32)) (fun V33 => sx_let (sv_I V33 60 7 ((V33.1 60 7) + (1 : Int32))) (fun V34 => some V34)) else none) else none else none else none) else none else none else none) else none else none) else none else none) else none else none else none))) else none else none else none)) else none
set_option maxRecDepth 20000 in
theorem tB_X10_addCurve_44 {g : sx_G} (hG : sx_Go g) {P : Option Value → sv_V → Prop} {Vr : sv_V} (hP : P none Vr)   {l1 : Nat} {l2 : Int32} {l3 : Int32} {l4 : Int32} {l5 : Int32} {s0 : Int32} {V : sv_V} (h : B_X10_addCurve_44  l1 l2 l3 l4 l5 s0 V = some Vr) : sv_N g qX10_addCurve 0 44 [(0, .ref 60), (1, .ref l1), (2, .int l2), (3, .int l3), (4, .int l4), (5, .int l5)] [.int s0] V P := by
  unfold B_X10_addCurve_44 at h
  refine sx_istore (pc := 44) (lo' := [(6, .int s0), (0, .ref 60), (1, .ref l1), (2, .int l2), (3, .int l3), (4, .int l4), (5, .int l5)]) dX10_addCurve_44 (by decide) rfl ?_
  refine sx_aload_n (pc := 46) dX10_addCurve_46 sx_m1 ?_
  refine sv_getA (pc := 47) hG dX10_addCurve_47 f_10_9 lay_60 rfl cr_60_0 ?_
  refine sx_aload_n (pc := 50) dX10_addCurve_50 sx_m1 ?_
  refine sv_getI (pc := 51) hG dX10_addCurve_51 f_10_37 lay_60 rfl ?_
  refine sx_aload_n (pc := 54) dX10_addCurve_54 sx_m2 ?_
  obtain ⟨g1, h⟩ := sx_grd h
  obtain ⟨b2, g3, h⟩ := sx_bnd h
  refine sv_getA (pc := 55) hG dX10_addCurve_55 f_10_66 g1 rfl g3 ?_
  refine sx_iload_n (pc := 58) dX10_addCurve_58 sx_m3 ?_
  obtain ⟨n4, g5, h⟩ := sx_bnd h
  obtain ⟨g6, h⟩ := sx_grd h
  refine sv_iald (pc := 59) hG dX10_addCurve_59 (sv_len_e g5) g6 ?_
  refine sx_aload_n (pc := 60) dX10_addCurve_60 sx_m2 ?_
  refine sv_getA (pc := 61) hG dX10_addCurve_61 f_10_66 g1 rfl g3 ?_
  refine sx_iload (pc := 64) dX10_addCurve_64 sx_m6 ?_
  obtain ⟨g7, h⟩ := sx_grd h
  refine sv_iald (pc := 66) hG dX10_addCurve_66 (sv_len_e g5) g7 ?_
  refine sx_iadd (pc := 67) dX10_addCurve_67 ?_
  obtain ⟨g8, h⟩ := sx_grd h
  obtain ⟨V9, hV9⟩ : ∃ z : sv_V, z = sv_I V 61 (V.1 60 7).toNatClampNeg ((V.1 b2 l2.toNatClampNeg) + (V.1 b2 l5.toNatClampNeg)) := ⟨_, rfl⟩
  have h := sx_letE hV9 h
  refine sv_iast (pc := 68) hG dX10_addCurve_68 lay_61 g8 hV9 ?_
  refine sx_aload_n (pc := 69) dX10_addCurve_69 sx_m1 ?_
  refine sv_getA (pc := 70) hG dX10_addCurve_70 f_10_15 lay_60 rfl cr_60_1 ?_
  refine sx_aload_n (pc := 73) dX10_addCurve_73 sx_m1 ?_
  refine sv_getI (pc := 74) hG dX10_addCurve_74 f_10_37 lay_60 rfl ?_
  refine sx_aload_n (pc := 77) dX10_addCurve_77 sx_m2 ?_
  obtain ⟨b10, g11, h⟩ := sx_bnd h
  refine sv_getA (pc := 78) hG dX10_addCurve_78 f_10_88 g1 rfl g11 ?_
  refine sx_iload_n (pc := 81) dX10_addCurve_81 sx_m3 ?_
  obtain ⟨n12, g13, h⟩ := sx_bnd h
  obtain ⟨g14, h⟩ := sx_grd h
  refine sv_iald (pc := 82) hG dX10_addCurve_82 (sv_len_e g13) g14 ?_
  refine sx_aload_n (pc := 83) dX10_addCurve_83 sx_m2 ?_
  refine sv_getA (pc := 84) hG dX10_addCurve_84 f_10_88 g1 rfl g11 ?_
  refine sx_iload (pc := 87) dX10_addCurve_87 sx_m6 ?_
  obtain ⟨g15, h⟩ := sx_grd h
  refine sv_iald (pc := 89) hG dX10_addCurve_89 (sv_len_e g13) g15 ?_
  refine sx_iadd (pc := 90) dX10_addCurve_90 ?_
  obtain ⟨g16, h⟩ := sx_grd h
  obtain ⟨V17, hV17⟩ : ∃ z : sv_V, z = sv_I V9 62 (V9.1 60 7).toNatClampNeg ((V9.1 b10 l2.toNatClampNeg) + (V9.1 b10 l5.toNatClampNeg)) := ⟨_, rfl⟩
  have h := sx_letE hV17 h
  refine sv_iast (pc := 91) hG dX10_addCurve_91 lay_62 g16 hV17 ?_
  refine sx_aload_n (pc := 92) dX10_addCurve_92 sx_m1 ?_
  refine sv_getA (pc := 93) hG dX10_addCurve_93 f_10_18 lay_60 rfl cr_60_2 ?_
  refine sx_aload_n (pc := 96) dX10_addCurve_96 sx_m1 ?_
  refine sv_getI (pc := 97) hG dX10_addCurve_97 f_10_37 lay_60 rfl ?_
  refine sx_iconst (pc := 100) (v := 2) dX10_addCurve_100 (by decide) ?_
  refine sx_aload_n (pc := 101) dX10_addCurve_101 sx_m2 ?_
  refine sv_getA (pc := 102) hG dX10_addCurve_102 f_10_66 g1 rfl g3 ?_
  refine sx_iload_n (pc := 105) dX10_addCurve_105 sx_m4 ?_
  obtain ⟨g18, h⟩ := sx_grd h
  refine sv_iald (pc := 106) hG dX10_addCurve_106 (sv_len_e g5) g18 ?_
  refine sx_imul (pc := 107) dX10_addCurve_107 ?_
  obtain ⟨g19, h⟩ := sx_grd h
  obtain ⟨V20, hV20⟩ : ∃ z : sv_V, z = sv_I V17 63 (V17.1 60 7).toNatClampNeg ((2 : Int32) * (V17.1 b2 l3.toNatClampNeg)) := ⟨_, rfl⟩
  have h := sx_letE hV20 h
  refine sv_iast (pc := 108) hG dX10_addCurve_108 lay_63 g19 hV20 ?_
  refine sx_aload_n (pc := 109) dX10_addCurve_109 sx_m1 ?_
  refine sv_getA (pc := 110) hG dX10_addCurve_110 f_10_21 lay_60 rfl cr_60_3 ?_
  refine sx_aload_n (pc := 113) dX10_addCurve_113 sx_m1 ?_
  refine sv_getI (pc := 114) hG dX10_addCurve_114 f_10_37 lay_60 rfl ?_
  refine sx_iconst (pc := 117) (v := 2) dX10_addCurve_117 (by decide) ?_
  refine sx_aload_n (pc := 118) dX10_addCurve_118 sx_m2 ?_
  refine sv_getA (pc := 119) hG dX10_addCurve_119 f_10_88 g1 rfl g11 ?_
  refine sx_iload_n (pc := 122) dX10_addCurve_122 sx_m4 ?_
  obtain ⟨g21, h⟩ := sx_grd h
  refine sv_iald (pc := 123) hG dX10_addCurve_123 (sv_len_e g13) g21 ?_
  refine sx_imul (pc := 124) dX10_addCurve_124 ?_
  obtain ⟨g22, h⟩ := sx_grd h
  obtain ⟨V23, hV23⟩ : ∃ z : sv_V, z = sv_I V20 64 (V20.1 60 7).toNatClampNeg ((2 : Int32) * (V20.1 b10 l3.toNatClampNeg)) := ⟨_, rfl⟩
  have h := sx_letE hV23 h
  refine sv_iast (pc := 125) hG dX10_addCurve_125 lay_64 g22 hV23 ?_
  refine sx_aload_n (pc := 126) dX10_addCurve_126 sx_m1 ?_
  refine sv_getA (pc := 127) hG dX10_addCurve_127 f_10_24 lay_60 rfl cr_60_4 ?_
  refine sx_aload_n (pc := 130) dX10_addCurve_130 sx_m1 ?_
  refine sv_getI (pc := 131) hG dX10_addCurve_131 f_10_37 lay_60 rfl ?_
  refine sx_aload_n (pc := 134) dX10_addCurve_134 sx_m2 ?_
  refine sv_getA (pc := 135) hG dX10_addCurve_135 f_10_66 g1 rfl g3 ?_
  refine sx_iload (pc := 138) dX10_addCurve_138 sx_m5 ?_
  obtain ⟨g24, h⟩ := sx_grd h
  refine sv_iald (pc := 140) hG dX10_addCurve_140 (sv_len_e g5) g24 ?_
  refine sx_aload_n (pc := 141) dX10_addCurve_141 sx_m2 ?_
  refine sv_getA (pc := 142) hG dX10_addCurve_142 f_10_66 g1 rfl g3 ?_
  refine sx_iload (pc := 145) dX10_addCurve_145 sx_m0 ?_
  obtain ⟨g25, h⟩ := sx_grd h
  refine sv_iald (pc := 147) hG dX10_addCurve_147 (sv_len_e g5) g25 ?_
  refine sx_iadd (pc := 148) dX10_addCurve_148 ?_
  obtain ⟨g26, h⟩ := sx_grd h
  obtain ⟨V27, hV27⟩ : ∃ z : sv_V, z = sv_I V23 65 (V23.1 60 7).toNatClampNeg ((V23.1 b2 l4.toNatClampNeg) + (V23.1 b2 s0.toNatClampNeg)) := ⟨_, rfl⟩
  have h := sx_letE hV27 h
  refine sv_iast (pc := 149) hG dX10_addCurve_149 lay_65 g26 hV27 ?_
  refine sx_aload_n (pc := 150) dX10_addCurve_150 sx_m1 ?_
  refine sv_getA (pc := 151) hG dX10_addCurve_151 f_10_27 lay_60 rfl cr_60_5 ?_
  refine sx_aload_n (pc := 154) dX10_addCurve_154 sx_m1 ?_
  refine sv_getI (pc := 155) hG dX10_addCurve_155 f_10_37 lay_60 rfl ?_
  refine sx_aload_n (pc := 158) dX10_addCurve_158 sx_m2 ?_
  refine sv_getA (pc := 159) hG dX10_addCurve_159 f_10_88 g1 rfl g11 ?_
  refine sx_iload (pc := 162) dX10_addCurve_162 sx_m5 ?_
  obtain ⟨g28, h⟩ := sx_grd h
  refine sv_iald (pc := 164) hG dX10_addCurve_164 (sv_len_e g13) g28 ?_
  refine sx_aload_n (pc := 165) dX10_addCurve_165 sx_m2 ?_
  refine sv_getA (pc := 166) hG dX10_addCurve_166 f_10_88 g1 rfl g11 ?_
  refine sx_iload (pc := 169) dX10_addCurve_169 sx_m0 ?_
  obtain ⟨g29, h⟩ := sx_grd h
  refine sv_iald (pc := 171) hG dX10_addCurve_171 (sv_len_e g13) g29 ?_
  refine sx_iadd (pc := 172) dX10_addCurve_172 ?_
  obtain ⟨g30, h⟩ := sx_grd h
  obtain ⟨V31, hV31⟩ : ∃ z : sv_V, z = sv_I V27 66 (V27.1 60 7).toNatClampNeg ((V27.1 b10 l4.toNatClampNeg) + (V27.1 b10 s0.toNatClampNeg)) := ⟨_, rfl⟩
  have h := sx_letE hV31 h
  refine sv_iast (pc := 173) hG dX10_addCurve_173 lay_66 g30 hV31 ?_
  refine sx_aload_n (pc := 174) dX10_addCurve_174 sx_m1 ?_
  refine sv_getA (pc := 175) hG dX10_addCurve_175 f_10_30 lay_60 rfl cr_60_6 ?_
  refine sx_aload_n (pc := 178) dX10_addCurve_178 sx_m1 ?_
  refine sv_getI (pc := 179) hG dX10_addCurve_179 f_10_37 lay_60 rfl ?_
  refine sx_iconst (pc := 182) (v := 1) dX10_addCurve_182 (by decide) ?_
  obtain ⟨g32, h⟩ := sx_grd h
  obtain ⟨V33, hV33⟩ : ∃ z : sv_V, z = sv_I V31 67 (V31.1 60 7).toNatClampNeg (1 : Int32) := ⟨_, rfl⟩
  have h := sx_letE hV33 h
  refine sv_zast (pc := 183) hG dX10_addCurve_183 lay_67 g32 rfl hV33 ?_
  refine sx_aload_n (pc := 184) dX10_addCurve_184 sx_m1 ?_
  refine sx_dup (pc := 185) dX10_addCurve_185 rfl ?_
  refine sv_getI (pc := 186) hG dX10_addCurve_186 f_10_37 lay_60 rfl ?_
  refine sx_iconst (pc := 189) (v := 1) dX10_addCurve_189 (by decide) ?_
  refine sx_iadd (pc := 190) dX10_addCurve_190 ?_
  obtain ⟨V34, hV34⟩ : ∃ z : sv_V, z = sv_I V33 60 7 ((V33.1 60 7) + (1 : Int32)) := ⟨_, rfl⟩
  have h := sx_letE hV34 h
  refine sv_putI (pc := 191) hG dX10_addCurve_191 f_10_37 lay_60 rfl hV34 ?_
  exact sv_vret (pc := 194) dX10_addCurve_194 rfl h hP
def B_X10_addCurve_25  (l1 : Nat) (l2 : Int32) (l3 : Int32) (l4 : Int32) (s0 : Int32) (V : sv_V) : Option sv_V := if lay l1 = .inl 8 then (cr l1 5).bind (fun b36 => (sv_len 0 b36).bind (fun n38 => if sx_in l4 n38 = true then if (V.1 b36 l4.toNatClampNeg) = (1 : Int32) then (B_X10_addCurve_44  l1 l2 l3 l4 s0 l4 V) else (B_X10_addCurve_44  l1 l2 l3 l4 s0 l3 V) else none)) else none
set_option maxRecDepth 20000 in
theorem tB_X10_addCurve_25 {g : sx_G} (hG : sx_Go g) {P : Option Value → sv_V → Prop} {Vr : sv_V} (hP : P none Vr)   {l1 : Nat} {l2 : Int32} {l3 : Int32} {l4 : Int32} {s0 : Int32} {V : sv_V} (h : B_X10_addCurve_25  l1 l2 l3 l4 s0 V = some Vr) : sv_N g qX10_addCurve 0 25 [(0, .ref 60), (1, .ref l1), (2, .int l2), (3, .int l3), (4, .int l4)] [.int s0] V P := by
  unfold B_X10_addCurve_25 at h
  refine sx_istore (pc := 25) (lo' := [(5, .int s0), (0, .ref 60), (1, .ref l1), (2, .int l2), (3, .int l3), (4, .int l4)]) dX10_addCurve_25 (by decide) rfl ?_
  refine sx_aload_n (pc := 27) dX10_addCurve_27 sx_m2 ?_
  obtain ⟨g35, h⟩ := sx_grd h
  obtain ⟨b36, g37, h⟩ := sx_bnd h
  refine sv_getA (pc := 28) hG dX10_addCurve_28 f_10_78 g35 rfl g37 ?_
  refine sx_iload (pc := 31) dX10_addCurve_31 sx_m5 ?_
  obtain ⟨n38, g39, h⟩ := sx_bnd h
  obtain ⟨g40, h⟩ := sx_grd h
  refine sv_iald (pc := 33) hG dX10_addCurve_33 (sv_len_e g39) g40 ?_
  refine sx_iconst (pc := 34) (v := 1) dX10_addCurve_34 (by decide) ?_
  refine sx_icmp_ne (pc := 35) (tgt := 43) dX10_addCurve_35 (by decide) (fun c41 => ?_) (fun c41 => ?_)
  · have h := sx_neg c41 h
    refine sx_iload_n (pc := 43) dX10_addCurve_43 sx_m4 ?_
    refine sx_wk (sx_s1 sx_m1 (sx_s1 sx_m2 (sx_s1 sx_m3 (sx_s1 sx_m4 (sx_s1 sx_m5 (sx_s1 sx_m0 sx_s0)))))) ?_
    exact tB_X10_addCurve_44 hG hP  h
  · have h := sx_pos c41 h
    refine sx_iload (pc := 38) dX10_addCurve_38 sx_m5 ?_
    refine sx_goto (pc := 40) (tgt := 44) dX10_addCurve_40 (by decide) ?_
    refine sx_wk (sx_s1 sx_m1 (sx_s1 sx_m2 (sx_s1 sx_m3 (sx_s1 sx_m4 (sx_s1 sx_m5 (sx_s1 sx_m0 sx_s0)))))) ?_
    exact tB_X10_addCurve_44 hG hP  h
def F_X10_addCurve (l1 : Nat) (l2 : Int32) (l3 : Int32) (l4 : Int32) (V : sv_V) : Option sv_V := if (V.1 60 7) < (100 : Int32) then (if lay l1 = .inl 8 then (cr l1 5).bind (fun b44 => (sv_len 0 b44).bind (fun n46 => if sx_in l2 n46 = true then if (V.1 b44 l2.toNatClampNeg) = (1 : Int32) then (B_X10_addCurve_25  l1 l2 l3 l4 l2 V) else (B_X10_addCurve_25  l1 l2 l3 l4 l3 V) else none)) else none) else (some V)
set_option maxRecDepth 20000 in
theorem t_X10_addCurve {g : sx_G} (hG : sx_Go g) {P : Option Value → sv_V → Prop} {Vr : sv_V} (hP : P none Vr) {l1 : Nat} {l2 : Int32} {l3 : Int32} {l4 : Int32} {V : sv_V} (h : F_X10_addCurve l1 l2 l3 l4 V = some Vr) : sv_N g qX10_addCurve 0 0 [(0, .ref 60), (1, .ref l1), (2, .int l2), (3, .int l3), (4, .int l4)] [] V P := by
  unfold F_X10_addCurve at h
  refine sx_aload_n (pc := 0) dX10_addCurve_0 sx_m0 ?_
  refine sv_getI (pc := 1) hG dX10_addCurve_1 f_10_37 lay_60 rfl ?_
  refine sx_bipush (pc := 4) (v := 100) dX10_addCurve_4 (by decide) ?_
  refine sx_icmp_lt (pc := 6) (tgt := 10) dX10_addCurve_6 (by decide) (fun c42 => ?_) (fun c42 => ?_)
  · have h := sx_pos c42 h
    refine sx_aload_n (pc := 10) dX10_addCurve_10 sx_m1 ?_
    obtain ⟨g43, h⟩ := sx_grd h
    obtain ⟨b44, g45, h⟩ := sx_bnd h
    refine sv_getA (pc := 11) hG dX10_addCurve_11 f_10_78 g43 rfl g45 ?_
    refine sx_iload_n (pc := 14) dX10_addCurve_14 sx_m2 ?_
    obtain ⟨n46, g47, h⟩ := sx_bnd h
    obtain ⟨g48, h⟩ := sx_grd h
    refine sv_iald (pc := 15) hG dX10_addCurve_15 (sv_len_e g47) g48 ?_
    refine sx_iconst (pc := 16) (v := 1) dX10_addCurve_16 (by decide) ?_
    refine sx_icmp_ne (pc := 17) (tgt := 24) dX10_addCurve_17 (by decide) (fun c49 => ?_) (fun c49 => ?_)
    · have h := sx_neg c49 h
      refine sx_iload_n (pc := 24) dX10_addCurve_24 sx_m3 ?_
      refine sx_wk (sx_s1 sx_m0 (sx_s1 sx_m1 (sx_s1 sx_m2 (sx_s1 sx_m3 (sx_s1 sx_m4 sx_s0))))) ?_
      exact tB_X10_addCurve_25 hG hP  h
    · have h := sx_pos c49 h
      refine sx_iload_n (pc := 20) dX10_addCurve_20 sx_m2 ?_
      refine sx_goto (pc := 21) (tgt := 25) dX10_addCurve_21 (by decide) ?_
      refine sx_wk (sx_s1 sx_m0 (sx_s1 sx_m1 (sx_s1 sx_m2 (sx_s1 sx_m3 (sx_s1 sx_m4 sx_s0))))) ?_
      exact tB_X10_addCurve_25 hG hP  h
  · have h := sx_neg c42 h
    exact sv_vret (pc := 9) dX10_addCurve_9 rfl h hP
def ncX10_spans : Nat := 64357247450378515486435760652439753209879304450651178
theorem kcX10_spans : CK cX10_spans ncX10_spans 22 := ⟨by decide +kernel, by decide +kernel⟩
theorem dX10_spans_0 : decode cX10_spans 0 = .ok (.aload_n 0, 1) := dl_o42 kcX10_spans (by decide +kernel)
theorem dX10_spans_1 : decode cX10_spans 1 = .ok (.getfield 57, 3) := dl_o180 kcX10_spans (by decide +kernel)
theorem dX10_spans_4 : decode cX10_spans 4 = .ok (.iload_n 1, 1) := dl_o27 kcX10_spans (by decide +kernel)
theorem dX10_spans_5 : decode cX10_spans 5 = .ok (.if_icmp .gt 15, 3) := dl_o163 kcX10_spans 15 (by decide +kernel) (by decide +kernel)
theorem dX10_spans_8 : decode cX10_spans 8 = .ok (.iload_n 1, 1) := dl_o27 kcX10_spans (by decide +kernel)
theorem dX10_spans_9 : decode cX10_spans 9 = .ok (.aload_n 0, 1) := dl_o42 kcX10_spans (by decide +kernel)
theorem dX10_spans_10 : decode cX10_spans 10 = .ok (.getfield 60, 3) := dl_o180 kcX10_spans (by decide +kernel)
theorem dX10_spans_13 : decode cX10_spans 13 = .ok (.if_icmp .gt 7, 3) := dl_o163 kcX10_spans 7 (by decide +kernel) (by decide +kernel)
theorem dX10_spans_16 : decode cX10_spans 16 = .ok (.iconst 1, 1) := dl_o4 kcX10_spans (by decide +kernel)
theorem dX10_spans_17 : decode cX10_spans 17 = .ok (.goto 4, 3) := dl_o167 kcX10_spans 4 (by decide +kernel) (by decide +kernel)
theorem dX10_spans_20 : decode cX10_spans 20 = .ok (.iconst 0, 1) := dl_o3 kcX10_spans (by decide +kernel)
theorem dX10_spans_21 : decode cX10_spans 21 = .ok (.ireturn, 1) := dl_o172 kcX10_spans (by decide +kernel)
def F_X10_spans (l1 : Int32) (V : sv_V) : Option (Int32 × sv_V) := if l1 < (V.1 60 11) then (some ((0 : Int32), V)) else (if (V.1 60 12) < l1 then (some ((0 : Int32), V)) else (some ((1 : Int32), V)))
set_option maxRecDepth 20000 in
theorem t_X10_spans {g : sx_G} (hG : sx_Go g) {P : Option Value → sv_V → Prop} {r : Int32} {Vr : sv_V} (hP : P (some (.int r)) Vr) {l1 : Int32} {V : sv_V} (h : F_X10_spans l1 V = some (r, Vr)) : sv_N g qX10_spans 0 0 [(0, .ref 60), (1, .int l1)] [] V P := by
  unfold F_X10_spans at h
  refine sx_aload_n (pc := 0) dX10_spans_0 sx_m0 ?_
  refine sv_getI (pc := 1) hG dX10_spans_1 f_10_57 lay_60 rfl ?_
  refine sx_iload_n (pc := 4) dX10_spans_4 sx_m1 ?_
  refine sx_icmp_gt (pc := 5) (tgt := 20) dX10_spans_5 (by decide) (fun c1 => ?_) (fun c1 => ?_)
  · have h := sx_pos c1 h
    refine sx_iconst (pc := 20) (v := 0) dX10_spans_20 (by decide) ?_
    exact sv_zret (pc := 21) dX10_spans_21 rfl rfl h hP
  · have h := sx_neg c1 h
    refine sx_iload_n (pc := 8) dX10_spans_8 sx_m1 ?_
    refine sx_aload_n (pc := 9) dX10_spans_9 sx_m0 ?_
    refine sv_getI (pc := 10) hG dX10_spans_10 f_10_60 lay_60 rfl ?_
    refine sx_icmp_gt (pc := 13) (tgt := 20) dX10_spans_13 (by decide) (fun c2 => ?_) (fun c2 => ?_)
    · have h := sx_pos c2 h
      refine sx_iconst (pc := 20) (v := 0) dX10_spans_20 (by decide) ?_
      exact sv_zret (pc := 21) dX10_spans_21 rfl rfl h hP
    · have h := sx_neg c2 h
      refine sx_iconst (pc := 16) (v := 1) dX10_spans_16 (by decide) ?_
      refine sx_goto (pc := 17) (tgt := 21) dX10_spans_17 (by decide) ?_
      exact sv_zret (pc := 21) dX10_spans_21 rfl rfl h hP
def ncX10_hasRow : Nat := 13628177246267105021503048037418
theorem kcX10_hasRow : CK cX10_hasRow ncX10_hasRow 13 := ⟨by decide +kernel, by decide +kernel⟩
theorem dX10_hasRow_0 : decode cX10_hasRow 0 = .ok (.aload_n 0, 1) := dl_o42 kcX10_hasRow (by decide +kernel)
theorem dX10_hasRow_1 : decode cX10_hasRow 1 = .ok (.getfield 91, 3) := dl_o180 kcX10_hasRow (by decide +kernel)
theorem dX10_hasRow_4 : decode cX10_hasRow 4 = .ok (.ifCond .le 7, 3) := dl_o158 kcX10_hasRow 7 (by decide +kernel) (by decide +kernel)
theorem dX10_hasRow_7 : decode cX10_hasRow 7 = .ok (.iconst 1, 1) := dl_o4 kcX10_hasRow (by decide +kernel)
theorem dX10_hasRow_8 : decode cX10_hasRow 8 = .ok (.goto 4, 3) := dl_o167 kcX10_hasRow 4 (by decide +kernel) (by decide +kernel)
theorem dX10_hasRow_11 : decode cX10_hasRow 11 = .ok (.iconst 0, 1) := dl_o3 kcX10_hasRow (by decide +kernel)
theorem dX10_hasRow_12 : decode cX10_hasRow 12 = .ok (.ireturn, 1) := dl_o172 kcX10_hasRow (by decide +kernel)
def F_X10_hasRow  (V : sv_V) : Option (Int32 × sv_V) := if (V.1 60 9) ≤ 0 then (some ((0 : Int32), V)) else (some ((1 : Int32), V))
set_option maxRecDepth 20000 in
theorem t_X10_hasRow {g : sx_G} (hG : sx_Go g) {P : Option Value → sv_V → Prop} {r : Int32} {Vr : sv_V} (hP : P (some (.int r)) Vr)  {V : sv_V} (h : F_X10_hasRow  V = some (r, Vr)) : sv_N g qX10_hasRow 0 0 [(0, .ref 60)] [] V P := by
  unfold F_X10_hasRow at h
  refine sx_aload_n (pc := 0) dX10_hasRow_0 sx_m0 ?_
  refine sv_getI (pc := 1) hG dX10_hasRow_1 f_10_91 lay_60 rfl ?_
  refine sx_if_le (pc := 4) (tgt := 11) dX10_hasRow_4 (by decide) (fun c1 => ?_) (fun c1 => ?_)
  · have h := sx_pos c1 h
    refine sx_iconst (pc := 11) (v := 0) dX10_hasRow_11 (by decide) ?_
    exact sv_zret (pc := 12) dX10_hasRow_12 rfl rfl h hP
  · have h := sx_neg c1 h
    refine sx_iconst (pc := 7) (v := 1) dX10_hasRow_7 (by decide) ?_
    refine sx_goto (pc := 8) (tgt := 12) dX10_hasRow_8 (by decide) ?_
    exact sv_zret (pc := 12) dX10_hasRow_12 rfl rfl h hP
def ncX10_reaches : Nat := 10891607745764014010818567333964553608427001319069810111524154964563997902461642300590099622044475324540961340819353994450213448934678412166273092802590794289910343089524139362590
theorem kcX10_reaches : CK cX10_reaches ncX10_reaches 74 := ⟨by decide +kernel, by decide +kernel⟩
theorem dX10_reaches_0 : decode cX10_reaches 0 = .ok (.lload_n 0, 1) := dl_o30 kcX10_reaches (by decide +kernel)
theorem dX10_reaches_1 : decode cX10_reaches 1 = .ok (.lconst 0, 1) := dl_o9 kcX10_reaches (by decide +kernel)
theorem dX10_reaches_2 : decode cX10_reaches 2 = .ok (.lcmp, 1) := dl_o148 kcX10_reaches (by decide +kernel)
theorem dX10_reaches_3 : decode cX10_reaches 3 = .ok (.ifCond .le 33, 3) := dl_o158 kcX10_reaches 33 (by decide +kernel) (by decide +kernel)
theorem dX10_reaches_6 : decode cX10_reaches 6 = .ok (.lload 4, 2) := dl_o22 kcX10_reaches (by decide +kernel)
theorem dX10_reaches_8 : decode cX10_reaches 8 = .ok (.lconst 0, 1) := dl_o9 kcX10_reaches (by decide +kernel)
theorem dX10_reaches_9 : decode cX10_reaches 9 = .ok (.lcmp, 1) := dl_o148 kcX10_reaches (by decide +kernel)
theorem dX10_reaches_10 : decode cX10_reaches 10 = .ok (.ifCond .le 26, 3) := dl_o158 kcX10_reaches 26 (by decide +kernel) (by decide +kernel)
theorem dX10_reaches_13 : decode cX10_reaches 13 = .ok (.lload_n 2, 1) := dl_o32 kcX10_reaches (by decide +kernel)
theorem dX10_reaches_14 : decode cX10_reaches 14 = .ok (.lconst 0, 1) := dl_o9 kcX10_reaches (by decide +kernel)
theorem dX10_reaches_15 : decode cX10_reaches 15 = .ok (.lcmp, 1) := dl_o148 kcX10_reaches (by decide +kernel)
theorem dX10_reaches_16 : decode cX10_reaches 16 = .ok (.ifCond .ge 18, 3) := dl_o156 kcX10_reaches 18 (by decide +kernel) (by decide +kernel)
theorem dX10_reaches_19 : decode cX10_reaches 19 = .ok (.lload_n 2, 1) := dl_o32 kcX10_reaches (by decide +kernel)
theorem dX10_reaches_20 : decode cX10_reaches 20 = .ok (.lload_n 2, 1) := dl_o32 kcX10_reaches (by decide +kernel)
theorem dX10_reaches_21 : decode cX10_reaches 21 = .ok (.lmul, 1) := dl_o105 kcX10_reaches (by decide +kernel)
theorem dX10_reaches_22 : decode cX10_reaches 22 = .ok (.lload_n 0, 1) := dl_o30 kcX10_reaches (by decide +kernel)
theorem dX10_reaches_23 : decode cX10_reaches 23 = .ok (.lload 4, 2) := dl_o22 kcX10_reaches (by decide +kernel)
theorem dX10_reaches_25 : decode cX10_reaches 25 = .ok (.lmul, 1) := dl_o105 kcX10_reaches (by decide +kernel)
theorem dX10_reaches_26 : decode cX10_reaches 26 = .ok (.lcmp, 1) := dl_o148 kcX10_reaches (by decide +kernel)
theorem dX10_reaches_27 : decode cX10_reaches 27 = .ok (.ifCond .lt 7, 3) := dl_o155 kcX10_reaches 7 (by decide +kernel) (by decide +kernel)
theorem dX10_reaches_30 : decode cX10_reaches 30 = .ok (.iconst 1, 1) := dl_o4 kcX10_reaches (by decide +kernel)
theorem dX10_reaches_31 : decode cX10_reaches 31 = .ok (.goto 4, 3) := dl_o167 kcX10_reaches 4 (by decide +kernel) (by decide +kernel)
theorem dX10_reaches_34 : decode cX10_reaches 34 = .ok (.iconst 0, 1) := dl_o3 kcX10_reaches (by decide +kernel)
theorem dX10_reaches_35 : decode cX10_reaches 35 = .ok (.ireturn, 1) := dl_o172 kcX10_reaches (by decide +kernel)
theorem dX10_reaches_36 : decode cX10_reaches 36 = .ok (.lload_n 0, 1) := dl_o30 kcX10_reaches (by decide +kernel)
theorem dX10_reaches_37 : decode cX10_reaches 37 = .ok (.lconst 0, 1) := dl_o9 kcX10_reaches (by decide +kernel)
theorem dX10_reaches_38 : decode cX10_reaches 38 = .ok (.lcmp, 1) := dl_o148 kcX10_reaches (by decide +kernel)
theorem dX10_reaches_39 : decode cX10_reaches 39 = .ok (.ifCond .ge 33, 3) := dl_o156 kcX10_reaches 33 (by decide +kernel) (by decide +kernel)
theorem dX10_reaches_42 : decode cX10_reaches 42 = .ok (.lload 4, 2) := dl_o22 kcX10_reaches (by decide +kernel)
theorem dX10_reaches_44 : decode cX10_reaches 44 = .ok (.lconst 0, 1) := dl_o9 kcX10_reaches (by decide +kernel)
theorem dX10_reaches_45 : decode cX10_reaches 45 = .ok (.lcmp, 1) := dl_o148 kcX10_reaches (by decide +kernel)
theorem dX10_reaches_46 : decode cX10_reaches 46 = .ok (.ifCond .ge 26, 3) := dl_o156 kcX10_reaches 26 (by decide +kernel) (by decide +kernel)
theorem dX10_reaches_49 : decode cX10_reaches 49 = .ok (.lload_n 2, 1) := dl_o32 kcX10_reaches (by decide +kernel)
theorem dX10_reaches_50 : decode cX10_reaches 50 = .ok (.lconst 0, 1) := dl_o9 kcX10_reaches (by decide +kernel)
theorem dX10_reaches_51 : decode cX10_reaches 51 = .ok (.lcmp, 1) := dl_o148 kcX10_reaches (by decide +kernel)
theorem dX10_reaches_52 : decode cX10_reaches 52 = .ok (.ifCond .le 18, 3) := dl_o158 kcX10_reaches 18 (by decide +kernel) (by decide +kernel)
theorem dX10_reaches_55 : decode cX10_reaches 55 = .ok (.lload_n 2, 1) := dl_o32 kcX10_reaches (by decide +kernel)
theorem dX10_reaches_56 : decode cX10_reaches 56 = .ok (.lload_n 2, 1) := dl_o32 kcX10_reaches (by decide +kernel)
theorem dX10_reaches_57 : decode cX10_reaches 57 = .ok (.lmul, 1) := dl_o105 kcX10_reaches (by decide +kernel)
theorem dX10_reaches_58 : decode cX10_reaches 58 = .ok (.lload_n 0, 1) := dl_o30 kcX10_reaches (by decide +kernel)
theorem dX10_reaches_59 : decode cX10_reaches 59 = .ok (.lload 4, 2) := dl_o22 kcX10_reaches (by decide +kernel)
theorem dX10_reaches_61 : decode cX10_reaches 61 = .ok (.lmul, 1) := dl_o105 kcX10_reaches (by decide +kernel)
theorem dX10_reaches_62 : decode cX10_reaches 62 = .ok (.lcmp, 1) := dl_o148 kcX10_reaches (by decide +kernel)
theorem dX10_reaches_63 : decode cX10_reaches 63 = .ok (.ifCond .lt 7, 3) := dl_o155 kcX10_reaches 7 (by decide +kernel) (by decide +kernel)
theorem dX10_reaches_66 : decode cX10_reaches 66 = .ok (.iconst 1, 1) := dl_o4 kcX10_reaches (by decide +kernel)
theorem dX10_reaches_67 : decode cX10_reaches 67 = .ok (.goto 4, 3) := dl_o167 kcX10_reaches 4 (by decide +kernel) (by decide +kernel)
theorem dX10_reaches_70 : decode cX10_reaches 70 = .ok (.iconst 0, 1) := dl_o3 kcX10_reaches (by decide +kernel)
theorem dX10_reaches_71 : decode cX10_reaches 71 = .ok (.ireturn, 1) := dl_o172 kcX10_reaches (by decide +kernel)
theorem dX10_reaches_72 : decode cX10_reaches 72 = .ok (.iconst 1, 1) := dl_o4 kcX10_reaches (by decide +kernel)
theorem dX10_reaches_73 : decode cX10_reaches 73 = .ok (.ireturn, 1) := dl_o172 kcX10_reaches (by decide +kernel)
def B_X10_reaches_36  (l0 : Int64) (l2 : Int64) (l4 : Int64) (V : sv_V) : Option (Int32 × sv_V) := if 0 ≤ (lg_cmp l0 (0 : Int64)) then (some ((1 : Int32), V)) else (if 0 ≤ (lg_cmp l4 (0 : Int64)) then (some ((1 : Int32), V)) else (if (lg_cmp l2 (0 : Int64)) ≤ 0 then (some ((0 : Int32), V)) else (if (lg_cmp (l2 * l2) (l0 * l4)) < 0 then (some ((0 : Int32), V)) else (some ((1 : Int32), V)))))
set_option maxRecDepth 20000 in
theorem tB_X10_reaches_36 {g : sx_G} (hG : sx_Go g) {P : Option Value → sv_V → Prop} {r : Int32} {Vr : sv_V} (hP : P (some (.int r)) Vr)   {l0 : Int64} {l2 : Int64} {l4 : Int64} {V : sv_V} (h : B_X10_reaches_36  l0 l2 l4 V = some (r, Vr)) : sv_N g qX10_reaches 0 36 [(0, .long l0), (2, .long l2), (4, .long l4)] [] V P := by
  unfold B_X10_reaches_36 at h
  refine sx_lload_n (pc := 36) dX10_reaches_36 sx_m0 ?_
  refine sx_lconst (pc := 37) (v := 0) dX10_reaches_37 rfl ?_
  refine sx_lcmp (pc := 38) dX10_reaches_38 ?_
  refine sx_if_ge (pc := 39) (tgt := 72) dX10_reaches_39 (by decide) (fun c1 => ?_) (fun c1 => ?_)
  · have h := sx_pos c1 h
    refine sx_iconst (pc := 72) (v := 1) dX10_reaches_72 (by decide) ?_
    exact sv_zret (pc := 73) dX10_reaches_73 rfl rfl h hP
  · have h := sx_neg c1 h
    refine sx_lload (pc := 42) dX10_reaches_42 sx_m2 ?_
    refine sx_lconst (pc := 44) (v := 0) dX10_reaches_44 rfl ?_
    refine sx_lcmp (pc := 45) dX10_reaches_45 ?_
    refine sx_if_ge (pc := 46) (tgt := 72) dX10_reaches_46 (by decide) (fun c2 => ?_) (fun c2 => ?_)
    · have h := sx_pos c2 h
      refine sx_iconst (pc := 72) (v := 1) dX10_reaches_72 (by decide) ?_
      exact sv_zret (pc := 73) dX10_reaches_73 rfl rfl h hP
    · have h := sx_neg c2 h
      refine sx_lload_n (pc := 49) dX10_reaches_49 sx_m1 ?_
      refine sx_lconst (pc := 50) (v := 0) dX10_reaches_50 rfl ?_
      refine sx_lcmp (pc := 51) dX10_reaches_51 ?_
      refine sx_if_le (pc := 52) (tgt := 70) dX10_reaches_52 (by decide) (fun c3 => ?_) (fun c3 => ?_)
      · have h := sx_pos c3 h
        refine sx_iconst (pc := 70) (v := 0) dX10_reaches_70 (by decide) ?_
        exact sv_zret (pc := 71) dX10_reaches_71 rfl rfl h hP
      · have h := sx_neg c3 h
        refine sx_lload_n (pc := 55) dX10_reaches_55 sx_m1 ?_
        refine sx_lload_n (pc := 56) dX10_reaches_56 sx_m1 ?_
        refine sx_lmul (pc := 57) dX10_reaches_57 ?_
        refine sx_lload_n (pc := 58) dX10_reaches_58 sx_m0 ?_
        refine sx_lload (pc := 59) dX10_reaches_59 sx_m2 ?_
        refine sx_lmul (pc := 61) dX10_reaches_61 ?_
        refine sx_lcmp (pc := 62) dX10_reaches_62 ?_
        refine sx_if_lt (pc := 63) (tgt := 70) dX10_reaches_63 (by decide) (fun c4 => ?_) (fun c4 => ?_)
        · have h := sx_pos c4 h
          refine sx_iconst (pc := 70) (v := 0) dX10_reaches_70 (by decide) ?_
          exact sv_zret (pc := 71) dX10_reaches_71 rfl rfl h hP
        · have h := sx_neg c4 h
          refine sx_iconst (pc := 66) (v := 1) dX10_reaches_66 (by decide) ?_
          refine sx_goto (pc := 67) (tgt := 71) dX10_reaches_67 (by decide) ?_
          exact sv_zret (pc := 71) dX10_reaches_71 rfl rfl h hP
def F_X10_reaches (l0 : Int64) (l2 : Int64) (l4 : Int64) (V : sv_V) : Option (Int32 × sv_V) := if (lg_cmp l0 (0 : Int64)) ≤ 0 then (B_X10_reaches_36  l0 l2 l4 V) else (if (lg_cmp l4 (0 : Int64)) ≤ 0 then (B_X10_reaches_36  l0 l2 l4 V) else (if 0 ≤ (lg_cmp l2 (0 : Int64)) then (some ((0 : Int32), V)) else (if (lg_cmp (l2 * l2) (l0 * l4)) < 0 then (some ((0 : Int32), V)) else (some ((1 : Int32), V)))))
set_option maxRecDepth 20000 in
theorem t_X10_reaches {g : sx_G} (hG : sx_Go g) {P : Option Value → sv_V → Prop} {r : Int32} {Vr : sv_V} (hP : P (some (.int r)) Vr) {l0 : Int64} {l2 : Int64} {l4 : Int64} {V : sv_V} (h : F_X10_reaches l0 l2 l4 V = some (r, Vr)) : sv_N g qX10_reaches 0 0 [(0, .long l0), (2, .long l2), (4, .long l4)] [] V P := by
  unfold F_X10_reaches at h
  refine sx_lload_n (pc := 0) dX10_reaches_0 sx_m0 ?_
  refine sx_lconst (pc := 1) (v := 0) dX10_reaches_1 rfl ?_
  refine sx_lcmp (pc := 2) dX10_reaches_2 ?_
  refine sx_if_le (pc := 3) (tgt := 36) dX10_reaches_3 (by decide) (fun c5 => ?_) (fun c5 => ?_)
  · have h := sx_pos c5 h
    refine sx_wk (sx_s1 sx_m0 (sx_s1 sx_m1 (sx_s1 sx_m2 sx_s0))) ?_
    exact tB_X10_reaches_36 hG hP  h
  · have h := sx_neg c5 h
    refine sx_lload (pc := 6) dX10_reaches_6 sx_m2 ?_
    refine sx_lconst (pc := 8) (v := 0) dX10_reaches_8 rfl ?_
    refine sx_lcmp (pc := 9) dX10_reaches_9 ?_
    refine sx_if_le (pc := 10) (tgt := 36) dX10_reaches_10 (by decide) (fun c6 => ?_) (fun c6 => ?_)
    · have h := sx_pos c6 h
      refine sx_wk (sx_s1 sx_m0 (sx_s1 sx_m1 (sx_s1 sx_m2 sx_s0))) ?_
      exact tB_X10_reaches_36 hG hP  h
    · have h := sx_neg c6 h
      refine sx_lload_n (pc := 13) dX10_reaches_13 sx_m1 ?_
      refine sx_lconst (pc := 14) (v := 0) dX10_reaches_14 rfl ?_
      refine sx_lcmp (pc := 15) dX10_reaches_15 ?_
      refine sx_if_ge (pc := 16) (tgt := 34) dX10_reaches_16 (by decide) (fun c7 => ?_) (fun c7 => ?_)
      · have h := sx_pos c7 h
        refine sx_iconst (pc := 34) (v := 0) dX10_reaches_34 (by decide) ?_
        exact sv_zret (pc := 35) dX10_reaches_35 rfl rfl h hP
      · have h := sx_neg c7 h
        refine sx_lload_n (pc := 19) dX10_reaches_19 sx_m1 ?_
        refine sx_lload_n (pc := 20) dX10_reaches_20 sx_m1 ?_
        refine sx_lmul (pc := 21) dX10_reaches_21 ?_
        refine sx_lload_n (pc := 22) dX10_reaches_22 sx_m0 ?_
        refine sx_lload (pc := 23) dX10_reaches_23 sx_m2 ?_
        refine sx_lmul (pc := 25) dX10_reaches_25 ?_
        refine sx_lcmp (pc := 26) dX10_reaches_26 ?_
        refine sx_if_lt (pc := 27) (tgt := 34) dX10_reaches_27 (by decide) (fun c8 => ?_) (fun c8 => ?_)
        · have h := sx_pos c8 h
          refine sx_iconst (pc := 34) (v := 0) dX10_reaches_34 (by decide) ?_
          exact sv_zret (pc := 35) dX10_reaches_35 rfl rfl h hP
        · have h := sx_neg c8 h
          refine sx_iconst (pc := 30) (v := 1) dX10_reaches_30 (by decide) ?_
          refine sx_goto (pc := 31) (tgt := 35) dX10_reaches_31 (by decide) ?_
          exact sv_zret (pc := 35) dX10_reaches_35 rfl rfl h hP
def ncX10_sideOf : Nat := 137466246221561099296081428246294729857857188892351618412974806351029886644929321105166350171274297835009456027432371100722307585303580707118471583262
theorem kcX10_sideOf : CK cX10_sideOf ncX10_sideOf 62 := ⟨by decide +kernel, by decide +kernel⟩
theorem dX10_sideOf_0 : decode cX10_sideOf 0 = .ok (.lload_n 0, 1) := dl_o30 kcX10_sideOf (by decide +kernel)
theorem dX10_sideOf_1 : decode cX10_sideOf 1 = .ok (.lload 6, 2) := dl_o22 kcX10_sideOf (by decide +kernel)
theorem dX10_sideOf_3 : decode cX10_sideOf 3 = .ok (.lmul, 1) := dl_o105 kcX10_sideOf (by decide +kernel)
theorem dX10_sideOf_4 : decode cX10_sideOf 4 = .ok (.lload 4, 2) := dl_o22 kcX10_sideOf (by decide +kernel)
theorem dX10_sideOf_6 : decode cX10_sideOf 6 = .ok (.lload_n 2, 1) := dl_o32 kcX10_sideOf (by decide +kernel)
theorem dX10_sideOf_7 : decode cX10_sideOf 7 = .ok (.lmul, 1) := dl_o105 kcX10_sideOf (by decide +kernel)
theorem dX10_sideOf_8 : decode cX10_sideOf 8 = .ok (.lsub, 1) := dl_o101 kcX10_sideOf (by decide +kernel)
theorem dX10_sideOf_9 : decode cX10_sideOf 9 = .ok (.lstore 8, 2) := dl_o55 kcX10_sideOf (by decide +kernel)
theorem dX10_sideOf_11 : decode cX10_sideOf 11 = .ok (.lload 8, 2) := dl_o22 kcX10_sideOf (by decide +kernel)
theorem dX10_sideOf_13 : decode cX10_sideOf 13 = .ok (.lconst 0, 1) := dl_o9 kcX10_sideOf (by decide +kernel)
theorem dX10_sideOf_14 : decode cX10_sideOf 14 = .ok (.lcmp, 1) := dl_o148 kcX10_sideOf (by decide +kernel)
theorem dX10_sideOf_15 : decode cX10_sideOf 15 = .ok (.ifCond .ne 23, 3) := dl_o154 kcX10_sideOf 23 (by decide +kernel) (by decide +kernel)
theorem dX10_sideOf_18 : decode cX10_sideOf 18 = .ok (.lload 4, 2) := dl_o22 kcX10_sideOf (by decide +kernel)
theorem dX10_sideOf_20 : decode cX10_sideOf 20 = .ok (.lload_n 0, 1) := dl_o30 kcX10_sideOf (by decide +kernel)
theorem dX10_sideOf_21 : decode cX10_sideOf 21 = .ok (.lcmp, 1) := dl_o148 kcX10_sideOf (by decide +kernel)
theorem dX10_sideOf_22 : decode cX10_sideOf 22 = .ok (.ifCond .eq 10, 3) := dl_o153 kcX10_sideOf 10 (by decide +kernel) (by decide +kernel)
theorem dX10_sideOf_25 : decode cX10_sideOf 25 = .ok (.lload 4, 2) := dl_o22 kcX10_sideOf (by decide +kernel)
theorem dX10_sideOf_27 : decode cX10_sideOf 27 = .ok (.lload_n 0, 1) := dl_o30 kcX10_sideOf (by decide +kernel)
theorem dX10_sideOf_28 : decode cX10_sideOf 28 = .ok (.lsub, 1) := dl_o101 kcX10_sideOf (by decide +kernel)
theorem dX10_sideOf_29 : decode cX10_sideOf 29 = .ok (.goto 7, 3) := dl_o167 kcX10_sideOf 7 (by decide +kernel) (by decide +kernel)
theorem dX10_sideOf_32 : decode cX10_sideOf 32 = .ok (.lload_n 2, 1) := dl_o32 kcX10_sideOf (by decide +kernel)
theorem dX10_sideOf_33 : decode cX10_sideOf 33 = .ok (.lload 6, 2) := dl_o22 kcX10_sideOf (by decide +kernel)
theorem dX10_sideOf_35 : decode cX10_sideOf 35 = .ok (.lsub, 1) := dl_o101 kcX10_sideOf (by decide +kernel)
theorem dX10_sideOf_36 : decode cX10_sideOf 36 = .ok (.lstore 8, 2) := dl_o55 kcX10_sideOf (by decide +kernel)
theorem dX10_sideOf_38 : decode cX10_sideOf 38 = .ok (.lload 8, 2) := dl_o22 kcX10_sideOf (by decide +kernel)
theorem dX10_sideOf_40 : decode cX10_sideOf 40 = .ok (.lconst 0, 1) := dl_o9 kcX10_sideOf (by decide +kernel)
theorem dX10_sideOf_41 : decode cX10_sideOf 41 = .ok (.lcmp, 1) := dl_o148 kcX10_sideOf (by decide +kernel)
theorem dX10_sideOf_42 : decode cX10_sideOf 42 = .ok (.ifCond .le 7, 3) := dl_o158 kcX10_sideOf 7 (by decide +kernel) (by decide +kernel)
theorem dX10_sideOf_45 : decode cX10_sideOf 45 = .ok (.iconst 1, 1) := dl_o4 kcX10_sideOf (by decide +kernel)
theorem dX10_sideOf_46 : decode cX10_sideOf 46 = .ok (.goto 15, 3) := dl_o167 kcX10_sideOf 15 (by decide +kernel) (by decide +kernel)
theorem dX10_sideOf_49 : decode cX10_sideOf 49 = .ok (.lload 8, 2) := dl_o22 kcX10_sideOf (by decide +kernel)
theorem dX10_sideOf_51 : decode cX10_sideOf 51 = .ok (.lconst 0, 1) := dl_o9 kcX10_sideOf (by decide +kernel)
theorem dX10_sideOf_52 : decode cX10_sideOf 52 = .ok (.lcmp, 1) := dl_o148 kcX10_sideOf (by decide +kernel)
theorem dX10_sideOf_53 : decode cX10_sideOf 53 = .ok (.ifCond .ge 7, 3) := dl_o156 kcX10_sideOf 7 (by decide +kernel) (by decide +kernel)
theorem dX10_sideOf_56 : decode cX10_sideOf 56 = .ok (.iconst (-1), 1) := dl_o2 kcX10_sideOf (by decide +kernel)
theorem dX10_sideOf_57 : decode cX10_sideOf 57 = .ok (.goto 4, 3) := dl_o167 kcX10_sideOf 4 (by decide +kernel) (by decide +kernel)
theorem dX10_sideOf_60 : decode cX10_sideOf 60 = .ok (.iconst 0, 1) := dl_o3 kcX10_sideOf (by decide +kernel)
theorem dX10_sideOf_61 : decode cX10_sideOf 61 = .ok (.ireturn, 1) := dl_o172 kcX10_sideOf (by decide +kernel)
def B_X10_sideOf_38  (l8 : Int64) (V : sv_V) : Option (Int32 × sv_V) := if (lg_cmp l8 (0 : Int64)) ≤ 0 then (if 0 ≤ (lg_cmp l8 (0 : Int64)) then (some ((0 : Int32), V)) else (some ((-1 : Int32), V))) else (some ((1 : Int32), V))
set_option maxRecDepth 20000 in
theorem tB_X10_sideOf_38 {g : sx_G} (hG : sx_Go g) {P : Option Value → sv_V → Prop} {r : Int32} {Vr : sv_V} (hP : P (some (.int r)) Vr)   {l8 : Int64} {V : sv_V} (h : B_X10_sideOf_38  l8 V = some (r, Vr)) : sv_N g qX10_sideOf 0 38 [(8, .long l8)] [] V P := by
  unfold B_X10_sideOf_38 at h
  refine sx_lload (pc := 38) dX10_sideOf_38 sx_m0 ?_
  refine sx_lconst (pc := 40) (v := 0) dX10_sideOf_40 rfl ?_
  refine sx_lcmp (pc := 41) dX10_sideOf_41 ?_
  refine sx_if_le (pc := 42) (tgt := 49) dX10_sideOf_42 (by decide) (fun c1 => ?_) (fun c1 => ?_)
  · have h := sx_pos c1 h
    refine sx_lload (pc := 49) dX10_sideOf_49 sx_m0 ?_
    refine sx_lconst (pc := 51) (v := 0) dX10_sideOf_51 rfl ?_
    refine sx_lcmp (pc := 52) dX10_sideOf_52 ?_
    refine sx_if_ge (pc := 53) (tgt := 60) dX10_sideOf_53 (by decide) (fun c2 => ?_) (fun c2 => ?_)
    · have h := sx_pos c2 h
      refine sx_iconst (pc := 60) (v := 0) dX10_sideOf_60 (by decide) ?_
      exact sv_iret (pc := 61) dX10_sideOf_61 rfl h hP
    · have h := sx_neg c2 h
      refine sx_iconst (pc := 56) (v := (-1)) dX10_sideOf_56 (by decide) ?_
      refine sx_goto (pc := 57) (tgt := 61) dX10_sideOf_57 (by decide) ?_
      exact sv_iret (pc := 61) dX10_sideOf_61 rfl h hP
  · have h := sx_neg c1 h
    refine sx_iconst (pc := 45) (v := 1) dX10_sideOf_45 (by decide) ?_
    refine sx_goto (pc := 46) (tgt := 61) dX10_sideOf_46 (by decide) ?_
    exact sv_iret (pc := 61) dX10_sideOf_61 rfl h hP
def B_X10_sideOf_36  (s0 : Int64) (V : sv_V) : Option (Int32 × sv_V) := B_X10_sideOf_38  s0 V
set_option maxRecDepth 20000 in
theorem tB_X10_sideOf_36 {g : sx_G} (hG : sx_Go g) {P : Option Value → sv_V → Prop} {r : Int32} {Vr : sv_V} (hP : P (some (.int r)) Vr)   {s0 : Int64} {V : sv_V} (h : B_X10_sideOf_36  s0 V = some (r, Vr)) : sv_N g qX10_sideOf 0 36 [] [.long s0] V P := by
  unfold B_X10_sideOf_36 at h
  refine sx_lstore (pc := 36) (lo' := [(8, .long s0)]) dX10_sideOf_36 (by decide) rfl ?_
  refine sx_wk (sx_s1 sx_m0 sx_s0) ?_
  exact tB_X10_sideOf_38 hG hP  h
def F_X10_sideOf (l0 : Int64) (l2 : Int64) (l4 : Int64) (l6 : Int64) (V : sv_V) : Option (Int32 × sv_V) := sx_let ((l0 * l6) - (l4 * l2)) (fun x3 => if (lg_cmp x3 (0 : Int64)) = 0 then (if (lg_cmp l4 l0) = 0 then (B_X10_sideOf_36  (l2 - l6) V) else (B_X10_sideOf_36  (l4 - l0) V)) else (B_X10_sideOf_38  x3 V))
set_option maxRecDepth 20000 in
theorem t_X10_sideOf {g : sx_G} (hG : sx_Go g) {P : Option Value → sv_V → Prop} {r : Int32} {Vr : sv_V} (hP : P (some (.int r)) Vr) {l0 : Int64} {l2 : Int64} {l4 : Int64} {l6 : Int64} {V : sv_V} (h : F_X10_sideOf l0 l2 l4 l6 V = some (r, Vr)) : sv_N g qX10_sideOf 0 0 [(0, .long l0), (2, .long l2), (4, .long l4), (6, .long l6)] [] V P := by
  unfold F_X10_sideOf at h
  refine sx_lload_n (pc := 0) dX10_sideOf_0 sx_m0 ?_
  refine sx_lload (pc := 1) dX10_sideOf_1 sx_m3 ?_
  refine sx_lmul (pc := 3) dX10_sideOf_3 ?_
  refine sx_lload (pc := 4) dX10_sideOf_4 sx_m2 ?_
  refine sx_lload_n (pc := 6) dX10_sideOf_6 sx_m1 ?_
  refine sx_lmul (pc := 7) dX10_sideOf_7 ?_
  refine sx_lsub (pc := 8) dX10_sideOf_8 ?_
  refine sv_tJ (fun x3 hx3 => ?_)
  have h := sx_letE hx3 h
  refine sx_lstore (pc := 9) (lo' := [(8, .long x3), (0, .long l0), (2, .long l2), (4, .long l4), (6, .long l6)]) dX10_sideOf_9 (by decide) rfl ?_
  refine sx_lload (pc := 11) dX10_sideOf_11 sx_m0 ?_
  refine sx_lconst (pc := 13) (v := 0) dX10_sideOf_13 rfl ?_
  refine sx_lcmp (pc := 14) dX10_sideOf_14 ?_
  refine sx_if_ne (pc := 15) (tgt := 38) dX10_sideOf_15 (by decide) (fun c4 => ?_) (fun c4 => ?_)
  · have h := sx_neg c4 h
    refine sx_wk (sx_s1 sx_m0 sx_s0) ?_
    exact tB_X10_sideOf_38 hG hP  h
  · have h := sx_pos c4 h
    refine sx_lload (pc := 18) dX10_sideOf_18 sx_m3 ?_
    refine sx_lload_n (pc := 20) dX10_sideOf_20 sx_m1 ?_
    refine sx_lcmp (pc := 21) dX10_sideOf_21 ?_
    refine sx_if_eq (pc := 22) (tgt := 32) dX10_sideOf_22 (by decide) (fun c5 => ?_) (fun c5 => ?_)
    · have h := sx_pos c5 h
      refine sx_lload_n (pc := 32) dX10_sideOf_32 sx_m2 ?_
      refine sx_lload (pc := 33) dX10_sideOf_33 sx_m4 ?_
      refine sx_lsub (pc := 35) dX10_sideOf_35 ?_
      refine sx_wk sx_s0 ?_
      exact tB_X10_sideOf_36 hG hP  h
    · have h := sx_neg c5 h
      refine sx_lload (pc := 25) dX10_sideOf_25 sx_m3 ?_
      refine sx_lload_n (pc := 27) dX10_sideOf_27 sx_m1 ?_
      refine sx_lsub (pc := 28) dX10_sideOf_28 ?_
      refine sx_goto (pc := 29) (tgt := 36) dX10_sideOf_29 (by decide) ?_
      refine sx_wk sx_s0 ?_
      exact tB_X10_sideOf_36 hG hP  h
def ncX10_crossing : Nat := 9009122179915384513976221593898937011235018924891755366136804249748990747346863264781410470081265658747289891690355512954137513290170718092634257341286688
theorem kcX10_crossing : CK cX10_crossing ncX10_crossing 64 := ⟨by decide +kernel, by decide +kernel⟩
theorem dX10_crossing_0 : decode cX10_crossing 0 = .ok (.lload_n 2, 1) := dl_o32 kcX10_crossing (by decide +kernel)
theorem dX10_crossing_1 : decode cX10_crossing 1 = .ok (.lconst 0, 1) := dl_o9 kcX10_crossing (by decide +kernel)
theorem dX10_crossing_2 : decode cX10_crossing 2 = .ok (.lcmp, 1) := dl_o148 kcX10_crossing (by decide +kernel)
theorem dX10_crossing_3 : decode cX10_crossing 3 = .ok (.ifCond .gt 28, 3) := dl_o157 kcX10_crossing 28 (by decide +kernel) (by decide +kernel)
theorem dX10_crossing_6 : decode cX10_crossing 6 = .ok (.lload 6, 2) := dl_o22 kcX10_crossing (by decide +kernel)
theorem dX10_crossing_8 : decode cX10_crossing 8 = .ok (.lconst 0, 1) := dl_o9 kcX10_crossing (by decide +kernel)
theorem dX10_crossing_9 : decode cX10_crossing 9 = .ok (.lcmp, 1) := dl_o148 kcX10_crossing (by decide +kernel)
theorem dX10_crossing_10 : decode cX10_crossing 10 = .ok (.ifCond .le 21, 3) := dl_o158 kcX10_crossing 21 (by decide +kernel) (by decide +kernel)
theorem dX10_crossing_13 : decode cX10_crossing 13 = .ok (.lload_n 0, 1) := dl_o30 kcX10_crossing (by decide +kernel)
theorem dX10_crossing_14 : decode cX10_crossing 14 = .ok (.lload_n 2, 1) := dl_o32 kcX10_crossing (by decide +kernel)
theorem dX10_crossing_15 : decode cX10_crossing 15 = .ok (.lload 4, 2) := dl_o22 kcX10_crossing (by decide +kernel)
theorem dX10_crossing_17 : decode cX10_crossing 17 = .ok (.lload 6, 2) := dl_o22 kcX10_crossing (by decide +kernel)
theorem dX10_crossing_19 : decode cX10_crossing 19 = .ok (.invokestatic 111, 3) := dl_o184 kcX10_crossing (by decide +kernel)
theorem dX10_crossing_22 : decode cX10_crossing 22 = .ok (.ifCond .le 7, 3) := dl_o158 kcX10_crossing 7 (by decide +kernel) (by decide +kernel)
theorem dX10_crossing_25 : decode cX10_crossing 25 = .ok (.iconst 1, 1) := dl_o4 kcX10_crossing (by decide +kernel)
theorem dX10_crossing_26 : decode cX10_crossing 26 = .ok (.goto 4, 3) := dl_o167 kcX10_crossing 4 (by decide +kernel) (by decide +kernel)
theorem dX10_crossing_29 : decode cX10_crossing 29 = .ok (.iconst 0, 1) := dl_o3 kcX10_crossing (by decide +kernel)
theorem dX10_crossing_30 : decode cX10_crossing 30 = .ok (.ireturn, 1) := dl_o172 kcX10_crossing (by decide +kernel)
theorem dX10_crossing_31 : decode cX10_crossing 31 = .ok (.lload 6, 2) := dl_o22 kcX10_crossing (by decide +kernel)
theorem dX10_crossing_33 : decode cX10_crossing 33 = .ok (.lconst 0, 1) := dl_o9 kcX10_crossing (by decide +kernel)
theorem dX10_crossing_34 : decode cX10_crossing 34 = .ok (.lcmp, 1) := dl_o148 kcX10_crossing (by decide +kernel)
theorem dX10_crossing_35 : decode cX10_crossing 35 = .ok (.ifCond .gt 27, 3) := dl_o157 kcX10_crossing 27 (by decide +kernel) (by decide +kernel)
theorem dX10_crossing_38 : decode cX10_crossing 38 = .ok (.lload_n 2, 1) := dl_o32 kcX10_crossing (by decide +kernel)
theorem dX10_crossing_39 : decode cX10_crossing 39 = .ok (.lconst 0, 1) := dl_o9 kcX10_crossing (by decide +kernel)
theorem dX10_crossing_40 : decode cX10_crossing 40 = .ok (.lcmp, 1) := dl_o148 kcX10_crossing (by decide +kernel)
theorem dX10_crossing_41 : decode cX10_crossing 41 = .ok (.ifCond .le 21, 3) := dl_o158 kcX10_crossing 21 (by decide +kernel) (by decide +kernel)
theorem dX10_crossing_44 : decode cX10_crossing 44 = .ok (.lload_n 0, 1) := dl_o30 kcX10_crossing (by decide +kernel)
theorem dX10_crossing_45 : decode cX10_crossing 45 = .ok (.lload_n 2, 1) := dl_o32 kcX10_crossing (by decide +kernel)
theorem dX10_crossing_46 : decode cX10_crossing 46 = .ok (.lload 4, 2) := dl_o22 kcX10_crossing (by decide +kernel)
theorem dX10_crossing_48 : decode cX10_crossing 48 = .ok (.lload 6, 2) := dl_o22 kcX10_crossing (by decide +kernel)
theorem dX10_crossing_50 : decode cX10_crossing 50 = .ok (.invokestatic 111, 3) := dl_o184 kcX10_crossing (by decide +kernel)
theorem dX10_crossing_53 : decode cX10_crossing 53 = .ok (.ifCond .ge 7, 3) := dl_o156 kcX10_crossing 7 (by decide +kernel) (by decide +kernel)
theorem dX10_crossing_56 : decode cX10_crossing 56 = .ok (.iconst (-1), 1) := dl_o2 kcX10_crossing (by decide +kernel)
theorem dX10_crossing_57 : decode cX10_crossing 57 = .ok (.goto 4, 3) := dl_o167 kcX10_crossing 4 (by decide +kernel) (by decide +kernel)
theorem dX10_crossing_60 : decode cX10_crossing 60 = .ok (.iconst 0, 1) := dl_o3 kcX10_crossing (by decide +kernel)
theorem dX10_crossing_61 : decode cX10_crossing 61 = .ok (.ireturn, 1) := dl_o172 kcX10_crossing (by decide +kernel)
theorem dX10_crossing_62 : decode cX10_crossing 62 = .ok (.iconst 0, 1) := dl_o3 kcX10_crossing (by decide +kernel)
theorem dX10_crossing_63 : decode cX10_crossing 63 = .ok (.ireturn, 1) := dl_o172 kcX10_crossing (by decide +kernel)
def B_X10_crossing_31  (l0 : Int64) (l2 : Int64) (l4 : Int64) (l6 : Int64) (V : sv_V) : Option (Int32 × sv_V) := if 0 < (lg_cmp l6 (0 : Int64)) then (some ((0 : Int32), V)) else (if (lg_cmp l2 (0 : Int64)) ≤ 0 then (some ((0 : Int32), V)) else ((F_X10_sideOf l0 l2 l4 l6 V).bind (fun (x5, V3) => if 0 ≤ x5 then (some ((0 : Int32), V3)) else (some ((-1 : Int32), V3)))))
set_option maxRecDepth 20000 in
theorem tB_X10_crossing_31 {g : sx_G} (hG : sx_Go g) {P : Option Value → sv_V → Prop} {r : Int32} {Vr : sv_V} (hP : P (some (.int r)) Vr)   {l0 : Int64} {l2 : Int64} {l4 : Int64} {l6 : Int64} {V : sv_V} (h : B_X10_crossing_31  l0 l2 l4 l6 V = some (r, Vr)) : sv_N g qX10_crossing 1 31 [(0, .long l0), (2, .long l2), (4, .long l4), (6, .long l6)] [] V P := by
  unfold B_X10_crossing_31 at h
  refine sx_lload (pc := 31) dX10_crossing_31 sx_m3 ?_
  refine sx_lconst (pc := 33) (v := 0) dX10_crossing_33 rfl ?_
  refine sx_lcmp (pc := 34) dX10_crossing_34 ?_
  refine sx_if_gt (pc := 35) (tgt := 62) dX10_crossing_35 (by decide) (fun c1 => ?_) (fun c1 => ?_)
  · have h := sx_pos c1 h
    refine sx_iconst (pc := 62) (v := 0) dX10_crossing_62 (by decide) ?_
    exact sv_iret (pc := 63) dX10_crossing_63 rfl h hP
  · have h := sx_neg c1 h
    refine sx_lload_n (pc := 38) dX10_crossing_38 sx_m1 ?_
    refine sx_lconst (pc := 39) (v := 0) dX10_crossing_39 rfl ?_
    refine sx_lcmp (pc := 40) dX10_crossing_40 ?_
    refine sx_if_le (pc := 41) (tgt := 62) dX10_crossing_41 (by decide) (fun c2 => ?_) (fun c2 => ?_)
    · have h := sx_pos c2 h
      refine sx_iconst (pc := 62) (v := 0) dX10_crossing_62 (by decide) ?_
      exact sv_iret (pc := 63) dX10_crossing_63 rfl h hP
    · have h := sx_neg c2 h
      refine sx_lload_n (pc := 44) dX10_crossing_44 sx_m0 ?_
      refine sx_lload_n (pc := 45) dX10_crossing_45 sx_m1 ?_
      refine sx_lload (pc := 46) dX10_crossing_46 sx_m2 ?_
      refine sx_lload (pc := 48) dX10_crossing_48 sx_m3 ?_
      obtain ⟨⟨x5, V3⟩, g4, h⟩ := sx_bnd h
      refine sv_cS (pc := 50) (y := qX10_sideOf) (o := (some (.int x5))) (as := [.long l0, .long l2, .long l4, .long l6]) (V1 := V3) dX10_crossing_50 l_X10_111 y0X10_sideOf ysX10_sideOf rfl (Nat.le_of_ble_eq_true rfl) (by decide) (Nat.le_of_ble_eq_true rfl) rfl rfl rfl (t_X10_sideOf hG ⟨rfl, rfl⟩ g4) ?_
      refine sx_if_ge (pc := 53) (tgt := 60) dX10_crossing_53 (by decide) (fun c6 => ?_) (fun c6 => ?_)
      · have h := sx_pos c6 h
        refine sx_iconst (pc := 60) (v := 0) dX10_crossing_60 (by decide) ?_
        exact sv_iret (pc := 61) dX10_crossing_61 rfl h hP
      · have h := sx_neg c6 h
        refine sx_iconst (pc := 56) (v := (-1)) dX10_crossing_56 (by decide) ?_
        refine sx_goto (pc := 57) (tgt := 61) dX10_crossing_57 (by decide) ?_
        exact sv_iret (pc := 61) dX10_crossing_61 rfl h hP
def F_X10_crossing (l0 : Int64) (l2 : Int64) (l4 : Int64) (l6 : Int64) (V : sv_V) : Option (Int32 × sv_V) := if 0 < (lg_cmp l2 (0 : Int64)) then (B_X10_crossing_31  l0 l2 l4 l6 V) else (if (lg_cmp l6 (0 : Int64)) ≤ 0 then (B_X10_crossing_31  l0 l2 l4 l6 V) else ((F_X10_sideOf l0 l2 l4 l6 V).bind (fun (x11, V9) => if x11 ≤ 0 then (some ((0 : Int32), V9)) else (some ((1 : Int32), V9)))))
set_option maxRecDepth 20000 in
theorem t_X10_crossing {g : sx_G} (hG : sx_Go g) {P : Option Value → sv_V → Prop} {r : Int32} {Vr : sv_V} (hP : P (some (.int r)) Vr) {l0 : Int64} {l2 : Int64} {l4 : Int64} {l6 : Int64} {V : sv_V} (h : F_X10_crossing l0 l2 l4 l6 V = some (r, Vr)) : sv_N g qX10_crossing 1 0 [(0, .long l0), (2, .long l2), (4, .long l4), (6, .long l6)] [] V P := by
  unfold F_X10_crossing at h
  refine sx_lload_n (pc := 0) dX10_crossing_0 sx_m1 ?_
  refine sx_lconst (pc := 1) (v := 0) dX10_crossing_1 rfl ?_
  refine sx_lcmp (pc := 2) dX10_crossing_2 ?_
  refine sx_if_gt (pc := 3) (tgt := 31) dX10_crossing_3 (by decide) (fun c7 => ?_) (fun c7 => ?_)
  · have h := sx_pos c7 h
    refine sx_wk (sx_s1 sx_m0 (sx_s1 sx_m1 (sx_s1 sx_m2 (sx_s1 sx_m3 sx_s0)))) ?_
    exact tB_X10_crossing_31 hG hP  h
  · have h := sx_neg c7 h
    refine sx_lload (pc := 6) dX10_crossing_6 sx_m3 ?_
    refine sx_lconst (pc := 8) (v := 0) dX10_crossing_8 rfl ?_
    refine sx_lcmp (pc := 9) dX10_crossing_9 ?_
    refine sx_if_le (pc := 10) (tgt := 31) dX10_crossing_10 (by decide) (fun c8 => ?_) (fun c8 => ?_)
    · have h := sx_pos c8 h
      refine sx_wk (sx_s1 sx_m0 (sx_s1 sx_m1 (sx_s1 sx_m2 (sx_s1 sx_m3 sx_s0)))) ?_
      exact tB_X10_crossing_31 hG hP  h
    · have h := sx_neg c8 h
      refine sx_lload_n (pc := 13) dX10_crossing_13 sx_m0 ?_
      refine sx_lload_n (pc := 14) dX10_crossing_14 sx_m1 ?_
      refine sx_lload (pc := 15) dX10_crossing_15 sx_m2 ?_
      refine sx_lload (pc := 17) dX10_crossing_17 sx_m3 ?_
      obtain ⟨⟨x11, V9⟩, g10, h⟩ := sx_bnd h
      refine sv_cS (pc := 19) (y := qX10_sideOf) (o := (some (.int x11))) (as := [.long l0, .long l2, .long l4, .long l6]) (V1 := V9) dX10_crossing_19 l_X10_111 y0X10_sideOf ysX10_sideOf rfl (Nat.le_of_ble_eq_true rfl) (by decide) (Nat.le_of_ble_eq_true rfl) rfl rfl rfl (t_X10_sideOf hG ⟨rfl, rfl⟩ g10) ?_
      refine sx_if_le (pc := 22) (tgt := 29) dX10_crossing_22 (by decide) (fun c12 => ?_) (fun c12 => ?_)
      · have h := sx_pos c12 h
        refine sx_iconst (pc := 29) (v := 0) dX10_crossing_29 (by decide) ?_
        exact sv_iret (pc := 30) dX10_crossing_30 rfl h hP
      · have h := sx_neg c12 h
        refine sx_iconst (pc := 25) (v := 1) dX10_crossing_25 (by decide) ?_
        refine sx_goto (pc := 26) (tgt := 30) dX10_crossing_26 (by decide) ?_
        exact sv_iret (pc := 30) dX10_crossing_30 rfl h hP
end
section
/-! methods: X11_feed, X11_wipe, X11_font, X11_table, X11_kern, X11_point, X11_told, X11_held, X11_pixel, X11_type, X11_isBeyond, X11_nearest, X12_in, X12_sizeOf, X12_toPixel, X12_u1, X12_u2, X12_s2, X12_s1, X12_u4, X12_tableOf, X12_beginOf, X12_lengthOf, X12_sumOf, X12_directory, X12_head -/
def ncX11_feed : Nat := 46829377471010812089952987659494978776831306844585870294166179943290318140371570605166946449947376787998406438450138204082859167493641005197614615997402069793286548072791098267331744302107
theorem kcX11_feed : CK cX11_feed ncX11_feed 78 := ⟨by decide +kernel, by decide +kernel⟩
theorem dX11_feed_0 : decode cX11_feed 0 = .ok (.iload_n 1, 1) := dl_o27 kcX11_feed (by decide +kernel)
theorem dX11_feed_1 : decode cX11_feed 1 = .ok (.iconst 1, 1) := dl_o4 kcX11_feed (by decide +kernel)
theorem dX11_feed_2 : decode cX11_feed 2 = .ok (.if_icmp .lt 9, 3) := dl_o161 kcX11_feed 9 (by decide +kernel) (by decide +kernel)
theorem dX11_feed_5 : decode cX11_feed 5 = .ok (.iload_n 1, 1) := dl_o27 kcX11_feed (by decide +kernel)
theorem dX11_feed_6 : decode cX11_feed 6 = .ok (.bipush 8, 2) := dl_o16 kcX11_feed 8 (by decide +kernel) (by decide +kernel)
theorem dX11_feed_8 : decode cX11_feed 8 = .ok (.if_icmp .le 6, 3) := dl_o164 kcX11_feed 6 (by decide +kernel) (by decide +kernel)
theorem dX11_feed_11 : decode cX11_feed 11 = .ok (.bipush (-2), 2) := dl_o16 kcX11_feed 254 (by decide +kernel) (by decide +kernel)
theorem dX11_feed_13 : decode cX11_feed 13 = .ok (.ireturn, 1) := dl_o172 kcX11_feed (by decide +kernel)
theorem dX11_feed_14 : decode cX11_feed 14 = .ok (.aload_n 0, 1) := dl_o42 kcX11_feed (by decide +kernel)
theorem dX11_feed_15 : decode cX11_feed 15 = .ok (.getfield 52, 3) := dl_o180 kcX11_feed (by decide +kernel)
theorem dX11_feed_18 : decode cX11_feed 18 = .ok (.iload_n 1, 1) := dl_o27 kcX11_feed (by decide +kernel)
theorem dX11_feed_19 : decode cX11_feed 19 = .ok (.iadd, 1) := dl_o96 kcX11_feed (by decide +kernel)
theorem dX11_feed_20 : decode cX11_feed 20 = .ok (.sipush 12000, 3) := dl_o17 kcX11_feed 12000 (by decide +kernel) (by decide +kernel)
theorem dX11_feed_23 : decode cX11_feed 23 = .ok (.if_icmp .le 6, 3) := dl_o164 kcX11_feed 6 (by decide +kernel) (by decide +kernel)
theorem dX11_feed_26 : decode cX11_feed 26 = .ok (.bipush (-4), 2) := dl_o16 kcX11_feed 252 (by decide +kernel) (by decide +kernel)
theorem dX11_feed_28 : decode cX11_feed 28 = .ok (.ireturn, 1) := dl_o172 kcX11_feed (by decide +kernel)
theorem dX11_feed_29 : decode cX11_feed 29 = .ok (.iload_n 1, 1) := dl_o27 kcX11_feed (by decide +kernel)
theorem dX11_feed_30 : decode cX11_feed 30 = .ok (.iconst 1, 1) := dl_o4 kcX11_feed (by decide +kernel)
theorem dX11_feed_31 : decode cX11_feed 31 = .ok (.isub, 1) := dl_o100 kcX11_feed (by decide +kernel)
theorem dX11_feed_32 : decode cX11_feed 32 = .ok (.istore 4, 2) := dl_o54 kcX11_feed (by decide +kernel)
theorem dX11_feed_34 : decode cX11_feed 34 = .ok (.iload 4, 2) := dl_o21 kcX11_feed (by decide +kernel)
theorem dX11_feed_36 : decode cX11_feed 36 = .ok (.ifCond .lt 37, 3) := dl_o155 kcX11_feed 37 (by decide +kernel) (by decide +kernel)
theorem dX11_feed_39 : decode cX11_feed 39 = .ok (.aload_n 0, 1) := dl_o42 kcX11_feed (by decide +kernel)
theorem dX11_feed_40 : decode cX11_feed 40 = .ok (.getfield 9, 3) := dl_o180 kcX11_feed (by decide +kernel)
theorem dX11_feed_43 : decode cX11_feed 43 = .ok (.aload_n 0, 1) := dl_o42 kcX11_feed (by decide +kernel)
theorem dX11_feed_44 : decode cX11_feed 44 = .ok (.getfield 52, 3) := dl_o180 kcX11_feed (by decide +kernel)
theorem dX11_feed_47 : decode cX11_feed 47 = .ok (.lload_n 2, 1) := dl_o32 kcX11_feed (by decide +kernel)
theorem dX11_feed_48 : decode cX11_feed 48 = .ok (.bipush 8, 2) := dl_o16 kcX11_feed 8 (by decide +kernel) (by decide +kernel)
theorem dX11_feed_50 : decode cX11_feed 50 = .ok (.iload 4, 2) := dl_o21 kcX11_feed (by decide +kernel)
theorem dX11_feed_52 : decode cX11_feed 52 = .ok (.imul, 1) := dl_o104 kcX11_feed (by decide +kernel)
theorem dX11_feed_53 : decode cX11_feed 53 = .ok (.lshr, 1) := dl_o123 kcX11_feed (by decide +kernel)
theorem dX11_feed_54 : decode cX11_feed 54 = .ok (.l2i, 1) := dl_o136 kcX11_feed (by decide +kernel)
theorem dX11_feed_55 : decode cX11_feed 55 = .ok (.i2b, 1) := dl_o145 kcX11_feed (by decide +kernel)
theorem dX11_feed_56 : decode cX11_feed 56 = .ok (.bastore, 1) := dl_o84 kcX11_feed (by decide +kernel)
theorem dX11_feed_57 : decode cX11_feed 57 = .ok (.aload_n 0, 1) := dl_o42 kcX11_feed (by decide +kernel)
theorem dX11_feed_58 : decode cX11_feed 58 = .ok (.dup, 1) := dl_o89 kcX11_feed (by decide +kernel)
theorem dX11_feed_59 : decode cX11_feed 59 = .ok (.getfield 52, 3) := dl_o180 kcX11_feed (by decide +kernel)
theorem dX11_feed_62 : decode cX11_feed 62 = .ok (.iconst 1, 1) := dl_o4 kcX11_feed (by decide +kernel)
theorem dX11_feed_63 : decode cX11_feed 63 = .ok (.iadd, 1) := dl_o96 kcX11_feed (by decide +kernel)
theorem dX11_feed_64 : decode cX11_feed 64 = .ok (.putfield 52, 3) := dl_o181 kcX11_feed (by decide +kernel)
theorem dX11_feed_67 : decode cX11_feed 67 = .ok (.iinc 4 (-1), 3) := by decide +kernel
theorem dX11_feed_70 : decode cX11_feed 70 = .ok (.goto (-36), 3) := dl_o167 kcX11_feed 65500 (by decide +kernel) (by decide +kernel)
theorem dX11_feed_73 : decode cX11_feed 73 = .ok (.aload_n 0, 1) := dl_o42 kcX11_feed (by decide +kernel)
theorem dX11_feed_74 : decode cX11_feed 74 = .ok (.getfield 52, 3) := dl_o180 kcX11_feed (by decide +kernel)
theorem dX11_feed_77 : decode cX11_feed 77 = .ok (.ireturn, 1) := dl_o172 kcX11_feed (by decide +kernel)
def B_X11_feed_34 (N : Nat) (k34 : Int64 → Int32 → sv_V → Option (Int32 × sv_V)) (l2 : Int64) (l4 : Int32) (V : sv_V) : Option (Int32 × sv_V) := if l4 < 0 then (some (V.1 0 1, V)) else (if sx_in (V.1 0 1) 12000 = true then sx_let (sv_I V 1 (V.1 0 1).toNatClampNeg (((l2 >>> (((8 : Int32) * l4).toInt64 &&& 63)).toInt32).toInt8.toInt32).toInt8.toInt32) (fun V3 => sx_let (sv_I V3 0 1 ((V3.1 0 1) + (1 : Int32))) (fun V4 => sx_let (l4 + (-1)) (fun x5 => k34 l2 x5 V4))) else none)
set_option maxRecDepth 20000 in
theorem tB_X11_feed_34 {g : sx_G} (hG : sx_Go g) {P : Option Value → sv_V → Prop} {r : Int32} {Vr : sv_V} (hP : P (some (.int r)) Vr) {N : Nat} {k34 : Int64 → Int32 → sv_V → Option (Int32 × sv_V)} (hk34 : ∀ (l2 : Int64) (l4 : Int32) (V : sv_V), k34 l2 l4 V = some (r, Vr) → sv_N g qX11_feed 0 34 [(0, .ref 0), (2, .long l2), (4, .int l4)] [] V P) {l2 : Int64} {l4 : Int32} {V : sv_V} (h : B_X11_feed_34 N k34 l2 l4 V = some (r, Vr)) : sv_N g qX11_feed 0 34 [(0, .ref 0), (2, .long l2), (4, .int l4)] [] V P := by
  unfold B_X11_feed_34 at h
  refine sx_iload (pc := 34) dX11_feed_34 sx_m2 ?_
  refine sx_if_lt (pc := 36) (tgt := 73) dX11_feed_36 (by decide) (fun c1 => ?_) (fun c1 => ?_)
  · have h := sx_pos c1 h
    refine sx_aload_n (pc := 73) dX11_feed_73 sx_m0 ?_
    refine sv_getI (pc := 74) hG dX11_feed_74 f_11_52 lay_0 rfl ?_
    exact sv_iret (pc := 77) dX11_feed_77 rfl h hP
  · have h := sx_neg c1 h
    refine sx_aload_n (pc := 39) dX11_feed_39 sx_m0 ?_
    refine sv_getA (pc := 40) hG dX11_feed_40 f_11_9 lay_0 rfl cr_0_0 ?_
    refine sx_aload_n (pc := 43) dX11_feed_43 sx_m0 ?_
    refine sv_getI (pc := 44) hG dX11_feed_44 f_11_52 lay_0 rfl ?_
    refine sx_lload_n (pc := 47) dX11_feed_47 sx_m1 ?_
    refine sx_bipush (pc := 48) (v := 8) dX11_feed_48 (by decide) ?_
    refine sx_iload (pc := 50) dX11_feed_50 sx_m2 ?_
    refine sx_imul (pc := 52) dX11_feed_52 ?_
    refine sx_lshr (pc := 53) dX11_feed_53 ?_
    refine sx_l2i (pc := 54) dX11_feed_54 ?_
    refine sx_i2b (pc := 55) dX11_feed_55 ?_
    obtain ⟨g2, h⟩ := sx_grd h
    obtain ⟨V3, hV3⟩ : ∃ z : sv_V, z = sv_I V 1 (V.1 0 1).toNatClampNeg (((l2 >>> (((8 : Int32) * l4).toInt64 &&& 63)).toInt32).toInt8.toInt32).toInt8.toInt32 := ⟨_, rfl⟩
    have h := sx_letE hV3 h
    refine sv_bast (pc := 56) hG dX11_feed_56 lay_1 g2 hV3 ?_
    refine sx_aload_n (pc := 57) dX11_feed_57 sx_m0 ?_
    refine sx_dup (pc := 58) dX11_feed_58 rfl ?_
    refine sv_getI (pc := 59) hG dX11_feed_59 f_11_52 lay_0 rfl ?_
    refine sx_iconst (pc := 62) (v := 1) dX11_feed_62 (by decide) ?_
    refine sx_iadd (pc := 63) dX11_feed_63 ?_
    obtain ⟨V4, hV4⟩ : ∃ z : sv_V, z = sv_I V3 0 1 ((V3.1 0 1) + (1 : Int32)) := ⟨_, rfl⟩
    have h := sx_letE hV4 h
    refine sv_putI (pc := 64) hG dX11_feed_64 f_11_52 lay_0 rfl hV4 ?_
    obtain ⟨x5, hx5⟩ : ∃ z : Int32, z = l4 + (-1) := ⟨_, rfl⟩
    have h := sx_letE hx5 h
    refine sx_iinc (pc := 67) (v := x5) (lo' := [(4, .int x5), (0, .ref 0), (2, .long l2)]) dX11_feed_67 sx_m2 (by rw [hx5]; rfl) (by decide) rfl ?_
    refine sx_goto (pc := 70) (tgt := 34) dX11_feed_70 (by decide) ?_
    refine sx_wk (sx_s1 sx_m1 (sx_s1 sx_m2 (sx_s1 sx_m0 sx_s0))) ?_
    exact hk34 _ _ _ h
theorem tL_X11_feed_34 {g : sx_G} (hG : sx_Go g) {P : Option Value → sv_V → Prop} {r : Int32} {Vr : sv_V} (hP : P (some (.int r)) Vr) {N : Nat}   : ∀ (n : Nat) (l2 : Int64) (l4 : Int32) (V : sv_V), sx_lp3 (B_X11_feed_34 N ) n l2 l4 V = some (r, Vr) → sv_N g qX11_feed 0 34 [(0, .ref 0), (2, .long l2), (4, .int l4)] [] V P :=
  sx_lp3_ind (fun k0 ih _ _ V h => tB_X11_feed_34 hG hP ih h)
def F_X11_feed (N : Nat) (l1 : Int32) (l2 : Int64) (V : sv_V) : Option (Int32 × sv_V) := if l1 < (1 : Int32) then (some ((-2 : Int32), V)) else (if l1 ≤ (8 : Int32) then (if ((V.1 0 1) + l1) ≤ (12000 : Int32) then (sx_let (l1 - (1 : Int32)) (fun x9 => sx_lp3 (B_X11_feed_34 N ) N l2 x9 V)) else (some ((-4 : Int32), V))) else (some ((-2 : Int32), V)))
set_option maxRecDepth 20000 in
theorem t_X11_feed {g : sx_G} (hG : sx_Go g) {P : Option Value → sv_V → Prop} {r : Int32} {Vr : sv_V} (hP : P (some (.int r)) Vr) {N : Nat} {l1 : Int32} {l2 : Int64} {V : sv_V} (h : F_X11_feed N l1 l2 V = some (r, Vr)) : sv_N g qX11_feed 0 0 [(0, .ref 0), (1, .int l1), (2, .long l2)] [] V P := by
  unfold F_X11_feed at h
  refine sx_iload_n (pc := 0) dX11_feed_0 sx_m1 ?_
  refine sx_iconst (pc := 1) (v := 1) dX11_feed_1 (by decide) ?_
  refine sx_icmp_lt (pc := 2) (tgt := 11) dX11_feed_2 (by decide) (fun c6 => ?_) (fun c6 => ?_)
  · have h := sx_pos c6 h
    refine sx_bipush (pc := 11) (v := (-2)) dX11_feed_11 (by decide) ?_
    exact sv_iret (pc := 13) dX11_feed_13 rfl h hP
  · have h := sx_neg c6 h
    refine sx_iload_n (pc := 5) dX11_feed_5 sx_m1 ?_
    refine sx_bipush (pc := 6) (v := 8) dX11_feed_6 (by decide) ?_
    refine sx_icmp_le (pc := 8) (tgt := 14) dX11_feed_8 (by decide) (fun c7 => ?_) (fun c7 => ?_)
    · have h := sx_pos c7 h
      refine sx_aload_n (pc := 14) dX11_feed_14 sx_m0 ?_
      refine sv_getI (pc := 15) hG dX11_feed_15 f_11_52 lay_0 rfl ?_
      refine sx_iload_n (pc := 18) dX11_feed_18 sx_m1 ?_
      refine sx_iadd (pc := 19) dX11_feed_19 ?_
      refine sx_sipush (pc := 20) (v := 12000) dX11_feed_20 (by decide) ?_
      refine sx_icmp_le (pc := 23) (tgt := 29) dX11_feed_23 (by decide) (fun c8 => ?_) (fun c8 => ?_)
      · have h := sx_pos c8 h
        refine sx_iload_n (pc := 29) dX11_feed_29 sx_m1 ?_
        refine sx_iconst (pc := 30) (v := 1) dX11_feed_30 (by decide) ?_
        refine sx_isub (pc := 31) dX11_feed_31 ?_
        refine sv_tI (fun x9 hx9 => ?_)
        have h := sx_letE hx9 h
        refine sx_istore (pc := 32) (lo' := [(4, .int x9), (0, .ref 0), (1, .int l1), (2, .long l2)]) dX11_feed_32 (by decide) rfl ?_
        refine sx_wk (sx_s1 sx_m1 (sx_s1 sx_m3 (sx_s1 sx_m0 sx_s0))) ?_
        exact tL_X11_feed_34 hG hP  N _ _ _ h
      · have h := sx_neg c8 h
        refine sx_bipush (pc := 26) (v := (-4)) dX11_feed_26 (by decide) ?_
        exact sv_iret (pc := 28) dX11_feed_28 rfl h hP
    · have h := sx_neg c7 h
      refine sx_bipush (pc := 11) (v := (-2)) dX11_feed_11 (by decide) ?_
      exact sv_iret (pc := 13) dX11_feed_13 rfl h hP
def ncX11_wipe : Nat := 53264308262501371413784474666
theorem kcX11_wipe : CK cX11_wipe ncX11_wipe 12 := ⟨by decide +kernel, by decide +kernel⟩
theorem dX11_wipe_0 : decode cX11_wipe 0 = .ok (.aload_n 0, 1) := dl_o42 kcX11_wipe (by decide +kernel)
theorem dX11_wipe_1 : decode cX11_wipe 1 = .ok (.getfield 52, 3) := dl_o180 kcX11_wipe (by decide +kernel)
theorem dX11_wipe_4 : decode cX11_wipe 4 = .ok (.istore_n 1, 1) := dl_o60 kcX11_wipe (by decide +kernel)
theorem dX11_wipe_5 : decode cX11_wipe 5 = .ok (.aload_n 0, 1) := dl_o42 kcX11_wipe (by decide +kernel)
theorem dX11_wipe_6 : decode cX11_wipe 6 = .ok (.iconst 0, 1) := dl_o3 kcX11_wipe (by decide +kernel)
theorem dX11_wipe_7 : decode cX11_wipe 7 = .ok (.putfield 52, 3) := dl_o181 kcX11_wipe (by decide +kernel)
theorem dX11_wipe_10 : decode cX11_wipe 10 = .ok (.iload_n 1, 1) := dl_o27 kcX11_wipe (by decide +kernel)
theorem dX11_wipe_11 : decode cX11_wipe 11 = .ok (.ireturn, 1) := dl_o172 kcX11_wipe (by decide +kernel)
def F_X11_wipe  (V : sv_V) : Option (Int32 × sv_V) := sx_let (V.1 0 1) (fun x1 => sx_let (sv_I V 0 1 (0 : Int32)) (fun V2 => some (x1, V2)))
set_option maxRecDepth 20000 in
theorem t_X11_wipe {g : sx_G} (hG : sx_Go g) {P : Option Value → sv_V → Prop} {r : Int32} {Vr : sv_V} (hP : P (some (.int r)) Vr)  {V : sv_V} (h : F_X11_wipe  V = some (r, Vr)) : sv_N g qX11_wipe 0 0 [(0, .ref 0)] [] V P := by
  unfold F_X11_wipe at h
  refine sx_aload_n (pc := 0) dX11_wipe_0 sx_m0 ?_
  refine sv_getI (pc := 1) hG dX11_wipe_1 f_11_52 lay_0 rfl ?_
  refine sv_tI (fun x1 hx1 => ?_)
  have h := sx_letE hx1 h
  refine sx_istore_n (pc := 4) (lo' := [(1, .int x1), (0, .ref 0)]) dX11_wipe_4 (by decide) rfl ?_
  refine sx_aload_n (pc := 5) dX11_wipe_5 sx_m1 ?_
  refine sx_iconst (pc := 6) (v := 0) dX11_wipe_6 (by decide) ?_
  obtain ⟨V2, hV2⟩ : ∃ z : sv_V, z = sv_I V 0 1 (0 : Int32) := ⟨_, rfl⟩
  have h := sx_letE hV2 h
  refine sv_putI (pc := 7) hG dX11_wipe_7 f_11_52 lay_0 rfl hV2 ?_
  refine sx_iload_n (pc := 10) dX11_wipe_10 sx_m0 ?_
  exact sv_iret (pc := 11) dX11_wipe_11 rfl h hP
def ncX11_font : Nat := 3275078789820944177164797047969046570585950055280233699074545481205757089104754829158870394755607642508939534090279976994303420452833336086023216253050478077945078210626073718993452362272489463835342351671307625574929053684125875678981329786031264641078587308206509454239000018699598513886382976498719847656016331000009186317468591415829226273643837498296491685266542332785706
theorem kcX11_font : CK cX11_font ncX11_font 156 := ⟨by decide +kernel, by decide +kernel⟩
theorem dX11_font_0 : decode cX11_font 0 = .ok (.aload_n 0, 1) := dl_o42 kcX11_font (by decide +kernel)
theorem dX11_font_1 : decode cX11_font 1 = .ok (.getfield 16, 3) := dl_o180 kcX11_font (by decide +kernel)
theorem dX11_font_4 : decode cX11_font 4 = .ok (.getfield 67, 3) := dl_o180 kcX11_font (by decide +kernel)
theorem dX11_font_7 : decode cX11_font 7 = .ok (.ifCond .ne 6, 3) := dl_o154 kcX11_font 6 (by decide +kernel) (by decide +kernel)
theorem dX11_font_10 : decode cX11_font 10 = .ok (.bipush (-3), 2) := dl_o16 kcX11_font 253 (by decide +kernel) (by decide +kernel)
theorem dX11_font_12 : decode cX11_font 12 = .ok (.ireturn, 1) := dl_o172 kcX11_font (by decide +kernel)
theorem dX11_font_13 : decode cX11_font 13 = .ok (.iload_n 1, 1) := dl_o27 kcX11_font (by decide +kernel)
theorem dX11_font_14 : decode cX11_font 14 = .ok (.tableswitch 139 0 9 #[54, 62, 70, 78, 86, 94, 102, 110, 123, 131], 54) := by decide +kernel
theorem dX11_font_68 : decode cX11_font 68 = .ok (.aload_n 0, 1) := dl_o42 kcX11_font (by decide +kernel)
theorem dX11_font_69 : decode cX11_font 69 = .ok (.getfield 16, 3) := dl_o180 kcX11_font (by decide +kernel)
theorem dX11_font_72 : decode cX11_font 72 = .ok (.getfield 74, 3) := dl_o180 kcX11_font (by decide +kernel)
theorem dX11_font_75 : decode cX11_font 75 = .ok (.ireturn, 1) := dl_o172 kcX11_font (by decide +kernel)
theorem dX11_font_76 : decode cX11_font 76 = .ok (.aload_n 0, 1) := dl_o42 kcX11_font (by decide +kernel)
theorem dX11_font_77 : decode cX11_font 77 = .ok (.getfield 16, 3) := dl_o180 kcX11_font (by decide +kernel)
theorem dX11_font_80 : decode cX11_font 80 = .ok (.getfield 71, 3) := dl_o180 kcX11_font (by decide +kernel)
theorem dX11_font_83 : decode cX11_font 83 = .ok (.ireturn, 1) := dl_o172 kcX11_font (by decide +kernel)
theorem dX11_font_84 : decode cX11_font 84 = .ok (.aload_n 0, 1) := dl_o42 kcX11_font (by decide +kernel)
theorem dX11_font_85 : decode cX11_font 85 = .ok (.getfield 16, 3) := dl_o180 kcX11_font (by decide +kernel)
theorem dX11_font_88 : decode cX11_font 88 = .ok (.getfield 77, 3) := dl_o180 kcX11_font (by decide +kernel)
theorem dX11_font_91 : decode cX11_font 91 = .ok (.ireturn, 1) := dl_o172 kcX11_font (by decide +kernel)
theorem dX11_font_92 : decode cX11_font 92 = .ok (.aload_n 0, 1) := dl_o42 kcX11_font (by decide +kernel)
theorem dX11_font_93 : decode cX11_font 93 = .ok (.getfield 16, 3) := dl_o180 kcX11_font (by decide +kernel)
theorem dX11_font_96 : decode cX11_font 96 = .ok (.getfield 80, 3) := dl_o180 kcX11_font (by decide +kernel)
theorem dX11_font_99 : decode cX11_font 99 = .ok (.ireturn, 1) := dl_o172 kcX11_font (by decide +kernel)
theorem dX11_font_100 : decode cX11_font 100 = .ok (.aload_n 0, 1) := dl_o42 kcX11_font (by decide +kernel)
theorem dX11_font_101 : decode cX11_font 101 = .ok (.getfield 16, 3) := dl_o180 kcX11_font (by decide +kernel)
theorem dX11_font_104 : decode cX11_font 104 = .ok (.getfield 83, 3) := dl_o180 kcX11_font (by decide +kernel)
theorem dX11_font_107 : decode cX11_font 107 = .ok (.ireturn, 1) := dl_o172 kcX11_font (by decide +kernel)
theorem dX11_font_108 : decode cX11_font 108 = .ok (.aload_n 0, 1) := dl_o42 kcX11_font (by decide +kernel)
theorem dX11_font_109 : decode cX11_font 109 = .ok (.getfield 16, 3) := dl_o180 kcX11_font (by decide +kernel)
theorem dX11_font_112 : decode cX11_font 112 = .ok (.getfield 86, 3) := dl_o180 kcX11_font (by decide +kernel)
theorem dX11_font_115 : decode cX11_font 115 = .ok (.ireturn, 1) := dl_o172 kcX11_font (by decide +kernel)
theorem dX11_font_116 : decode cX11_font 116 = .ok (.aload_n 0, 1) := dl_o42 kcX11_font (by decide +kernel)
theorem dX11_font_117 : decode cX11_font 117 = .ok (.getfield 16, 3) := dl_o180 kcX11_font (by decide +kernel)
theorem dX11_font_120 : decode cX11_font 120 = .ok (.getfield 89, 3) := dl_o180 kcX11_font (by decide +kernel)
theorem dX11_font_123 : decode cX11_font 123 = .ok (.ireturn, 1) := dl_o172 kcX11_font (by decide +kernel)
theorem dX11_font_124 : decode cX11_font 124 = .ok (.aload_n 0, 1) := dl_o42 kcX11_font (by decide +kernel)
theorem dX11_font_125 : decode cX11_font 125 = .ok (.getfield 16, 3) := dl_o180 kcX11_font (by decide +kernel)
theorem dX11_font_128 : decode cX11_font 128 = .ok (.getfield 92, 3) := dl_o180 kcX11_font (by decide +kernel)
theorem dX11_font_131 : decode cX11_font 131 = .ok (.bipush 8, 2) := dl_o16 kcX11_font 8 (by decide +kernel) (by decide +kernel)
theorem dX11_font_133 : decode cX11_font 133 = .ok (.iaload, 1) := dl_o46 kcX11_font (by decide +kernel)
theorem dX11_font_134 : decode cX11_font 134 = .ok (.iconst 2, 1) := dl_o5 kcX11_font (by decide +kernel)
theorem dX11_font_135 : decode cX11_font 135 = .ok (.idiv, 1) := dl_o108 kcX11_font (by decide +kernel)
theorem dX11_font_136 : decode cX11_font 136 = .ok (.ireturn, 1) := dl_o172 kcX11_font (by decide +kernel)
theorem dX11_font_137 : decode cX11_font 137 = .ok (.aload_n 0, 1) := dl_o42 kcX11_font (by decide +kernel)
theorem dX11_font_138 : decode cX11_font 138 = .ok (.getfield 16, 3) := dl_o180 kcX11_font (by decide +kernel)
theorem dX11_font_141 : decode cX11_font 141 = .ok (.getfield 95, 3) := dl_o180 kcX11_font (by decide +kernel)
theorem dX11_font_144 : decode cX11_font 144 = .ok (.ireturn, 1) := dl_o172 kcX11_font (by decide +kernel)
theorem dX11_font_145 : decode cX11_font 145 = .ok (.aload_n 0, 1) := dl_o42 kcX11_font (by decide +kernel)
theorem dX11_font_146 : decode cX11_font 146 = .ok (.getfield 16, 3) := dl_o180 kcX11_font (by decide +kernel)
theorem dX11_font_149 : decode cX11_font 149 = .ok (.getfield 98, 3) := dl_o180 kcX11_font (by decide +kernel)
theorem dX11_font_152 : decode cX11_font 152 = .ok (.ireturn, 1) := dl_o172 kcX11_font (by decide +kernel)
theorem dX11_font_153 : decode cX11_font 153 = .ok (.bipush (-2), 2) := dl_o16 kcX11_font 254 (by decide +kernel) (by decide +kernel)
theorem dX11_font_155 : decode cX11_font 155 = .ok (.ireturn, 1) := dl_o172 kcX11_font (by decide +kernel)
def F_X11_font (l1 : Int32) (V : sv_V) : Option (Int32 × sv_V) := if (V.1 2 2) = 0 then (some ((-3 : Int32), V)) else (if l1 = 0 then (some (V.1 2 6, V)) else (if l1 = 1 then (some (V.1 2 7, V)) else (if l1 = 2 then (some (V.1 2 8, V)) else (if l1 = 3 then (some (V.1 2 9, V)) else (if l1 = 4 then (some (V.1 2 5, V)) else (if l1 = 5 then (some (V.1 2 11, V)) else (if l1 = 6 then (some (V.1 2 15, V)) else (if l1 = 7 then (some ((V.1 5 (8 : Int32).toNatClampNeg) / (2 : Int32), V)) else (if l1 = 8 then (some (V.1 2 14, V)) else (if l1 = 9 then (some (V.1 2 1, V)) else (some ((-2 : Int32), V))))))))))))
set_option maxRecDepth 20000 in
theorem t_X11_font {g : sx_G} (hG : sx_Go g) {P : Option Value → sv_V → Prop} {r : Int32} {Vr : sv_V} (hP : P (some (.int r)) Vr) {l1 : Int32} {V : sv_V} (h : F_X11_font l1 V = some (r, Vr)) : sv_N g qX11_font 0 0 [(0, .ref 0), (1, .int l1)] [] V P := by
  unfold F_X11_font at h
  refine sx_aload_n (pc := 0) dX11_font_0 sx_m0 ?_
  refine sv_getO (pc := 1) hG dX11_font_1 f_11_16 lay_0 rfl cr_0_2 ?_
  refine sv_getZ (pc := 4) hG dX11_font_4 f_11_67 lay_2 rfl ?_
  refine sx_if_ne (pc := 7) (tgt := 13) dX11_font_7 (by decide) (fun c1 => ?_) (fun c1 => ?_)
  · have h := sx_neg c1 h
    refine sx_iload_n (pc := 13) dX11_font_13 sx_m1 ?_
    by_cases c2 : l1 = 0
    · have h := sx_pos c2 h
      refine sx_tabI (pc := 14) (off := 54) (tgt := 68) dX11_font_14 (by rw [c2]; decide) (by rw [c2]; decide) (by rw [c2]; rfl) (by decide) ?_
      refine sx_aload_n (pc := 68) dX11_font_68 sx_m0 ?_
      refine sv_getO (pc := 69) hG dX11_font_69 f_11_16 lay_0 rfl cr_0_2 ?_
      refine sv_getI (pc := 72) hG dX11_font_72 f_11_74 lay_2 rfl ?_
      exact sv_iret (pc := 75) dX11_font_75 rfl h hP
    have h := sx_neg c2 h
    by_cases c3 : l1 = 1
    · have h := sx_pos c3 h
      refine sx_tabI (pc := 14) (off := 62) (tgt := 76) dX11_font_14 (by rw [c3]; decide) (by rw [c3]; decide) (by rw [c3]; rfl) (by decide) ?_
      refine sx_aload_n (pc := 76) dX11_font_76 sx_m0 ?_
      refine sv_getO (pc := 77) hG dX11_font_77 f_11_16 lay_0 rfl cr_0_2 ?_
      refine sv_getI (pc := 80) hG dX11_font_80 f_11_71 lay_2 rfl ?_
      exact sv_iret (pc := 83) dX11_font_83 rfl h hP
    have h := sx_neg c3 h
    by_cases c4 : l1 = 2
    · have h := sx_pos c4 h
      refine sx_tabI (pc := 14) (off := 70) (tgt := 84) dX11_font_14 (by rw [c4]; decide) (by rw [c4]; decide) (by rw [c4]; rfl) (by decide) ?_
      refine sx_aload_n (pc := 84) dX11_font_84 sx_m0 ?_
      refine sv_getO (pc := 85) hG dX11_font_85 f_11_16 lay_0 rfl cr_0_2 ?_
      refine sv_getI (pc := 88) hG dX11_font_88 f_11_77 lay_2 rfl ?_
      exact sv_iret (pc := 91) dX11_font_91 rfl h hP
    have h := sx_neg c4 h
    by_cases c5 : l1 = 3
    · have h := sx_pos c5 h
      refine sx_tabI (pc := 14) (off := 78) (tgt := 92) dX11_font_14 (by rw [c5]; decide) (by rw [c5]; decide) (by rw [c5]; rfl) (by decide) ?_
      refine sx_aload_n (pc := 92) dX11_font_92 sx_m0 ?_
      refine sv_getO (pc := 93) hG dX11_font_93 f_11_16 lay_0 rfl cr_0_2 ?_
      refine sv_getI (pc := 96) hG dX11_font_96 f_11_80 lay_2 rfl ?_
      exact sv_iret (pc := 99) dX11_font_99 rfl h hP
    have h := sx_neg c5 h
    by_cases c6 : l1 = 4
    · have h := sx_pos c6 h
      refine sx_tabI (pc := 14) (off := 86) (tgt := 100) dX11_font_14 (by rw [c6]; decide) (by rw [c6]; decide) (by rw [c6]; rfl) (by decide) ?_
      refine sx_aload_n (pc := 100) dX11_font_100 sx_m0 ?_
      refine sv_getO (pc := 101) hG dX11_font_101 f_11_16 lay_0 rfl cr_0_2 ?_
      refine sv_getI (pc := 104) hG dX11_font_104 f_11_83 lay_2 rfl ?_
      exact sv_iret (pc := 107) dX11_font_107 rfl h hP
    have h := sx_neg c6 h
    by_cases c7 : l1 = 5
    · have h := sx_pos c7 h
      refine sx_tabI (pc := 14) (off := 94) (tgt := 108) dX11_font_14 (by rw [c7]; decide) (by rw [c7]; decide) (by rw [c7]; rfl) (by decide) ?_
      refine sx_aload_n (pc := 108) dX11_font_108 sx_m0 ?_
      refine sv_getO (pc := 109) hG dX11_font_109 f_11_16 lay_0 rfl cr_0_2 ?_
      refine sv_getI (pc := 112) hG dX11_font_112 f_11_86 lay_2 rfl ?_
      exact sv_iret (pc := 115) dX11_font_115 rfl h hP
    have h := sx_neg c7 h
    by_cases c8 : l1 = 6
    · have h := sx_pos c8 h
      refine sx_tabI (pc := 14) (off := 102) (tgt := 116) dX11_font_14 (by rw [c8]; decide) (by rw [c8]; decide) (by rw [c8]; rfl) (by decide) ?_
      refine sx_aload_n (pc := 116) dX11_font_116 sx_m0 ?_
      refine sv_getO (pc := 117) hG dX11_font_117 f_11_16 lay_0 rfl cr_0_2 ?_
      refine sv_getI (pc := 120) hG dX11_font_120 f_11_89 lay_2 rfl ?_
      exact sv_iret (pc := 123) dX11_font_123 rfl h hP
    have h := sx_neg c8 h
    by_cases c9 : l1 = 7
    · have h := sx_pos c9 h
      refine sx_tabI (pc := 14) (off := 110) (tgt := 124) dX11_font_14 (by rw [c9]; decide) (by rw [c9]; decide) (by rw [c9]; rfl) (by decide) ?_
      refine sx_aload_n (pc := 124) dX11_font_124 sx_m0 ?_
      refine sv_getO (pc := 125) hG dX11_font_125 f_11_16 lay_0 rfl cr_0_2 ?_
      refine sv_getA (pc := 128) hG dX11_font_128 f_11_92 lay_2 rfl cr_2_4 ?_
      refine sx_bipush (pc := 131) (v := 8) dX11_font_131 (by decide) ?_
      refine sv_iald (pc := 133) hG dX11_font_133 lay_5 (by decide) ?_
      refine sx_iconst (pc := 134) (v := 2) dX11_font_134 (by decide) ?_
      refine sx_idiv (pc := 135) dX11_font_135 (by decide) ?_
      exact sv_iret (pc := 136) dX11_font_136 rfl h hP
    have h := sx_neg c9 h
    by_cases c10 : l1 = 8
    · have h := sx_pos c10 h
      refine sx_tabI (pc := 14) (off := 123) (tgt := 137) dX11_font_14 (by rw [c10]; decide) (by rw [c10]; decide) (by rw [c10]; rfl) (by decide) ?_
      refine sx_aload_n (pc := 137) dX11_font_137 sx_m0 ?_
      refine sv_getO (pc := 138) hG dX11_font_138 f_11_16 lay_0 rfl cr_0_2 ?_
      refine sv_getI (pc := 141) hG dX11_font_141 f_11_95 lay_2 rfl ?_
      exact sv_iret (pc := 144) dX11_font_144 rfl h hP
    have h := sx_neg c10 h
    by_cases c11 : l1 = 9
    · have h := sx_pos c11 h
      refine sx_tabI (pc := 14) (off := 131) (tgt := 145) dX11_font_14 (by rw [c11]; decide) (by rw [c11]; decide) (by rw [c11]; rfl) (by decide) ?_
      refine sx_aload_n (pc := 145) dX11_font_145 sx_m0 ?_
      refine sv_getO (pc := 146) hG dX11_font_146 f_11_16 lay_0 rfl cr_0_2 ?_
      refine sv_getI (pc := 149) hG dX11_font_149 f_11_98 lay_2 rfl ?_
      exact sv_iret (pc := 152) dX11_font_152 rfl h hP
    have h := sx_neg c11 h
    refine sx_tabO (pc := 14) (tgt := 153) dX11_font_14 (by have ec2 := lv_neT (a := 0) c2 rfl; have ec3 := lv_neT (a := 1) c3 rfl; have ec4 := lv_neT (a := 2) c4 rfl; have ec5 := lv_neT (a := 3) c5 rfl; have ec6 := lv_neT (a := 4) c6 rfl; have ec7 := lv_neT (a := 5) c7 rfl; have ec8 := lv_neT (a := 6) c8 rfl; have ec9 := lv_neT (a := 7) c9 rfl; have ec10 := lv_neT (a := 8) c10 rfl; have ec11 := lv_neT (a := 9) c11 rfl; omega) (by decide) ?_
    refine sx_bipush (pc := 153) (v := (-2)) dX11_font_153 (by decide) ?_
    exact sv_iret (pc := 155) dX11_font_155 rfl h hP
  · have h := sx_pos c1 h
    refine sx_bipush (pc := 10) (v := (-3)) dX11_font_10 (by decide) ?_
    exact sv_iret (pc := 12) dX11_font_12 rfl h hP
def ncX11_table : Nat := 2325154962350253355736820958117660429025883499361698823728845492531251176372372611982498864161180732959986949420695648390657991678001211266888366765555889194
theorem kcX11_table : CK cX11_table ncX11_table 65 := ⟨by decide +kernel, by decide +kernel⟩
theorem dX11_table_0 : decode cX11_table 0 = .ok (.aload_n 0, 1) := dl_o42 kcX11_table (by decide +kernel)
theorem dX11_table_1 : decode cX11_table 1 = .ok (.getfield 16, 3) := dl_o180 kcX11_table (by decide +kernel)
theorem dX11_table_4 : decode cX11_table 4 = .ok (.getfield 67, 3) := dl_o180 kcX11_table (by decide +kernel)
theorem dX11_table_7 : decode cX11_table 7 = .ok (.ifCond .ne 7, 3) := dl_o154 kcX11_table 7 (by decide +kernel) (by decide +kernel)
theorem dX11_table_10 : decode cX11_table 10 = .ok (.ldc2_w 101, 3) := dl_o20 kcX11_table (by decide +kernel)
theorem dX11_table_13 : decode cX11_table 13 = .ok (.lreturn, 1) := dl_o173 kcX11_table (by decide +kernel)
theorem dX11_table_14 : decode cX11_table 14 = .ok (.iload_n 1, 1) := dl_o27 kcX11_table (by decide +kernel)
theorem dX11_table_15 : decode cX11_table 15 = .ok (.ifCond .lt 14, 3) := dl_o155 kcX11_table 14 (by decide +kernel) (by decide +kernel)
theorem dX11_table_18 : decode cX11_table 18 = .ok (.iload_n 1, 1) := dl_o27 kcX11_table (by decide +kernel)
theorem dX11_table_19 : decode cX11_table 19 = .ok (.aload_n 0, 1) := dl_o42 kcX11_table (by decide +kernel)
theorem dX11_table_20 : decode cX11_table 20 = .ok (.getfield 16, 3) := dl_o180 kcX11_table (by decide +kernel)
theorem dX11_table_23 : decode cX11_table 23 = .ok (.getfield 83, 3) := dl_o180 kcX11_table (by decide +kernel)
theorem dX11_table_26 : decode cX11_table 26 = .ok (.if_icmp .lt 7, 3) := dl_o161 kcX11_table 7 (by decide +kernel) (by decide +kernel)
theorem dX11_table_29 : decode cX11_table 29 = .ok (.ldc2_w 103, 3) := dl_o20 kcX11_table (by decide +kernel)
theorem dX11_table_32 : decode cX11_table 32 = .ok (.lreturn, 1) := dl_o173 kcX11_table (by decide +kernel)
theorem dX11_table_33 : decode cX11_table 33 = .ok (.iload_n 2, 1) := dl_o28 kcX11_table (by decide +kernel)
theorem dX11_table_34 : decode cX11_table 34 = .ok (.ifCond .lt 8, 3) := dl_o155 kcX11_table 8 (by decide +kernel) (by decide +kernel)
theorem dX11_table_37 : decode cX11_table 37 = .ok (.iload_n 2, 1) := dl_o28 kcX11_table (by decide +kernel)
theorem dX11_table_38 : decode cX11_table 38 = .ok (.iconst 3, 1) := dl_o6 kcX11_table (by decide +kernel)
theorem dX11_table_39 : decode cX11_table 39 = .ok (.if_icmp .le 7, 3) := dl_o164 kcX11_table 7 (by decide +kernel) (by decide +kernel)
theorem dX11_table_42 : decode cX11_table 42 = .ok (.ldc2_w 105, 3) := dl_o20 kcX11_table (by decide +kernel)
theorem dX11_table_45 : decode cX11_table 45 = .ok (.lreturn, 1) := dl_o173 kcX11_table (by decide +kernel)
theorem dX11_table_46 : decode cX11_table 46 = .ok (.aload_n 0, 1) := dl_o42 kcX11_table (by decide +kernel)
theorem dX11_table_47 : decode cX11_table 47 = .ok (.getfield 16, 3) := dl_o180 kcX11_table (by decide +kernel)
theorem dX11_table_50 : decode cX11_table 50 = .ok (.bipush 12, 2) := dl_o16 kcX11_table 12 (by decide +kernel) (by decide +kernel)
theorem dX11_table_52 : decode cX11_table 52 = .ok (.bipush 16, 2) := dl_o16 kcX11_table 16 (by decide +kernel) (by decide +kernel)
theorem dX11_table_54 : decode cX11_table 54 = .ok (.iload_n 1, 1) := dl_o27 kcX11_table (by decide +kernel)
theorem dX11_table_55 : decode cX11_table 55 = .ok (.imul, 1) := dl_o104 kcX11_table (by decide +kernel)
theorem dX11_table_56 : decode cX11_table 56 = .ok (.iadd, 1) := dl_o96 kcX11_table (by decide +kernel)
theorem dX11_table_57 : decode cX11_table 57 = .ok (.iconst 4, 1) := dl_o7 kcX11_table (by decide +kernel)
theorem dX11_table_58 : decode cX11_table 58 = .ok (.iload_n 2, 1) := dl_o28 kcX11_table (by decide +kernel)
theorem dX11_table_59 : decode cX11_table 59 = .ok (.imul, 1) := dl_o104 kcX11_table (by decide +kernel)
theorem dX11_table_60 : decode cX11_table 60 = .ok (.iadd, 1) := dl_o96 kcX11_table (by decide +kernel)
theorem dX11_table_61 : decode cX11_table 61 = .ok (.invokevirtual 107, 3) := dl_o182 kcX11_table (by decide +kernel)
theorem dX11_table_64 : decode cX11_table 64 = .ok (.lreturn, 1) := dl_o173 kcX11_table (by decide +kernel)
def F_X11_table (l1 : Int32) (l2 : Int32) (V : sv_V) : Option (Int64 × sv_V) := if (V.1 2 2) = 0 then (some ((-3 : Int64), V)) else (if l1 < 0 then (some ((-1 : Int64), V)) else (if l1 < (V.1 2 5) then (if l2 < 0 then (some ((-2 : Int64), V)) else (if l2 ≤ (3 : Int32) then ((F_X2_u4 (((12 : Int32) + ((16 : Int32) * l1)) + ((4 : Int32) * l2)) V).bind (fun (x8, V6) => some (x8, V6))) else (some ((-2 : Int64), V)))) else (some ((-1 : Int64), V))))
set_option maxRecDepth 20000 in
theorem t_X11_table {g : sx_G} (hG : sx_Go g) {P : Option Value → sv_V → Prop} {r : Int64} {Vr : sv_V} (hP : P (some (.long r)) Vr) {l1 : Int32} {l2 : Int32} {V : sv_V} (h : F_X11_table l1 l2 V = some (r, Vr)) : sv_N g qX11_table 2 0 [(0, .ref 0), (1, .int l1), (2, .int l2)] [] V P := by
  unfold F_X11_table at h
  refine sx_aload_n (pc := 0) dX11_table_0 sx_m0 ?_
  refine sv_getO (pc := 1) hG dX11_table_1 f_11_16 lay_0 rfl cr_0_2 ?_
  refine sv_getZ (pc := 4) hG dX11_table_4 f_11_67 lay_2 rfl ?_
  refine sx_if_ne (pc := 7) (tgt := 14) dX11_table_7 (by decide) (fun c1 => ?_) (fun c1 => ?_)
  · have h := sx_neg c1 h
    refine sx_iload_n (pc := 14) dX11_table_14 sx_m1 ?_
    refine sx_if_lt (pc := 15) (tgt := 29) dX11_table_15 (by decide) (fun c2 => ?_) (fun c2 => ?_)
    · have h := sx_pos c2 h
      refine sx_ldc2 (pc := 29) dX11_table_29 k_X11_103 ?_
      exact sv_lret (pc := 32) dX11_table_32 rfl h hP
    · have h := sx_neg c2 h
      refine sx_iload_n (pc := 18) dX11_table_18 sx_m1 ?_
      refine sx_aload_n (pc := 19) dX11_table_19 sx_m0 ?_
      refine sv_getO (pc := 20) hG dX11_table_20 f_11_16 lay_0 rfl cr_0_2 ?_
      refine sv_getI (pc := 23) hG dX11_table_23 f_11_83 lay_2 rfl ?_
      refine sx_icmp_lt (pc := 26) (tgt := 33) dX11_table_26 (by decide) (fun c3 => ?_) (fun c3 => ?_)
      · have h := sx_pos c3 h
        refine sx_iload_n (pc := 33) dX11_table_33 sx_m2 ?_
        refine sx_if_lt (pc := 34) (tgt := 42) dX11_table_34 (by decide) (fun c4 => ?_) (fun c4 => ?_)
        · have h := sx_pos c4 h
          refine sx_ldc2 (pc := 42) dX11_table_42 k_X11_105 ?_
          exact sv_lret (pc := 45) dX11_table_45 rfl h hP
        · have h := sx_neg c4 h
          refine sx_iload_n (pc := 37) dX11_table_37 sx_m2 ?_
          refine sx_iconst (pc := 38) (v := 3) dX11_table_38 (by decide) ?_
          refine sx_icmp_le (pc := 39) (tgt := 46) dX11_table_39 (by decide) (fun c5 => ?_) (fun c5 => ?_)
          · have h := sx_pos c5 h
            refine sx_aload_n (pc := 46) dX11_table_46 sx_m0 ?_
            refine sv_getO (pc := 47) hG dX11_table_47 f_11_16 lay_0 rfl cr_0_2 ?_
            refine sx_bipush (pc := 50) (v := 12) dX11_table_50 (by decide) ?_
            refine sx_bipush (pc := 52) (v := 16) dX11_table_52 (by decide) ?_
            refine sx_iload_n (pc := 54) dX11_table_54 sx_m1 ?_
            refine sx_imul (pc := 55) dX11_table_55 ?_
            refine sx_iadd (pc := 56) dX11_table_56 ?_
            refine sx_iconst (pc := 57) (v := 4) dX11_table_57 (by decide) ?_
            refine sx_iload_n (pc := 58) dX11_table_58 sx_m2 ?_
            refine sx_imul (pc := 59) dX11_table_59 ?_
            refine sx_iadd (pc := 60) dX11_table_60 ?_
            obtain ⟨⟨x8, V6⟩, g7, h⟩ := sx_bnd h
            refine sv_cV (pc := 61) (y := qX2_u4) (o := (some (.long x8))) (as := [.int (((12 : Int32) + ((16 : Int32) * l1)) + ((4 : Int32) * l2))]) (V1 := V6) hG dX11_table_61 l_X11_107 y0X2_u4 yvX2_u4 rfl (Nat.le_of_ble_eq_true rfl) lay_2 kr_2 (by decide) (Nat.le_of_ble_eq_true rfl) rfl rfl rfl (t_X2_u4 hG ⟨rfl, rfl⟩ g7) ?_
            exact sv_lret (pc := 64) dX11_table_64 rfl h hP
          · have h := sx_neg c5 h
            refine sx_ldc2 (pc := 42) dX11_table_42 k_X11_105 ?_
            exact sv_lret (pc := 45) dX11_table_45 rfl h hP
      · have h := sx_neg c3 h
        refine sx_ldc2 (pc := 29) dX11_table_29 k_X11_103 ?_
        exact sv_lret (pc := 32) dX11_table_32 rfl h hP
  · have h := sx_pos c1 h
    refine sx_ldc2 (pc := 10) dX11_table_10 k_X11_101 ?_
    exact sv_lret (pc := 13) dX11_table_13 rfl h hP
def ncX11_kern : Nat := 103716344066529063654689217067010138378085811506688746786857536316406324506152739238192672555800258250770835616810
theorem kcX11_kern : CK cX11_kern ncX11_kern 47 := ⟨by decide +kernel, by decide +kernel⟩
theorem dX11_kern_0 : decode cX11_kern 0 = .ok (.aload_n 0, 1) := dl_o42 kcX11_kern (by decide +kernel)
theorem dX11_kern_1 : decode cX11_kern 1 = .ok (.getfield 16, 3) := dl_o180 kcX11_kern (by decide +kernel)
theorem dX11_kern_4 : decode cX11_kern 4 = .ok (.getfield 67, 3) := dl_o180 kcX11_kern (by decide +kernel)
theorem dX11_kern_7 : decode cX11_kern 7 = .ok (.ifCond .ne 6, 3) := dl_o154 kcX11_kern 6 (by decide +kernel) (by decide +kernel)
theorem dX11_kern_10 : decode cX11_kern 10 = .ok (.bipush (-3), 2) := dl_o16 kcX11_kern 253 (by decide +kernel) (by decide +kernel)
theorem dX11_kern_12 : decode cX11_kern 12 = .ok (.ireturn, 1) := dl_o172 kcX11_kern (by decide +kernel)
theorem dX11_kern_13 : decode cX11_kern 13 = .ok (.aload_n 0, 1) := dl_o42 kcX11_kern (by decide +kernel)
theorem dX11_kern_14 : decode cX11_kern 14 = .ok (.getfield 16, 3) := dl_o180 kcX11_kern (by decide +kernel)
theorem dX11_kern_17 : decode cX11_kern 17 = .ok (.iload_n 1, 1) := dl_o27 kcX11_kern (by decide +kernel)
theorem dX11_kern_18 : decode cX11_kern 18 = .ok (.invokevirtual 116, 3) := dl_o182 kcX11_kern (by decide +kernel)
theorem dX11_kern_21 : decode cX11_kern 21 = .ok (.ifCond .eq 14, 3) := dl_o153 kcX11_kern 14 (by decide +kernel) (by decide +kernel)
theorem dX11_kern_24 : decode cX11_kern 24 = .ok (.aload_n 0, 1) := dl_o42 kcX11_kern (by decide +kernel)
theorem dX11_kern_25 : decode cX11_kern 25 = .ok (.getfield 16, 3) := dl_o180 kcX11_kern (by decide +kernel)
theorem dX11_kern_28 : decode cX11_kern 28 = .ok (.iload_n 2, 1) := dl_o28 kcX11_kern (by decide +kernel)
theorem dX11_kern_29 : decode cX11_kern 29 = .ok (.invokevirtual 116, 3) := dl_o182 kcX11_kern (by decide +kernel)
theorem dX11_kern_32 : decode cX11_kern 32 = .ok (.ifCond .ne 5, 3) := dl_o154 kcX11_kern 5 (by decide +kernel) (by decide +kernel)
theorem dX11_kern_35 : decode cX11_kern 35 = .ok (.iconst (-1), 1) := dl_o2 kcX11_kern (by decide +kernel)
theorem dX11_kern_36 : decode cX11_kern 36 = .ok (.ireturn, 1) := dl_o172 kcX11_kern (by decide +kernel)
theorem dX11_kern_37 : decode cX11_kern 37 = .ok (.aload_n 0, 1) := dl_o42 kcX11_kern (by decide +kernel)
theorem dX11_kern_38 : decode cX11_kern 38 = .ok (.getfield 16, 3) := dl_o180 kcX11_kern (by decide +kernel)
theorem dX11_kern_41 : decode cX11_kern 41 = .ok (.iload_n 1, 1) := dl_o27 kcX11_kern (by decide +kernel)
theorem dX11_kern_42 : decode cX11_kern 42 = .ok (.iload_n 2, 1) := dl_o28 kcX11_kern (by decide +kernel)
theorem dX11_kern_43 : decode cX11_kern 43 = .ok (.invokevirtual 130, 3) := dl_o182 kcX11_kern (by decide +kernel)
theorem dX11_kern_46 : decode cX11_kern 46 = .ok (.ireturn, 1) := dl_o172 kcX11_kern (by decide +kernel)
def F_X11_kern (N : Nat) (l1 : Int32) (l2 : Int32) (V : sv_V) : Option (Int32 × sv_V) := if (V.1 2 2) = 0 then (some ((-3 : Int32), V)) else ((F_X2_hasGlyph l1 V).bind (fun (x4, V2) => if x4 = 0 then (some ((-1 : Int32), V2)) else ((F_X2_hasGlyph l2 V2).bind (fun (x8, V6) => if x8 = 0 then (some ((-1 : Int32), V6)) else ((F_X2_kernOf N l1 l2 V6).bind (fun (x12, V10) => some (x12, V10)))))))
set_option maxRecDepth 20000 in
theorem t_X11_kern {g : sx_G} (hG : sx_Go g) {P : Option Value → sv_V → Prop} {r : Int32} {Vr : sv_V} (hP : P (some (.int r)) Vr) {N : Nat} {l1 : Int32} {l2 : Int32} {V : sv_V} (h : F_X11_kern N l1 l2 V = some (r, Vr)) : sv_N g qX11_kern 2 0 [(0, .ref 0), (1, .int l1), (2, .int l2)] [] V P := by
  unfold F_X11_kern at h
  refine sx_aload_n (pc := 0) dX11_kern_0 sx_m0 ?_
  refine sv_getO (pc := 1) hG dX11_kern_1 f_11_16 lay_0 rfl cr_0_2 ?_
  refine sv_getZ (pc := 4) hG dX11_kern_4 f_11_67 lay_2 rfl ?_
  refine sx_if_ne (pc := 7) (tgt := 13) dX11_kern_7 (by decide) (fun c1 => ?_) (fun c1 => ?_)
  · have h := sx_neg c1 h
    refine sx_aload_n (pc := 13) dX11_kern_13 sx_m0 ?_
    refine sv_getO (pc := 14) hG dX11_kern_14 f_11_16 lay_0 rfl cr_0_2 ?_
    refine sx_iload_n (pc := 17) dX11_kern_17 sx_m1 ?_
    obtain ⟨⟨x4, V2⟩, g3, h⟩ := sx_bnd h
    refine sv_cV (pc := 18) (y := qX2_hasGlyph) (o := (some (.int x4))) (as := [.int l1]) (V1 := V2) hG dX11_kern_18 l_X11_116 y0X2_hasGlyph yvX2_hasGlyph rfl (Nat.le_of_ble_eq_true rfl) lay_2 kr_2 (by decide) (Nat.le_of_ble_eq_true rfl) rfl rfl rfl (t_X2_hasGlyph hG ⟨rfl, rfl⟩ g3) ?_
    refine sx_if_eq (pc := 21) (tgt := 35) dX11_kern_21 (by decide) (fun c5 => ?_) (fun c5 => ?_)
    · have h := sx_pos c5 h
      refine sx_iconst (pc := 35) (v := (-1)) dX11_kern_35 (by decide) ?_
      exact sv_iret (pc := 36) dX11_kern_36 rfl h hP
    · have h := sx_neg c5 h
      refine sx_aload_n (pc := 24) dX11_kern_24 sx_m0 ?_
      refine sv_getO (pc := 25) hG dX11_kern_25 f_11_16 lay_0 rfl cr_0_2 ?_
      refine sx_iload_n (pc := 28) dX11_kern_28 sx_m2 ?_
      obtain ⟨⟨x8, V6⟩, g7, h⟩ := sx_bnd h
      refine sv_cV (pc := 29) (y := qX2_hasGlyph) (o := (some (.int x8))) (as := [.int l2]) (V1 := V6) hG dX11_kern_29 l_X11_116 y0X2_hasGlyph yvX2_hasGlyph rfl (Nat.le_of_ble_eq_true rfl) lay_2 kr_2 (by decide) (Nat.le_of_ble_eq_true rfl) rfl rfl rfl (t_X2_hasGlyph hG ⟨rfl, rfl⟩ g7) ?_
      refine sx_if_ne (pc := 32) (tgt := 37) dX11_kern_32 (by decide) (fun c9 => ?_) (fun c9 => ?_)
      · have h := sx_neg c9 h
        refine sx_aload_n (pc := 37) dX11_kern_37 sx_m0 ?_
        refine sv_getO (pc := 38) hG dX11_kern_38 f_11_16 lay_0 rfl cr_0_2 ?_
        refine sx_iload_n (pc := 41) dX11_kern_41 sx_m1 ?_
        refine sx_iload_n (pc := 42) dX11_kern_42 sx_m2 ?_
        obtain ⟨⟨x12, V10⟩, g11, h⟩ := sx_bnd h
        refine sv_cV (pc := 43) (y := qX2_kernOf) (o := (some (.int x12))) (as := [.int l1, .int l2]) (V1 := V10) hG dX11_kern_43 l_X11_130 y0X2_kernOf yvX2_kernOf rfl (Nat.le_of_ble_eq_true rfl) lay_2 kr_2 (by decide) (Nat.le_of_ble_eq_true rfl) rfl rfl rfl (t_X2_kernOf hG ⟨rfl, rfl⟩ g11) ?_
        exact sv_iret (pc := 46) dX11_kern_46 rfl h hP
      · have h := sx_pos c9 h
        refine sx_iconst (pc := 35) (v := (-1)) dX11_kern_35 (by decide) ?_
        exact sv_iret (pc := 36) dX11_kern_36 rfl h hP
  · have h := sx_pos c1 h
    refine sx_bipush (pc := 10) (v := (-3)) dX11_kern_10 (by decide) ?_
    exact sv_iret (pc := 12) dX11_kern_12 rfl h hP
def ncX11_point : Nat := 62178679561572032279345013179466406850617948742017187574011981492216546716517005254029954773307492352230173284456054879071344838104653704004690085998729631638410833287663104689180016073949809935664055419529263374381571159082
theorem kcX11_point : CK cX11_point ncX11_point 93 := ⟨by decide +kernel, by decide +kernel⟩
theorem dX11_point_0 : decode cX11_point 0 = .ok (.aload_n 0, 1) := dl_o42 kcX11_point (by decide +kernel)
theorem dX11_point_1 : decode cX11_point 1 = .ok (.getfield 37, 3) := dl_o180 kcX11_point (by decide +kernel)
theorem dX11_point_4 : decode cX11_point 4 = .ok (.getfield 143, 3) := dl_o180 kcX11_point (by decide +kernel)
theorem dX11_point_7 : decode cX11_point 7 = .ok (.iconst 0, 1) := dl_o3 kcX11_point (by decide +kernel)
theorem dX11_point_8 : decode cX11_point 8 = .ok (.aaload, 1) := dl_o50 kcX11_point (by decide +kernel)
theorem dX11_point_9 : decode cX11_point 9 = .ok (.astore_n 3, 1) := dl_o78 kcX11_point (by decide +kernel)
theorem dX11_point_10 : decode cX11_point 10 = .ok (.aload_n 0, 1) := dl_o42 kcX11_point (by decide +kernel)
theorem dX11_point_11 : decode cX11_point 11 = .ok (.getfield 37, 3) := dl_o180 kcX11_point (by decide +kernel)
theorem dX11_point_14 : decode cX11_point 14 = .ok (.getfield 147, 3) := dl_o180 kcX11_point (by decide +kernel)
theorem dX11_point_17 : decode cX11_point 17 = .ok (.ifCond .eq 15, 3) := dl_o153 kcX11_point 15 (by decide +kernel) (by decide +kernel)
theorem dX11_point_20 : decode cX11_point 20 = .ok (.iload_n 1, 1) := dl_o27 kcX11_point (by decide +kernel)
theorem dX11_point_21 : decode cX11_point 21 = .ok (.ifCond .lt 11, 3) := dl_o155 kcX11_point 11 (by decide +kernel) (by decide +kernel)
theorem dX11_point_24 : decode cX11_point 24 = .ok (.iload_n 1, 1) := dl_o27 kcX11_point (by decide +kernel)
theorem dX11_point_25 : decode cX11_point 25 = .ok (.aload_n 3, 1) := dl_o45 kcX11_point (by decide +kernel)
theorem dX11_point_26 : decode cX11_point 26 = .ok (.getfield 150, 3) := dl_o180 kcX11_point (by decide +kernel)
theorem dX11_point_29 : decode cX11_point 29 = .ok (.if_icmp .lt 5, 3) := dl_o161 kcX11_point 5 (by decide +kernel) (by decide +kernel)
theorem dX11_point_32 : decode cX11_point 32 = .ok (.iconst 0, 1) := dl_o3 kcX11_point (by decide +kernel)
theorem dX11_point_33 : decode cX11_point 33 = .ok (.ireturn, 1) := dl_o172 kcX11_point (by decide +kernel)
theorem dX11_point_34 : decode cX11_point 34 = .ok (.iload_n 2, 1) := dl_o28 kcX11_point (by decide +kernel)
theorem dX11_point_35 : decode cX11_point 35 = .ok (.tableswitch 56 0 3 #[29, 36, 43, 50], 29) := by decide +kernel
theorem dX11_point_64 : decode cX11_point 64 = .ok (.aload_n 3, 1) := dl_o45 kcX11_point (by decide +kernel)
theorem dX11_point_65 : decode cX11_point 65 = .ok (.getfield 155, 3) := dl_o180 kcX11_point (by decide +kernel)
theorem dX11_point_68 : decode cX11_point 68 = .ok (.iload_n 1, 1) := dl_o27 kcX11_point (by decide +kernel)
theorem dX11_point_69 : decode cX11_point 69 = .ok (.iaload, 1) := dl_o46 kcX11_point (by decide +kernel)
theorem dX11_point_70 : decode cX11_point 70 = .ok (.ireturn, 1) := dl_o172 kcX11_point (by decide +kernel)
theorem dX11_point_71 : decode cX11_point 71 = .ok (.aload_n 3, 1) := dl_o45 kcX11_point (by decide +kernel)
theorem dX11_point_72 : decode cX11_point 72 = .ok (.getfield 158, 3) := dl_o180 kcX11_point (by decide +kernel)
theorem dX11_point_75 : decode cX11_point 75 = .ok (.iload_n 1, 1) := dl_o27 kcX11_point (by decide +kernel)
theorem dX11_point_76 : decode cX11_point 76 = .ok (.iaload, 1) := dl_o46 kcX11_point (by decide +kernel)
theorem dX11_point_77 : decode cX11_point 77 = .ok (.ireturn, 1) := dl_o172 kcX11_point (by decide +kernel)
theorem dX11_point_78 : decode cX11_point 78 = .ok (.aload_n 3, 1) := dl_o45 kcX11_point (by decide +kernel)
theorem dX11_point_79 : decode cX11_point 79 = .ok (.getfield 161, 3) := dl_o180 kcX11_point (by decide +kernel)
theorem dX11_point_82 : decode cX11_point 82 = .ok (.iload_n 1, 1) := dl_o27 kcX11_point (by decide +kernel)
theorem dX11_point_83 : decode cX11_point 83 = .ok (.iaload, 1) := dl_o46 kcX11_point (by decide +kernel)
theorem dX11_point_84 : decode cX11_point 84 = .ok (.ireturn, 1) := dl_o172 kcX11_point (by decide +kernel)
theorem dX11_point_85 : decode cX11_point 85 = .ok (.aload_n 3, 1) := dl_o45 kcX11_point (by decide +kernel)
theorem dX11_point_86 : decode cX11_point 86 = .ok (.iload_n 1, 1) := dl_o27 kcX11_point (by decide +kernel)
theorem dX11_point_87 : decode cX11_point 87 = .ok (.invokevirtual 164, 3) := dl_o182 kcX11_point (by decide +kernel)
theorem dX11_point_90 : decode cX11_point 90 = .ok (.ireturn, 1) := dl_o172 kcX11_point (by decide +kernel)
theorem dX11_point_91 : decode cX11_point 91 = .ok (.iconst 0, 1) := dl_o3 kcX11_point (by decide +kernel)
theorem dX11_point_92 : decode cX11_point 92 = .ok (.ireturn, 1) := dl_o172 kcX11_point (by decide +kernel)
def F_X11_point (N : Nat) (l1 : Int32) (l2 : Int32) (V : sv_V) : Option (Int32 × sv_V) := (cr 59 (0 : Int32).toNatClampNeg).bind (fun b1 => if (V.1 30 8) = 0 then (some ((0 : Int32), V)) else (if l1 < 0 then (some ((0 : Int32), V)) else (if lay b1 = .inl 8 then if l1 < (V.1 b1 9) then (if l2 = 0 then ((cr b1 0).bind (fun b8 => (sv_len 0 b8).bind (fun n10 => if sx_in l1 n10 = true then some (V.1 b8 l1.toNatClampNeg, V) else none))) else (if l2 = 1 then ((cr b1 1).bind (fun b14 => (sv_len 0 b14).bind (fun n16 => if sx_in l1 n16 = true then some (V.1 b14 l1.toNatClampNeg, V) else none))) else (if l2 = 2 then ((cr b1 5).bind (fun b20 => (sv_len 0 b20).bind (fun n22 => if sx_in l1 n22 = true then some (V.1 b20 l1.toNatClampNeg, V) else none))) else (if l2 = 3 then ((F_X8_contourOf N b1 l1 V).bind (fun (x28, V26) => some (x28, V26))) else (some ((0 : Int32), V)))))) else (some ((0 : Int32), V)) else none)))
set_option maxRecDepth 20000 in
theorem t_X11_point {g : sx_G} (hG : sx_Go g) {P : Option Value → sv_V → Prop} {r : Int32} {Vr : sv_V} (hP : P (some (.int r)) Vr) {N : Nat} {l1 : Int32} {l2 : Int32} {V : sv_V} (h : F_X11_point N l1 l2 V = some (r, Vr)) : sv_N g qX11_point 1 0 [(0, .ref 0), (1, .int l1), (2, .int l2)] [] V P := by
  unfold F_X11_point at h
  refine sx_aload_n (pc := 0) dX11_point_0 sx_m0 ?_
  refine sv_getO (pc := 1) hG dX11_point_1 f_11_37 lay_0 rfl cr_0_4 ?_
  refine sv_getA (pc := 4) hG dX11_point_4 f_11_143 lay_30 rfl cr_30_5 ?_
  refine sx_iconst (pc := 7) (v := 0) dX11_point_7 (by decide) ?_
  obtain ⟨b1, g2, h⟩ := sx_bnd h
  refine sv_aald (pc := 8) hG dX11_point_8 (by decide) lay_59 (by decide) g2 ?_
  refine sx_astore_n (pc := 9) (lo' := [(3, .ref b1), (0, .ref 0), (1, .int l1), (2, .int l2)]) dX11_point_9 (by decide) rfl ?_
  refine sx_aload_n (pc := 10) dX11_point_10 sx_m1 ?_
  refine sv_getO (pc := 11) hG dX11_point_11 f_11_37 lay_0 rfl cr_0_4 ?_
  refine sv_getZ (pc := 14) hG dX11_point_14 f_11_147 lay_30 rfl ?_
  refine sx_if_eq (pc := 17) (tgt := 32) dX11_point_17 (by decide) (fun c3 => ?_) (fun c3 => ?_)
  · have h := sx_pos c3 h
    refine sx_iconst (pc := 32) (v := 0) dX11_point_32 (by decide) ?_
    exact sv_iret (pc := 33) dX11_point_33 rfl h hP
  · have h := sx_neg c3 h
    refine sx_iload_n (pc := 20) dX11_point_20 sx_m2 ?_
    refine sx_if_lt (pc := 21) (tgt := 32) dX11_point_21 (by decide) (fun c4 => ?_) (fun c4 => ?_)
    · have h := sx_pos c4 h
      refine sx_iconst (pc := 32) (v := 0) dX11_point_32 (by decide) ?_
      exact sv_iret (pc := 33) dX11_point_33 rfl h hP
    · have h := sx_neg c4 h
      refine sx_iload_n (pc := 24) dX11_point_24 sx_m2 ?_
      refine sx_aload_n (pc := 25) dX11_point_25 sx_m0 ?_
      obtain ⟨g5, h⟩ := sx_grd h
      refine sv_getI (pc := 26) hG dX11_point_26 f_11_150 g5 rfl ?_
      refine sx_icmp_lt (pc := 29) (tgt := 34) dX11_point_29 (by decide) (fun c6 => ?_) (fun c6 => ?_)
      · have h := sx_pos c6 h
        refine sx_iload_n (pc := 34) dX11_point_34 sx_m3 ?_
        by_cases c7 : l2 = 0
        · have h := sx_pos c7 h
          refine sx_tabI (pc := 35) (off := 29) (tgt := 64) dX11_point_35 (by rw [c7]; decide) (by rw [c7]; decide) (by rw [c7]; rfl) (by decide) ?_
          refine sx_aload_n (pc := 64) dX11_point_64 sx_m0 ?_
          obtain ⟨b8, g9, h⟩ := sx_bnd h
          refine sv_getA (pc := 65) hG dX11_point_65 f_11_155 g5 rfl g9 ?_
          refine sx_iload_n (pc := 68) dX11_point_68 sx_m2 ?_
          obtain ⟨n10, g11, h⟩ := sx_bnd h
          obtain ⟨g12, h⟩ := sx_grd h
          refine sv_iald (pc := 69) hG dX11_point_69 (sv_len_e g11) g12 ?_
          exact sv_iret (pc := 70) dX11_point_70 rfl h hP
        have h := sx_neg c7 h
        by_cases c13 : l2 = 1
        · have h := sx_pos c13 h
          refine sx_tabI (pc := 35) (off := 36) (tgt := 71) dX11_point_35 (by rw [c13]; decide) (by rw [c13]; decide) (by rw [c13]; rfl) (by decide) ?_
          refine sx_aload_n (pc := 71) dX11_point_71 sx_m0 ?_
          obtain ⟨b14, g15, h⟩ := sx_bnd h
          refine sv_getA (pc := 72) hG dX11_point_72 f_11_158 g5 rfl g15 ?_
          refine sx_iload_n (pc := 75) dX11_point_75 sx_m2 ?_
          obtain ⟨n16, g17, h⟩ := sx_bnd h
          obtain ⟨g18, h⟩ := sx_grd h
          refine sv_iald (pc := 76) hG dX11_point_76 (sv_len_e g17) g18 ?_
          exact sv_iret (pc := 77) dX11_point_77 rfl h hP
        have h := sx_neg c13 h
        by_cases c19 : l2 = 2
        · have h := sx_pos c19 h
          refine sx_tabI (pc := 35) (off := 43) (tgt := 78) dX11_point_35 (by rw [c19]; decide) (by rw [c19]; decide) (by rw [c19]; rfl) (by decide) ?_
          refine sx_aload_n (pc := 78) dX11_point_78 sx_m0 ?_
          obtain ⟨b20, g21, h⟩ := sx_bnd h
          refine sv_getA (pc := 79) hG dX11_point_79 f_11_161 g5 rfl g21 ?_
          refine sx_iload_n (pc := 82) dX11_point_82 sx_m2 ?_
          obtain ⟨n22, g23, h⟩ := sx_bnd h
          obtain ⟨g24, h⟩ := sx_grd h
          refine sv_iald (pc := 83) hG dX11_point_83 (sv_len_e g23) g24 ?_
          exact sv_iret (pc := 84) dX11_point_84 rfl h hP
        have h := sx_neg c19 h
        by_cases c25 : l2 = 3
        · have h := sx_pos c25 h
          refine sx_tabI (pc := 35) (off := 50) (tgt := 85) dX11_point_35 (by rw [c25]; decide) (by rw [c25]; decide) (by rw [c25]; rfl) (by decide) ?_
          refine sx_aload_n (pc := 85) dX11_point_85 sx_m0 ?_
          refine sx_iload_n (pc := 86) dX11_point_86 sx_m2 ?_
          obtain ⟨⟨x28, V26⟩, g27, h⟩ := sx_bnd h
          refine sv_cV (pc := 87) (y := qX8_contourOf) (o := (some (.int x28))) (as := [.int l1]) (V1 := V26) hG dX11_point_87 l_X11_164 y0X8_contourOf yvX8_contourOf rfl (Nat.le_of_ble_eq_true rfl) g5 kr_8 (by decide) (Nat.le_of_ble_eq_true rfl) rfl rfl rfl (t_X8_contourOf hG ⟨rfl, rfl⟩ g27) ?_
          exact sv_iret (pc := 90) dX11_point_90 rfl h hP
        have h := sx_neg c25 h
        refine sx_tabO (pc := 35) (tgt := 91) dX11_point_35 (by have ec7 := lv_neT (a := 0) c7 rfl; have ec13 := lv_neT (a := 1) c13 rfl; have ec19 := lv_neT (a := 2) c19 rfl; have ec25 := lv_neT (a := 3) c25 rfl; omega) (by decide) ?_
        refine sx_iconst (pc := 91) (v := 0) dX11_point_91 (by decide) ?_
        exact sv_iret (pc := 92) dX11_point_92 rfl h hP
      · have h := sx_neg c6 h
        refine sx_iconst (pc := 32) (v := 0) dX11_point_32 (by decide) ?_
        exact sv_iret (pc := 33) dX11_point_33 rfl h hP
def ncX11_told : Nat := 1339671789865632387127348937505702955654371502328997808516530443334829511636655684405431945801325219171417229703820450727480697363816450660145032157612406791545283629123421025371469900323392652091499865026226283623911497307385158301546747292731239042223022620888576379518283551924986655122904758605827076512694558696094067619891410437951174795593562986832725736442468751744526905348784439525489299275447997294651938253186946651637717972010
theorem kcX11_told : CK cX11_told ncX11_told 182 := ⟨by decide +kernel, by decide +kernel⟩
theorem dX11_told_0 : decode cX11_told 0 = .ok (.aload_n 0, 1) := dl_o42 kcX11_told (by decide +kernel)
theorem dX11_told_1 : decode cX11_told 1 = .ok (.getfield 37, 3) := dl_o180 kcX11_told (by decide +kernel)
theorem dX11_told_4 : decode cX11_told 4 = .ok (.getfield 167, 3) := dl_o180 kcX11_told (by decide +kernel)
theorem dX11_told_7 : decode cX11_told 7 = .ok (.astore_n 2, 1) := dl_o77 kcX11_told (by decide +kernel)
theorem dX11_told_8 : decode cX11_told 8 = .ok (.iload_n 1, 1) := dl_o27 kcX11_told (by decide +kernel)
theorem dX11_told_9 : decode cX11_told 9 = .ok (.tableswitch 171 0 9 #[55, 60, 68, 73, 89, 111, 138, 146, 156, 166], 55) := by decide +kernel
theorem dX11_told_64 : decode cX11_told 64 = .ok (.aload_n 2, 1) := dl_o44 kcX11_told (by decide +kernel)
theorem dX11_told_65 : decode cX11_told 65 = .ok (.getfield 171, 3) := dl_o180 kcX11_told (by decide +kernel)
theorem dX11_told_68 : decode cX11_told 68 = .ok (.ireturn, 1) := dl_o172 kcX11_told (by decide +kernel)
theorem dX11_told_69 : decode cX11_told 69 = .ok (.aload_n 0, 1) := dl_o42 kcX11_told (by decide +kernel)
theorem dX11_told_70 : decode cX11_told 70 = .ok (.getfield 37, 3) := dl_o180 kcX11_told (by decide +kernel)
theorem dX11_told_73 : decode cX11_told 73 = .ok (.getfield 176, 3) := dl_o180 kcX11_told (by decide +kernel)
theorem dX11_told_76 : decode cX11_told 76 = .ok (.ireturn, 1) := dl_o172 kcX11_told (by decide +kernel)
theorem dX11_told_77 : decode cX11_told 77 = .ok (.aload_n 2, 1) := dl_o44 kcX11_told (by decide +kernel)
theorem dX11_told_78 : decode cX11_told 78 = .ok (.getfield 179, 3) := dl_o180 kcX11_told (by decide +kernel)
theorem dX11_told_81 : decode cX11_told 81 = .ok (.ireturn, 1) := dl_o172 kcX11_told (by decide +kernel)
theorem dX11_told_82 : decode cX11_told 82 = .ok (.aload_n 2, 1) := dl_o44 kcX11_told (by decide +kernel)
theorem dX11_told_83 : decode cX11_told 83 = .ok (.getfield 179, 3) := dl_o180 kcX11_told (by decide +kernel)
theorem dX11_told_86 : decode cX11_told 86 = .ok (.ifCond .ne 7, 3) := dl_o154 kcX11_told 7 (by decide +kernel) (by decide +kernel)
theorem dX11_told_89 : decode cX11_told 89 = .ok (.iconst (-1), 1) := dl_o2 kcX11_told (by decide +kernel)
theorem dX11_told_90 : decode cX11_told 90 = .ok (.goto 7, 3) := dl_o167 kcX11_told 7 (by decide +kernel) (by decide +kernel)
theorem dX11_told_93 : decode cX11_told 93 = .ok (.aload_n 2, 1) := dl_o44 kcX11_told (by decide +kernel)
theorem dX11_told_94 : decode cX11_told 94 = .ok (.getfield 182, 3) := dl_o180 kcX11_told (by decide +kernel)
theorem dX11_told_97 : decode cX11_told 97 = .ok (.ireturn, 1) := dl_o172 kcX11_told (by decide +kernel)
theorem dX11_told_98 : decode cX11_told 98 = .ok (.aload_n 0, 1) := dl_o42 kcX11_told (by decide +kernel)
theorem dX11_told_99 : decode cX11_told 99 = .ok (.getfield 37, 3) := dl_o180 kcX11_told (by decide +kernel)
theorem dX11_told_102 : decode cX11_told 102 = .ok (.getfield 147, 3) := dl_o180 kcX11_told (by decide +kernel)
theorem dX11_told_105 : decode cX11_told 105 = .ok (.ifCond .eq 13, 3) := dl_o153 kcX11_told 13 (by decide +kernel) (by decide +kernel)
theorem dX11_told_108 : decode cX11_told 108 = .ok (.aload_n 0, 1) := dl_o42 kcX11_told (by decide +kernel)
theorem dX11_told_109 : decode cX11_told 109 = .ok (.getfield 37, 3) := dl_o180 kcX11_told (by decide +kernel)
theorem dX11_told_112 : decode cX11_told 112 = .ok (.getfield 185, 3) := dl_o180 kcX11_told (by decide +kernel)
theorem dX11_told_115 : decode cX11_told 115 = .ok (.goto 4, 3) := dl_o167 kcX11_told 4 (by decide +kernel) (by decide +kernel)
theorem dX11_told_118 : decode cX11_told 118 = .ok (.iconst 0, 1) := dl_o3 kcX11_told (by decide +kernel)
theorem dX11_told_119 : decode cX11_told 119 = .ok (.ireturn, 1) := dl_o172 kcX11_told (by decide +kernel)
theorem dX11_told_120 : decode cX11_told 120 = .ok (.aload_n 0, 1) := dl_o42 kcX11_told (by decide +kernel)
theorem dX11_told_121 : decode cX11_told 121 = .ok (.getfield 37, 3) := dl_o180 kcX11_told (by decide +kernel)
theorem dX11_told_124 : decode cX11_told 124 = .ok (.getfield 147, 3) := dl_o180 kcX11_told (by decide +kernel)
theorem dX11_told_127 : decode cX11_told 127 = .ok (.ifCond .eq 18, 3) := dl_o153 kcX11_told 18 (by decide +kernel) (by decide +kernel)
theorem dX11_told_130 : decode cX11_told 130 = .ok (.aload_n 0, 1) := dl_o42 kcX11_told (by decide +kernel)
theorem dX11_told_131 : decode cX11_told 131 = .ok (.getfield 37, 3) := dl_o180 kcX11_told (by decide +kernel)
theorem dX11_told_134 : decode cX11_told 134 = .ok (.getfield 143, 3) := dl_o180 kcX11_told (by decide +kernel)
theorem dX11_told_137 : decode cX11_told 137 = .ok (.iconst 0, 1) := dl_o3 kcX11_told (by decide +kernel)
theorem dX11_told_138 : decode cX11_told 138 = .ok (.aaload, 1) := dl_o50 kcX11_told (by decide +kernel)
theorem dX11_told_139 : decode cX11_told 139 = .ok (.getfield 188, 3) := dl_o180 kcX11_told (by decide +kernel)
theorem dX11_told_142 : decode cX11_told 142 = .ok (.goto 4, 3) := dl_o167 kcX11_told 4 (by decide +kernel) (by decide +kernel)
theorem dX11_told_145 : decode cX11_told 145 = .ok (.iconst 0, 1) := dl_o3 kcX11_told (by decide +kernel)
theorem dX11_told_146 : decode cX11_told 146 = .ok (.ireturn, 1) := dl_o172 kcX11_told (by decide +kernel)
theorem dX11_told_147 : decode cX11_told 147 = .ok (.aload_n 0, 1) := dl_o42 kcX11_told (by decide +kernel)
theorem dX11_told_148 : decode cX11_told 148 = .ok (.getfield 37, 3) := dl_o180 kcX11_told (by decide +kernel)
theorem dX11_told_151 : decode cX11_told 151 = .ok (.getfield 137, 3) := dl_o180 kcX11_told (by decide +kernel)
theorem dX11_told_154 : decode cX11_told 154 = .ok (.ireturn, 1) := dl_o172 kcX11_told (by decide +kernel)
theorem dX11_told_155 : decode cX11_told 155 = .ok (.aload_n 0, 1) := dl_o42 kcX11_told (by decide +kernel)
theorem dX11_told_156 : decode cX11_told 156 = .ok (.getfield 37, 3) := dl_o180 kcX11_told (by decide +kernel)
theorem dX11_told_159 : decode cX11_told 159 = .ok (.bipush 7, 2) := dl_o16 kcX11_told 7 (by decide +kernel) (by decide +kernel)
theorem dX11_told_161 : decode cX11_told 161 = .ok (.invokevirtual 191, 3) := dl_o182 kcX11_told (by decide +kernel)
theorem dX11_told_164 : decode cX11_told 164 = .ok (.ireturn, 1) := dl_o172 kcX11_told (by decide +kernel)
theorem dX11_told_165 : decode cX11_told 165 = .ok (.aload_n 0, 1) := dl_o42 kcX11_told (by decide +kernel)
theorem dX11_told_166 : decode cX11_told 166 = .ok (.getfield 37, 3) := dl_o180 kcX11_told (by decide +kernel)
theorem dX11_told_169 : decode cX11_told 169 = .ok (.bipush 8, 2) := dl_o16 kcX11_told 8 (by decide +kernel) (by decide +kernel)
theorem dX11_told_171 : decode cX11_told 171 = .ok (.invokevirtual 191, 3) := dl_o182 kcX11_told (by decide +kernel)
theorem dX11_told_174 : decode cX11_told 174 = .ok (.ireturn, 1) := dl_o172 kcX11_told (by decide +kernel)
theorem dX11_told_175 : decode cX11_told 175 = .ok (.aload_n 2, 1) := dl_o44 kcX11_told (by decide +kernel)
theorem dX11_told_176 : decode cX11_told 176 = .ok (.getfield 194, 3) := dl_o180 kcX11_told (by decide +kernel)
theorem dX11_told_179 : decode cX11_told 179 = .ok (.ireturn, 1) := dl_o172 kcX11_told (by decide +kernel)
theorem dX11_told_180 : decode cX11_told 180 = .ok (.iconst 0, 1) := dl_o3 kcX11_told (by decide +kernel)
theorem dX11_told_181 : decode cX11_told 181 = .ok (.ireturn, 1) := dl_o172 kcX11_told (by decide +kernel)
def F_X11_told (l1 : Int32) (V : sv_V) : Option (Int32 × sv_V) := if l1 = 0 then (some (V.1 69 13, V)) else (if l1 = 1 then (some (V.1 30 11, V)) else (if l1 = 2 then (some (V.1 69 14, V)) else (if l1 = 3 then (if (V.1 69 14) = 0 then (some ((-1 : Int32), V)) else (some (V.1 69 15, V))) else (if l1 = 4 then (if (V.1 30 8) = 0 then (some ((0 : Int32), V)) else (some (V.1 30 10, V))) else (if l1 = 5 then (if (V.1 30 8) = 0 then (some ((0 : Int32), V)) else ((cr 59 (0 : Int32).toNatClampNeg).bind (fun b10 => if lay b10 = .inl 8 then some (V.1 b10 10, V) else none))) else (if l1 = 6 then (some (V.1 30 7, V)) else (if l1 = 7 then ((F_X6_keptOf (7 : Int32) V).bind (fun (x17, V15) => some (x17, V15))) else (if l1 = 8 then ((F_X6_keptOf (8 : Int32) V).bind (fun (x21, V19) => some (x21, V19))) else (if l1 = 9 then (some (V.1 69 16, V)) else (some ((0 : Int32), V)))))))))))
set_option maxRecDepth 20000 in
theorem t_X11_told {g : sx_G} (hG : sx_Go g) {P : Option Value → sv_V → Prop} {r : Int32} {Vr : sv_V} (hP : P (some (.int r)) Vr) {l1 : Int32} {V : sv_V} (h : F_X11_told l1 V = some (r, Vr)) : sv_N g qX11_told 1 0 [(0, .ref 0), (1, .int l1)] [] V P := by
  unfold F_X11_told at h
  refine sx_aload_n (pc := 0) dX11_told_0 sx_m0 ?_
  refine sv_getO (pc := 1) hG dX11_told_1 f_11_37 lay_0 rfl cr_0_4 ?_
  refine sv_getO (pc := 4) hG dX11_told_4 f_11_167 lay_30 rfl cr_30_2 ?_
  refine sx_astore_n (pc := 7) (lo' := [(2, .ref 69), (0, .ref 0), (1, .int l1)]) dX11_told_7 (by decide) rfl ?_
  refine sx_iload_n (pc := 8) dX11_told_8 sx_m2 ?_
  by_cases c1 : l1 = 0
  · have h := sx_pos c1 h
    refine sx_tabI (pc := 9) (off := 55) (tgt := 64) dX11_told_9 (by rw [c1]; decide) (by rw [c1]; decide) (by rw [c1]; rfl) (by decide) ?_
    refine sx_aload_n (pc := 64) dX11_told_64 sx_m0 ?_
    refine sv_getI (pc := 65) hG dX11_told_65 f_11_171 lay_69 rfl ?_
    exact sv_iret (pc := 68) dX11_told_68 rfl h hP
  have h := sx_neg c1 h
  by_cases c2 : l1 = 1
  · have h := sx_pos c2 h
    refine sx_tabI (pc := 9) (off := 60) (tgt := 69) dX11_told_9 (by rw [c2]; decide) (by rw [c2]; decide) (by rw [c2]; rfl) (by decide) ?_
    refine sx_aload_n (pc := 69) dX11_told_69 sx_m1 ?_
    refine sv_getO (pc := 70) hG dX11_told_70 f_11_37 lay_0 rfl cr_0_4 ?_
    refine sv_getI (pc := 73) hG dX11_told_73 f_11_176 lay_30 rfl ?_
    exact sv_iret (pc := 76) dX11_told_76 rfl h hP
  have h := sx_neg c2 h
  by_cases c3 : l1 = 2
  · have h := sx_pos c3 h
    refine sx_tabI (pc := 9) (off := 68) (tgt := 77) dX11_told_9 (by rw [c3]; decide) (by rw [c3]; decide) (by rw [c3]; rfl) (by decide) ?_
    refine sx_aload_n (pc := 77) dX11_told_77 sx_m0 ?_
    refine sv_getI (pc := 78) hG dX11_told_78 f_11_179 lay_69 rfl ?_
    exact sv_iret (pc := 81) dX11_told_81 rfl h hP
  have h := sx_neg c3 h
  by_cases c4 : l1 = 3
  · have h := sx_pos c4 h
    refine sx_tabI (pc := 9) (off := 73) (tgt := 82) dX11_told_9 (by rw [c4]; decide) (by rw [c4]; decide) (by rw [c4]; rfl) (by decide) ?_
    refine sx_aload_n (pc := 82) dX11_told_82 sx_m0 ?_
    refine sv_getI (pc := 83) hG dX11_told_83 f_11_179 lay_69 rfl ?_
    refine sx_if_ne (pc := 86) (tgt := 93) dX11_told_86 (by decide) (fun c5 => ?_) (fun c5 => ?_)
    · have h := sx_neg c5 h
      refine sx_aload_n (pc := 93) dX11_told_93 sx_m0 ?_
      refine sv_getI (pc := 94) hG dX11_told_94 f_11_182 lay_69 rfl ?_
      exact sv_iret (pc := 97) dX11_told_97 rfl h hP
    · have h := sx_pos c5 h
      refine sx_iconst (pc := 89) (v := (-1)) dX11_told_89 (by decide) ?_
      refine sx_goto (pc := 90) (tgt := 97) dX11_told_90 (by decide) ?_
      exact sv_iret (pc := 97) dX11_told_97 rfl h hP
  have h := sx_neg c4 h
  by_cases c6 : l1 = 4
  · have h := sx_pos c6 h
    refine sx_tabI (pc := 9) (off := 89) (tgt := 98) dX11_told_9 (by rw [c6]; decide) (by rw [c6]; decide) (by rw [c6]; rfl) (by decide) ?_
    refine sx_aload_n (pc := 98) dX11_told_98 sx_m1 ?_
    refine sv_getO (pc := 99) hG dX11_told_99 f_11_37 lay_0 rfl cr_0_4 ?_
    refine sv_getZ (pc := 102) hG dX11_told_102 f_11_147 lay_30 rfl ?_
    refine sx_if_eq (pc := 105) (tgt := 118) dX11_told_105 (by decide) (fun c7 => ?_) (fun c7 => ?_)
    · have h := sx_pos c7 h
      refine sx_iconst (pc := 118) (v := 0) dX11_told_118 (by decide) ?_
      exact sv_iret (pc := 119) dX11_told_119 rfl h hP
    · have h := sx_neg c7 h
      refine sx_aload_n (pc := 108) dX11_told_108 sx_m1 ?_
      refine sv_getO (pc := 109) hG dX11_told_109 f_11_37 lay_0 rfl cr_0_4 ?_
      refine sv_getI (pc := 112) hG dX11_told_112 f_11_185 lay_30 rfl ?_
      refine sx_goto (pc := 115) (tgt := 119) dX11_told_115 (by decide) ?_
      exact sv_iret (pc := 119) dX11_told_119 rfl h hP
  have h := sx_neg c6 h
  by_cases c8 : l1 = 5
  · have h := sx_pos c8 h
    refine sx_tabI (pc := 9) (off := 111) (tgt := 120) dX11_told_9 (by rw [c8]; decide) (by rw [c8]; decide) (by rw [c8]; rfl) (by decide) ?_
    refine sx_aload_n (pc := 120) dX11_told_120 sx_m1 ?_
    refine sv_getO (pc := 121) hG dX11_told_121 f_11_37 lay_0 rfl cr_0_4 ?_
    refine sv_getZ (pc := 124) hG dX11_told_124 f_11_147 lay_30 rfl ?_
    refine sx_if_eq (pc := 127) (tgt := 145) dX11_told_127 (by decide) (fun c9 => ?_) (fun c9 => ?_)
    · have h := sx_pos c9 h
      refine sx_iconst (pc := 145) (v := 0) dX11_told_145 (by decide) ?_
      exact sv_iret (pc := 146) dX11_told_146 rfl h hP
    · have h := sx_neg c9 h
      refine sx_aload_n (pc := 130) dX11_told_130 sx_m1 ?_
      refine sv_getO (pc := 131) hG dX11_told_131 f_11_37 lay_0 rfl cr_0_4 ?_
      refine sv_getA (pc := 134) hG dX11_told_134 f_11_143 lay_30 rfl cr_30_5 ?_
      refine sx_iconst (pc := 137) (v := 0) dX11_told_137 (by decide) ?_
      obtain ⟨b10, g11, h⟩ := sx_bnd h
      refine sv_aald (pc := 138) hG dX11_told_138 (by decide) lay_59 (by decide) g11 ?_
      obtain ⟨g12, h⟩ := sx_grd h
      refine sv_getI (pc := 139) hG dX11_told_139 f_11_188 g12 rfl ?_
      refine sx_goto (pc := 142) (tgt := 146) dX11_told_142 (by decide) ?_
      exact sv_iret (pc := 146) dX11_told_146 rfl h hP
  have h := sx_neg c8 h
  by_cases c13 : l1 = 6
  · have h := sx_pos c13 h
    refine sx_tabI (pc := 9) (off := 138) (tgt := 147) dX11_told_9 (by rw [c13]; decide) (by rw [c13]; decide) (by rw [c13]; rfl) (by decide) ?_
    refine sx_aload_n (pc := 147) dX11_told_147 sx_m1 ?_
    refine sv_getO (pc := 148) hG dX11_told_148 f_11_37 lay_0 rfl cr_0_4 ?_
    refine sv_getI (pc := 151) hG dX11_told_151 f_11_137 lay_30 rfl ?_
    exact sv_iret (pc := 154) dX11_told_154 rfl h hP
  have h := sx_neg c13 h
  by_cases c14 : l1 = 7
  · have h := sx_pos c14 h
    refine sx_tabI (pc := 9) (off := 146) (tgt := 155) dX11_told_9 (by rw [c14]; decide) (by rw [c14]; decide) (by rw [c14]; rfl) (by decide) ?_
    refine sx_aload_n (pc := 155) dX11_told_155 sx_m1 ?_
    refine sv_getO (pc := 156) hG dX11_told_156 f_11_37 lay_0 rfl cr_0_4 ?_
    refine sx_bipush (pc := 159) (v := 7) dX11_told_159 (by decide) ?_
    obtain ⟨⟨x17, V15⟩, g16, h⟩ := sx_bnd h
    refine sv_cV (pc := 161) (y := qX6_keptOf) (o := (some (.int x17))) (as := [.int (7 : Int32)]) (V1 := V15) hG dX11_told_161 l_X11_191 y0X6_keptOf yvX6_keptOf rfl (Nat.le_of_ble_eq_true rfl) lay_30 kr_6 (by decide) (Nat.le_of_ble_eq_true rfl) rfl rfl rfl (t_X6_keptOf hG ⟨rfl, rfl⟩ g16) ?_
    exact sv_iret (pc := 164) dX11_told_164 rfl h hP
  have h := sx_neg c14 h
  by_cases c18 : l1 = 8
  · have h := sx_pos c18 h
    refine sx_tabI (pc := 9) (off := 156) (tgt := 165) dX11_told_9 (by rw [c18]; decide) (by rw [c18]; decide) (by rw [c18]; rfl) (by decide) ?_
    refine sx_aload_n (pc := 165) dX11_told_165 sx_m1 ?_
    refine sv_getO (pc := 166) hG dX11_told_166 f_11_37 lay_0 rfl cr_0_4 ?_
    refine sx_bipush (pc := 169) (v := 8) dX11_told_169 (by decide) ?_
    obtain ⟨⟨x21, V19⟩, g20, h⟩ := sx_bnd h
    refine sv_cV (pc := 171) (y := qX6_keptOf) (o := (some (.int x21))) (as := [.int (8 : Int32)]) (V1 := V19) hG dX11_told_171 l_X11_191 y0X6_keptOf yvX6_keptOf rfl (Nat.le_of_ble_eq_true rfl) lay_30 kr_6 (by decide) (Nat.le_of_ble_eq_true rfl) rfl rfl rfl (t_X6_keptOf hG ⟨rfl, rfl⟩ g20) ?_
    exact sv_iret (pc := 174) dX11_told_174 rfl h hP
  have h := sx_neg c18 h
  by_cases c22 : l1 = 9
  · have h := sx_pos c22 h
    refine sx_tabI (pc := 9) (off := 166) (tgt := 175) dX11_told_9 (by rw [c22]; decide) (by rw [c22]; decide) (by rw [c22]; rfl) (by decide) ?_
    refine sx_aload_n (pc := 175) dX11_told_175 sx_m0 ?_
    refine sv_getI (pc := 176) hG dX11_told_176 f_11_194 lay_69 rfl ?_
    exact sv_iret (pc := 179) dX11_told_179 rfl h hP
  have h := sx_neg c22 h
  refine sx_tabO (pc := 9) (tgt := 180) dX11_told_9 (by have ec1 := lv_neT (a := 0) c1 rfl; have ec2 := lv_neT (a := 1) c2 rfl; have ec3 := lv_neT (a := 2) c3 rfl; have ec4 := lv_neT (a := 3) c4 rfl; have ec6 := lv_neT (a := 4) c6 rfl; have ec8 := lv_neT (a := 5) c8 rfl; have ec13 := lv_neT (a := 6) c13 rfl; have ec14 := lv_neT (a := 7) c14 rfl; have ec18 := lv_neT (a := 8) c18 rfl; have ec22 := lv_neT (a := 9) c22 rfl; omega) (by decide) ?_
  refine sx_iconst (pc := 180) (v := 0) dX11_told_180 (by decide) ?_
  exact sv_iret (pc := 181) dX11_told_181 rfl h hP
def ncX11_held : Nat := 49691185882279604931339622383727230400625490384261834689722190179657274615834014942728940695124571887204991910523144009749762874335939521762271394390237531275915094641285488326163252848064616031304072368402925515414693340133944813754726271005701311088515103698833624430051243509820490932878875552437386492244259011882873326725882963795994846936768309566890847357263459370
theorem kcX11_held : CK cX11_held ncX11_held 154 := ⟨by decide +kernel, by decide +kernel⟩
theorem dX11_held_0 : decode cX11_held 0 = .ok (.aload_n 0, 1) := dl_o42 kcX11_held (by decide +kernel)
theorem dX11_held_1 : decode cX11_held 1 = .ok (.getfield 37, 3) := dl_o180 kcX11_held (by decide +kernel)
theorem dX11_held_4 : decode cX11_held 4 = .ok (.getfield 197, 3) := dl_o180 kcX11_held (by decide +kernel)
theorem dX11_held_7 : decode cX11_held 7 = .ok (.astore_n 3, 1) := dl_o78 kcX11_held (by decide +kernel)
theorem dX11_held_8 : decode cX11_held 8 = .ok (.aload_n 0, 1) := dl_o42 kcX11_held (by decide +kernel)
theorem dX11_held_9 : decode cX11_held 9 = .ok (.getfield 37, 3) := dl_o180 kcX11_held (by decide +kernel)
theorem dX11_held_12 : decode cX11_held 12 = .ok (.getfield 137, 3) := dl_o180 kcX11_held (by decide +kernel)
theorem dX11_held_15 : decode cX11_held 15 = .ok (.ifCond .eq 7, 3) := dl_o153 kcX11_held 7 (by decide +kernel) (by decide +kernel)
theorem dX11_held_18 : decode cX11_held 18 = .ok (.iload_n 2, 1) := dl_o28 kcX11_held (by decide +kernel)
theorem dX11_held_19 : decode cX11_held 19 = .ok (.ifCond .ge 5, 3) := dl_o156 kcX11_held 5 (by decide +kernel) (by decide +kernel)
theorem dX11_held_22 : decode cX11_held 22 = .ok (.iconst 0, 1) := dl_o3 kcX11_held (by decide +kernel)
theorem dX11_held_23 : decode cX11_held 23 = .ok (.ireturn, 1) := dl_o172 kcX11_held (by decide +kernel)
theorem dX11_held_24 : decode cX11_held 24 = .ok (.iload_n 1, 1) := dl_o27 kcX11_held (by decide +kernel)
theorem dX11_held_25 : decode cX11_held 25 = .ok (.ifCond .ne 22, 3) := dl_o154 kcX11_held 22 (by decide +kernel) (by decide +kernel)
theorem dX11_held_28 : decode cX11_held 28 = .ok (.iload_n 2, 1) := dl_o28 kcX11_held (by decide +kernel)
theorem dX11_held_29 : decode cX11_held 29 = .ok (.aload_n 3, 1) := dl_o45 kcX11_held (by decide +kernel)
theorem dX11_held_30 : decode cX11_held 30 = .ok (.getfield 201, 3) := dl_o180 kcX11_held (by decide +kernel)
theorem dX11_held_33 : decode cX11_held 33 = .ok (.if_icmp .ge 12, 3) := dl_o162 kcX11_held 12 (by decide +kernel) (by decide +kernel)
theorem dX11_held_36 : decode cX11_held 36 = .ok (.aload_n 3, 1) := dl_o45 kcX11_held (by decide +kernel)
theorem dX11_held_37 : decode cX11_held 37 = .ok (.getfield 206, 3) := dl_o180 kcX11_held (by decide +kernel)
theorem dX11_held_40 : decode cX11_held 40 = .ok (.iload_n 2, 1) := dl_o28 kcX11_held (by decide +kernel)
theorem dX11_held_41 : decode cX11_held 41 = .ok (.iaload, 1) := dl_o46 kcX11_held (by decide +kernel)
theorem dX11_held_42 : decode cX11_held 42 = .ok (.goto 4, 3) := dl_o167 kcX11_held 4 (by decide +kernel) (by decide +kernel)
theorem dX11_held_45 : decode cX11_held 45 = .ok (.iconst 0, 1) := dl_o3 kcX11_held (by decide +kernel)
theorem dX11_held_46 : decode cX11_held 46 = .ok (.ireturn, 1) := dl_o172 kcX11_held (by decide +kernel)
theorem dX11_held_47 : decode cX11_held 47 = .ok (.iload_n 1, 1) := dl_o27 kcX11_held (by decide +kernel)
theorem dX11_held_48 : decode cX11_held 48 = .ok (.iconst 1, 1) := dl_o4 kcX11_held (by decide +kernel)
theorem dX11_held_49 : decode cX11_held 49 = .ok (.if_icmp .ne 22, 3) := dl_o160 kcX11_held 22 (by decide +kernel) (by decide +kernel)
theorem dX11_held_52 : decode cX11_held 52 = .ok (.iload_n 2, 1) := dl_o28 kcX11_held (by decide +kernel)
theorem dX11_held_53 : decode cX11_held 53 = .ok (.aload_n 3, 1) := dl_o45 kcX11_held (by decide +kernel)
theorem dX11_held_54 : decode cX11_held 54 = .ok (.getfield 209, 3) := dl_o180 kcX11_held (by decide +kernel)
theorem dX11_held_57 : decode cX11_held 57 = .ok (.if_icmp .ge 12, 3) := dl_o162 kcX11_held 12 (by decide +kernel) (by decide +kernel)
theorem dX11_held_60 : decode cX11_held 60 = .ok (.aload_n 3, 1) := dl_o45 kcX11_held (by decide +kernel)
theorem dX11_held_61 : decode cX11_held 61 = .ok (.getfield 212, 3) := dl_o180 kcX11_held (by decide +kernel)
theorem dX11_held_64 : decode cX11_held 64 = .ok (.iload_n 2, 1) := dl_o28 kcX11_held (by decide +kernel)
theorem dX11_held_65 : decode cX11_held 65 = .ok (.iaload, 1) := dl_o46 kcX11_held (by decide +kernel)
theorem dX11_held_66 : decode cX11_held 66 = .ok (.goto 4, 3) := dl_o167 kcX11_held 4 (by decide +kernel) (by decide +kernel)
theorem dX11_held_69 : decode cX11_held 69 = .ok (.iconst 0, 1) := dl_o3 kcX11_held (by decide +kernel)
theorem dX11_held_70 : decode cX11_held 70 = .ok (.ireturn, 1) := dl_o172 kcX11_held (by decide +kernel)
theorem dX11_held_71 : decode cX11_held 71 = .ok (.aload_n 3, 1) := dl_o45 kcX11_held (by decide +kernel)
theorem dX11_held_72 : decode cX11_held 72 = .ok (.getfield 215, 3) := dl_o180 kcX11_held (by decide +kernel)
theorem dX11_held_75 : decode cX11_held 75 = .ok (.astore 4, 2) := dl_o58 kcX11_held (by decide +kernel)
theorem dX11_held_77 : decode cX11_held 77 = .ok (.iload_n 2, 1) := dl_o28 kcX11_held (by decide +kernel)
theorem dX11_held_78 : decode cX11_held 78 = .ok (.aload 4, 2) := dl_o25 kcX11_held (by decide +kernel)
theorem dX11_held_80 : decode cX11_held 80 = .ok (.getfield 150, 3) := dl_o180 kcX11_held (by decide +kernel)
theorem dX11_held_83 : decode cX11_held 83 = .ok (.if_icmp .lt 5, 3) := dl_o161 kcX11_held 5 (by decide +kernel) (by decide +kernel)
theorem dX11_held_86 : decode cX11_held 86 = .ok (.iconst 0, 1) := dl_o3 kcX11_held (by decide +kernel)
theorem dX11_held_87 : decode cX11_held 87 = .ok (.ireturn, 1) := dl_o172 kcX11_held (by decide +kernel)
theorem dX11_held_88 : decode cX11_held 88 = .ok (.iload_n 1, 1) := dl_o27 kcX11_held (by decide +kernel)
theorem dX11_held_89 : decode cX11_held 89 = .ok (.tableswitch 63 2 5 #[31, 39, 47, 55], 31) := by decide +kernel
theorem dX11_held_120 : decode cX11_held 120 = .ok (.aload 4, 2) := dl_o25 kcX11_held (by decide +kernel)
theorem dX11_held_122 : decode cX11_held 122 = .ok (.getfield 155, 3) := dl_o180 kcX11_held (by decide +kernel)
theorem dX11_held_125 : decode cX11_held 125 = .ok (.iload_n 2, 1) := dl_o28 kcX11_held (by decide +kernel)
theorem dX11_held_126 : decode cX11_held 126 = .ok (.iaload, 1) := dl_o46 kcX11_held (by decide +kernel)
theorem dX11_held_127 : decode cX11_held 127 = .ok (.ireturn, 1) := dl_o172 kcX11_held (by decide +kernel)
theorem dX11_held_128 : decode cX11_held 128 = .ok (.aload 4, 2) := dl_o25 kcX11_held (by decide +kernel)
theorem dX11_held_130 : decode cX11_held 130 = .ok (.getfield 158, 3) := dl_o180 kcX11_held (by decide +kernel)
theorem dX11_held_133 : decode cX11_held 133 = .ok (.iload_n 2, 1) := dl_o28 kcX11_held (by decide +kernel)
theorem dX11_held_134 : decode cX11_held 134 = .ok (.iaload, 1) := dl_o46 kcX11_held (by decide +kernel)
theorem dX11_held_135 : decode cX11_held 135 = .ok (.ireturn, 1) := dl_o172 kcX11_held (by decide +kernel)
theorem dX11_held_136 : decode cX11_held 136 = .ok (.aload 4, 2) := dl_o25 kcX11_held (by decide +kernel)
theorem dX11_held_138 : decode cX11_held 138 = .ok (.getfield 219, 3) := dl_o180 kcX11_held (by decide +kernel)
theorem dX11_held_141 : decode cX11_held 141 = .ok (.iload_n 2, 1) := dl_o28 kcX11_held (by decide +kernel)
theorem dX11_held_142 : decode cX11_held 142 = .ok (.iaload, 1) := dl_o46 kcX11_held (by decide +kernel)
theorem dX11_held_143 : decode cX11_held 143 = .ok (.ireturn, 1) := dl_o172 kcX11_held (by decide +kernel)
theorem dX11_held_144 : decode cX11_held 144 = .ok (.aload 4, 2) := dl_o25 kcX11_held (by decide +kernel)
theorem dX11_held_146 : decode cX11_held 146 = .ok (.getfield 222, 3) := dl_o180 kcX11_held (by decide +kernel)
theorem dX11_held_149 : decode cX11_held 149 = .ok (.iload_n 2, 1) := dl_o28 kcX11_held (by decide +kernel)
theorem dX11_held_150 : decode cX11_held 150 = .ok (.iaload, 1) := dl_o46 kcX11_held (by decide +kernel)
theorem dX11_held_151 : decode cX11_held 151 = .ok (.ireturn, 1) := dl_o172 kcX11_held (by decide +kernel)
theorem dX11_held_152 : decode cX11_held 152 = .ok (.iconst 0, 1) := dl_o3 kcX11_held (by decide +kernel)
theorem dX11_held_153 : decode cX11_held 153 = .ok (.ireturn, 1) := dl_o172 kcX11_held (by decide +kernel)
def F_X11_held (l1 : Int32) (l2 : Int32) (V : sv_V) : Option (Int32 × sv_V) := if (V.1 30 7) = 0 then (some ((0 : Int32), V)) else (if 0 ≤ l2 then (if l1 = 0 then (if (V.1 31 1) ≤ l2 then (some ((0 : Int32), V)) else (if sx_in l2 256 = true then some (V.1 32 l2.toNatClampNeg, V) else none)) else (if l1 = (1 : Int32) then (if (V.1 31 3) ≤ l2 then (some ((0 : Int32), V)) else (if sx_in l2 64 = true then some (V.1 33 l2.toNatClampNeg, V) else none)) else (if l2 < (V.1 34 9) then (if l1 = 2 then (if sx_in l2 64 = true then some (V.1 38 l2.toNatClampNeg, V) else none) else (if l1 = 3 then (if sx_in l2 64 = true then some (V.1 39 l2.toNatClampNeg, V) else none) else (if l1 = 4 then (if sx_in l2 64 = true then some (V.1 40 l2.toNatClampNeg, V) else none) else (if l1 = 5 then (if sx_in l2 64 = true then some (V.1 41 l2.toNatClampNeg, V) else none) else (some ((0 : Int32), V)))))) else (some ((0 : Int32), V))))) else (some ((0 : Int32), V)))
set_option maxRecDepth 20000 in
theorem t_X11_held {g : sx_G} (hG : sx_Go g) {P : Option Value → sv_V → Prop} {r : Int32} {Vr : sv_V} (hP : P (some (.int r)) Vr) {l1 : Int32} {l2 : Int32} {V : sv_V} (h : F_X11_held l1 l2 V = some (r, Vr)) : sv_N g qX11_held 0 0 [(0, .ref 0), (1, .int l1), (2, .int l2)] [] V P := by
  unfold F_X11_held at h
  refine sx_aload_n (pc := 0) dX11_held_0 sx_m0 ?_
  refine sv_getO (pc := 1) hG dX11_held_1 f_11_37 lay_0 rfl cr_0_4 ?_
  refine sv_getO (pc := 4) hG dX11_held_4 f_11_197 lay_30 rfl cr_30_3 ?_
  refine sx_astore_n (pc := 7) (lo' := [(3, .ref 31), (0, .ref 0), (1, .int l1), (2, .int l2)]) dX11_held_7 (by decide) rfl ?_
  refine sx_aload_n (pc := 8) dX11_held_8 sx_m1 ?_
  refine sv_getO (pc := 9) hG dX11_held_9 f_11_37 lay_0 rfl cr_0_4 ?_
  refine sv_getI (pc := 12) hG dX11_held_12 f_11_137 lay_30 rfl ?_
  refine sx_if_eq (pc := 15) (tgt := 22) dX11_held_15 (by decide) (fun c1 => ?_) (fun c1 => ?_)
  · have h := sx_pos c1 h
    refine sx_iconst (pc := 22) (v := 0) dX11_held_22 (by decide) ?_
    exact sv_iret (pc := 23) dX11_held_23 rfl h hP
  · have h := sx_neg c1 h
    refine sx_iload_n (pc := 18) dX11_held_18 sx_m3 ?_
    refine sx_if_ge (pc := 19) (tgt := 24) dX11_held_19 (by decide) (fun c2 => ?_) (fun c2 => ?_)
    · have h := sx_pos c2 h
      refine sx_iload_n (pc := 24) dX11_held_24 sx_m2 ?_
      refine sx_if_ne (pc := 25) (tgt := 47) dX11_held_25 (by decide) (fun c3 => ?_) (fun c3 => ?_)
      · have h := sx_neg c3 h
        refine sx_iload_n (pc := 47) dX11_held_47 sx_m2 ?_
        refine sx_iconst (pc := 48) (v := 1) dX11_held_48 (by decide) ?_
        refine sx_icmp_ne (pc := 49) (tgt := 71) dX11_held_49 (by decide) (fun c4 => ?_) (fun c4 => ?_)
        · have h := sx_neg c4 h
          refine sx_aload_n (pc := 71) dX11_held_71 sx_m0 ?_
          refine sv_getO (pc := 72) hG dX11_held_72 f_11_215 lay_31 rfl cr_31_4 ?_
          refine sx_astore (pc := 75) (lo' := [(4, .ref 34), (3, .ref 31), (0, .ref 0), (1, .int l1), (2, .int l2)]) dX11_held_75 (by decide) rfl ?_
          refine sx_iload_n (pc := 77) dX11_held_77 sx_m4 ?_
          refine sx_aload (pc := 78) dX11_held_78 sx_m0 ?_
          refine sv_getI (pc := 80) hG dX11_held_80 f_11_150 lay_34 rfl ?_
          refine sx_icmp_lt (pc := 83) (tgt := 88) dX11_held_83 (by decide) (fun c5 => ?_) (fun c5 => ?_)
          · have h := sx_pos c5 h
            refine sx_iload_n (pc := 88) dX11_held_88 sx_m3 ?_
            by_cases c6 : l1 = 2
            · have h := sx_pos c6 h
              refine sx_tabI (pc := 89) (off := 31) (tgt := 120) dX11_held_89 (by rw [c6]; decide) (by rw [c6]; decide) (by rw [c6]; rfl) (by decide) ?_
              refine sx_aload (pc := 120) dX11_held_120 sx_m0 ?_
              refine sv_getA (pc := 122) hG dX11_held_122 f_11_155 lay_34 rfl cr_34_0 ?_
              refine sx_iload_n (pc := 125) dX11_held_125 sx_m4 ?_
              obtain ⟨g7, h⟩ := sx_grd h
              refine sv_iald (pc := 126) hG dX11_held_126 lay_38 g7 ?_
              exact sv_iret (pc := 127) dX11_held_127 rfl h hP
            have h := sx_neg c6 h
            by_cases c8 : l1 = 3
            · have h := sx_pos c8 h
              refine sx_tabI (pc := 89) (off := 39) (tgt := 128) dX11_held_89 (by rw [c8]; decide) (by rw [c8]; decide) (by rw [c8]; rfl) (by decide) ?_
              refine sx_aload (pc := 128) dX11_held_128 sx_m0 ?_
              refine sv_getA (pc := 130) hG dX11_held_130 f_11_158 lay_34 rfl cr_34_1 ?_
              refine sx_iload_n (pc := 133) dX11_held_133 sx_m4 ?_
              obtain ⟨g9, h⟩ := sx_grd h
              refine sv_iald (pc := 134) hG dX11_held_134 lay_39 g9 ?_
              exact sv_iret (pc := 135) dX11_held_135 rfl h hP
            have h := sx_neg c8 h
            by_cases c10 : l1 = 4
            · have h := sx_pos c10 h
              refine sx_tabI (pc := 89) (off := 47) (tgt := 136) dX11_held_89 (by rw [c10]; decide) (by rw [c10]; decide) (by rw [c10]; rfl) (by decide) ?_
              refine sx_aload (pc := 136) dX11_held_136 sx_m0 ?_
              refine sv_getA (pc := 138) hG dX11_held_138 f_11_219 lay_34 rfl cr_34_2 ?_
              refine sx_iload_n (pc := 141) dX11_held_141 sx_m4 ?_
              obtain ⟨g11, h⟩ := sx_grd h
              refine sv_iald (pc := 142) hG dX11_held_142 lay_40 g11 ?_
              exact sv_iret (pc := 143) dX11_held_143 rfl h hP
            have h := sx_neg c10 h
            by_cases c12 : l1 = 5
            · have h := sx_pos c12 h
              refine sx_tabI (pc := 89) (off := 55) (tgt := 144) dX11_held_89 (by rw [c12]; decide) (by rw [c12]; decide) (by rw [c12]; rfl) (by decide) ?_
              refine sx_aload (pc := 144) dX11_held_144 sx_m0 ?_
              refine sv_getA (pc := 146) hG dX11_held_146 f_11_222 lay_34 rfl cr_34_3 ?_
              refine sx_iload_n (pc := 149) dX11_held_149 sx_m4 ?_
              obtain ⟨g13, h⟩ := sx_grd h
              refine sv_iald (pc := 150) hG dX11_held_150 lay_41 g13 ?_
              exact sv_iret (pc := 151) dX11_held_151 rfl h hP
            have h := sx_neg c12 h
            refine sx_tabO (pc := 89) (tgt := 152) dX11_held_89 (by have ec6 := lv_neT (a := 2) c6 rfl; have ec8 := lv_neT (a := 3) c8 rfl; have ec10 := lv_neT (a := 4) c10 rfl; have ec12 := lv_neT (a := 5) c12 rfl; omega) (by decide) ?_
            refine sx_iconst (pc := 152) (v := 0) dX11_held_152 (by decide) ?_
            exact sv_iret (pc := 153) dX11_held_153 rfl h hP
          · have h := sx_neg c5 h
            refine sx_iconst (pc := 86) (v := 0) dX11_held_86 (by decide) ?_
            exact sv_iret (pc := 87) dX11_held_87 rfl h hP
        · have h := sx_pos c4 h
          refine sx_iload_n (pc := 52) dX11_held_52 sx_m3 ?_
          refine sx_aload_n (pc := 53) dX11_held_53 sx_m0 ?_
          refine sv_getI (pc := 54) hG dX11_held_54 f_11_209 lay_31 rfl ?_
          refine sx_icmp_ge (pc := 57) (tgt := 69) dX11_held_57 (by decide) (fun c14 => ?_) (fun c14 => ?_)
          · have h := sx_pos c14 h
            refine sx_iconst (pc := 69) (v := 0) dX11_held_69 (by decide) ?_
            exact sv_iret (pc := 70) dX11_held_70 rfl h hP
          · have h := sx_neg c14 h
            refine sx_aload_n (pc := 60) dX11_held_60 sx_m0 ?_
            refine sv_getA (pc := 61) hG dX11_held_61 f_11_212 lay_31 rfl cr_31_2 ?_
            refine sx_iload_n (pc := 64) dX11_held_64 sx_m3 ?_
            obtain ⟨g15, h⟩ := sx_grd h
            refine sv_iald (pc := 65) hG dX11_held_65 lay_33 g15 ?_
            refine sx_goto (pc := 66) (tgt := 70) dX11_held_66 (by decide) ?_
            exact sv_iret (pc := 70) dX11_held_70 rfl h hP
      · have h := sx_pos c3 h
        refine sx_iload_n (pc := 28) dX11_held_28 sx_m3 ?_
        refine sx_aload_n (pc := 29) dX11_held_29 sx_m0 ?_
        refine sv_getI (pc := 30) hG dX11_held_30 f_11_201 lay_31 rfl ?_
        refine sx_icmp_ge (pc := 33) (tgt := 45) dX11_held_33 (by decide) (fun c16 => ?_) (fun c16 => ?_)
        · have h := sx_pos c16 h
          refine sx_iconst (pc := 45) (v := 0) dX11_held_45 (by decide) ?_
          exact sv_iret (pc := 46) dX11_held_46 rfl h hP
        · have h := sx_neg c16 h
          refine sx_aload_n (pc := 36) dX11_held_36 sx_m0 ?_
          refine sv_getA (pc := 37) hG dX11_held_37 f_11_206 lay_31 rfl cr_31_0 ?_
          refine sx_iload_n (pc := 40) dX11_held_40 sx_m3 ?_
          obtain ⟨g17, h⟩ := sx_grd h
          refine sv_iald (pc := 41) hG dX11_held_41 lay_32 g17 ?_
          refine sx_goto (pc := 42) (tgt := 46) dX11_held_42 (by decide) ?_
          exact sv_iret (pc := 46) dX11_held_46 rfl h hP
    · have h := sx_neg c2 h
      refine sx_iconst (pc := 22) (v := 0) dX11_held_22 (by decide) ?_
      exact sv_iret (pc := 23) dX11_held_23 rfl h hP
def ncX11_pixel : Nat := 26504111196693885947757630412317020210927977277942244286354988224533996089333598925766036487511358243262945789254427
theorem kcX11_pixel : CK cX11_pixel ncX11_pixel 48 := ⟨by decide +kernel, by decide +kernel⟩
theorem dX11_pixel_0 : decode cX11_pixel 0 = .ok (.iload_n 1, 1) := dl_o27 kcX11_pixel (by decide +kernel)
theorem dX11_pixel_1 : decode cX11_pixel 1 = .ok (.ifCond .lt 29, 3) := dl_o155 kcX11_pixel 29 (by decide +kernel) (by decide +kernel)
theorem dX11_pixel_4 : decode cX11_pixel 4 = .ok (.iload_n 1, 1) := dl_o27 kcX11_pixel (by decide +kernel)
theorem dX11_pixel_5 : decode cX11_pixel 5 = .ok (.aload_n 0, 1) := dl_o42 kcX11_pixel (by decide +kernel)
theorem dX11_pixel_6 : decode cX11_pixel 6 = .ok (.getfield 44, 3) := dl_o180 kcX11_pixel (by decide +kernel)
theorem dX11_pixel_9 : decode cX11_pixel 9 = .ok (.getfield 247, 3) := dl_o180 kcX11_pixel (by decide +kernel)
theorem dX11_pixel_12 : decode cX11_pixel 12 = .ok (.if_icmp .ge 18, 3) := dl_o162 kcX11_pixel 18 (by decide +kernel) (by decide +kernel)
theorem dX11_pixel_15 : decode cX11_pixel 15 = .ok (.iload_n 2, 1) := dl_o28 kcX11_pixel (by decide +kernel)
theorem dX11_pixel_16 : decode cX11_pixel 16 = .ok (.ifCond .lt 14, 3) := dl_o155 kcX11_pixel 14 (by decide +kernel) (by decide +kernel)
theorem dX11_pixel_19 : decode cX11_pixel 19 = .ok (.iload_n 2, 1) := dl_o28 kcX11_pixel (by decide +kernel)
theorem dX11_pixel_20 : decode cX11_pixel 20 = .ok (.aload_n 0, 1) := dl_o42 kcX11_pixel (by decide +kernel)
theorem dX11_pixel_21 : decode cX11_pixel 21 = .ok (.getfield 44, 3) := dl_o180 kcX11_pixel (by decide +kernel)
theorem dX11_pixel_24 : decode cX11_pixel 24 = .ok (.getfield 254, 3) := dl_o180 kcX11_pixel (by decide +kernel)
theorem dX11_pixel_27 : decode cX11_pixel 27 = .ok (.if_icmp .lt 5, 3) := dl_o161 kcX11_pixel 5 (by decide +kernel) (by decide +kernel)
theorem dX11_pixel_30 : decode cX11_pixel 30 = .ok (.iconst (-1), 1) := dl_o2 kcX11_pixel (by decide +kernel)
theorem dX11_pixel_31 : decode cX11_pixel 31 = .ok (.ireturn, 1) := dl_o172 kcX11_pixel (by decide +kernel)
theorem dX11_pixel_32 : decode cX11_pixel 32 = .ok (.aload_n 0, 1) := dl_o42 kcX11_pixel (by decide +kernel)
theorem dX11_pixel_33 : decode cX11_pixel 33 = .ok (.getfield 44, 3) := dl_o180 kcX11_pixel (by decide +kernel)
theorem dX11_pixel_36 : decode cX11_pixel 36 = .ok (.getfield 257, 3) := dl_o180 kcX11_pixel (by decide +kernel)
theorem dX11_pixel_39 : decode cX11_pixel 39 = .ok (.iload_n 2, 1) := dl_o28 kcX11_pixel (by decide +kernel)
theorem dX11_pixel_40 : decode cX11_pixel 40 = .ok (.sipush 128, 3) := dl_o17 kcX11_pixel 128 (by decide +kernel) (by decide +kernel)
theorem dX11_pixel_43 : decode cX11_pixel 43 = .ok (.imul, 1) := dl_o104 kcX11_pixel (by decide +kernel)
theorem dX11_pixel_44 : decode cX11_pixel 44 = .ok (.iload_n 1, 1) := dl_o27 kcX11_pixel (by decide +kernel)
theorem dX11_pixel_45 : decode cX11_pixel 45 = .ok (.iadd, 1) := dl_o96 kcX11_pixel (by decide +kernel)
theorem dX11_pixel_46 : decode cX11_pixel 46 = .ok (.baload, 1) := dl_o51 kcX11_pixel (by decide +kernel)
theorem dX11_pixel_47 : decode cX11_pixel 47 = .ok (.ireturn, 1) := dl_o172 kcX11_pixel (by decide +kernel)
def F_X11_pixel (l1 : Int32) (l2 : Int32) (V : sv_V) : Option (Int32 × sv_V) := if l1 < 0 then (some ((-1 : Int32), V)) else (if (V.1 143 1) ≤ l1 then (some ((-1 : Int32), V)) else (if l2 < 0 then (some ((-1 : Int32), V)) else (if l2 < (V.1 143 2) then (if sx_in ((l2 * (128 : Int32)) + l1) 16384 = true then some (V.1 144 ((l2 * (128 : Int32)) + l1).toNatClampNeg, V) else none) else (some ((-1 : Int32), V)))))
set_option maxRecDepth 20000 in
theorem t_X11_pixel {g : sx_G} (hG : sx_Go g) {P : Option Value → sv_V → Prop} {r : Int32} {Vr : sv_V} (hP : P (some (.int r)) Vr) {l1 : Int32} {l2 : Int32} {V : sv_V} (h : F_X11_pixel l1 l2 V = some (r, Vr)) : sv_N g qX11_pixel 0 0 [(0, .ref 0), (1, .int l1), (2, .int l2)] [] V P := by
  unfold F_X11_pixel at h
  refine sx_iload_n (pc := 0) dX11_pixel_0 sx_m1 ?_
  refine sx_if_lt (pc := 1) (tgt := 30) dX11_pixel_1 (by decide) (fun c1 => ?_) (fun c1 => ?_)
  · have h := sx_pos c1 h
    refine sx_iconst (pc := 30) (v := (-1)) dX11_pixel_30 (by decide) ?_
    exact sv_iret (pc := 31) dX11_pixel_31 rfl h hP
  · have h := sx_neg c1 h
    refine sx_iload_n (pc := 4) dX11_pixel_4 sx_m1 ?_
    refine sx_aload_n (pc := 5) dX11_pixel_5 sx_m0 ?_
    refine sv_getO (pc := 6) hG dX11_pixel_6 f_11_44 lay_0 rfl cr_0_5 ?_
    refine sv_getI (pc := 9) hG dX11_pixel_9 f_11_247 lay_143 rfl ?_
    refine sx_icmp_ge (pc := 12) (tgt := 30) dX11_pixel_12 (by decide) (fun c2 => ?_) (fun c2 => ?_)
    · have h := sx_pos c2 h
      refine sx_iconst (pc := 30) (v := (-1)) dX11_pixel_30 (by decide) ?_
      exact sv_iret (pc := 31) dX11_pixel_31 rfl h hP
    · have h := sx_neg c2 h
      refine sx_iload_n (pc := 15) dX11_pixel_15 sx_m2 ?_
      refine sx_if_lt (pc := 16) (tgt := 30) dX11_pixel_16 (by decide) (fun c3 => ?_) (fun c3 => ?_)
      · have h := sx_pos c3 h
        refine sx_iconst (pc := 30) (v := (-1)) dX11_pixel_30 (by decide) ?_
        exact sv_iret (pc := 31) dX11_pixel_31 rfl h hP
      · have h := sx_neg c3 h
        refine sx_iload_n (pc := 19) dX11_pixel_19 sx_m2 ?_
        refine sx_aload_n (pc := 20) dX11_pixel_20 sx_m0 ?_
        refine sv_getO (pc := 21) hG dX11_pixel_21 f_11_44 lay_0 rfl cr_0_5 ?_
        refine sv_getI (pc := 24) hG dX11_pixel_24 f_11_254 lay_143 rfl ?_
        refine sx_icmp_lt (pc := 27) (tgt := 32) dX11_pixel_27 (by decide) (fun c4 => ?_) (fun c4 => ?_)
        · have h := sx_pos c4 h
          refine sx_aload_n (pc := 32) dX11_pixel_32 sx_m0 ?_
          refine sv_getO (pc := 33) hG dX11_pixel_33 f_11_44 lay_0 rfl cr_0_5 ?_
          refine sv_getA (pc := 36) hG dX11_pixel_36 f_11_257 lay_143 rfl cr_143_0 ?_
          refine sx_iload_n (pc := 39) dX11_pixel_39 sx_m2 ?_
          refine sx_sipush (pc := 40) (v := 128) dX11_pixel_40 (by decide) ?_
          refine sx_imul (pc := 43) dX11_pixel_43 ?_
          refine sx_iload_n (pc := 44) dX11_pixel_44 sx_m1 ?_
          refine sx_iadd (pc := 45) dX11_pixel_45 ?_
          obtain ⟨g5, h⟩ := sx_grd h
          refine sv_bald (pc := 46) hG dX11_pixel_46 lay_144 g5 ?_
          exact sv_iret (pc := 47) dX11_pixel_47 rfl h hP
        · have h := sx_neg c4 h
          refine sx_iconst (pc := 30) (v := (-1)) dX11_pixel_30 (by decide) ?_
          exact sv_iret (pc := 31) dX11_pixel_31 rfl h hP
def ncX11_type : Nat := 1735107007098031751155977076182298908213786981267400596263146675530014232216238964482161444546504073041204696612157299483
theorem kcX11_type : CK cX11_type ncX11_type 50 := ⟨by decide +kernel, by decide +kernel⟩
theorem dX11_type_0 : decode cX11_type 0 = .ok (.iload_n 1, 1) := dl_o27 kcX11_type (by decide +kernel)
theorem dX11_type_1 : decode cX11_type 1 = .ok (.ifCond .lt 9, 3) := dl_o155 kcX11_type 9 (by decide +kernel) (by decide +kernel)
theorem dX11_type_4 : decode cX11_type 4 = .ok (.iload_n 1, 1) := dl_o27 kcX11_type (by decide +kernel)
theorem dX11_type_5 : decode cX11_type 5 = .ok (.ldc 111, 2) := dl_o18 kcX11_type (by decide +kernel)
theorem dX11_type_7 : decode cX11_type 7 = .ok (.if_icmp .le 6, 3) := dl_o164 kcX11_type 6 (by decide +kernel) (by decide +kernel)
theorem dX11_type_10 : decode cX11_type 10 = .ok (.bipush (-2), 2) := dl_o16 kcX11_type 254 (by decide +kernel) (by decide +kernel)
theorem dX11_type_12 : decode cX11_type 12 = .ok (.ireturn, 1) := dl_o172 kcX11_type (by decide +kernel)
theorem dX11_type_13 : decode cX11_type 13 = .ok (.aload_n 0, 1) := dl_o42 kcX11_type (by decide +kernel)
theorem dX11_type_14 : decode cX11_type 14 = .ok (.getfield 260, 3) := dl_o180 kcX11_type (by decide +kernel)
theorem dX11_type_17 : decode cX11_type 17 = .ok (.bipush 100, 2) := dl_o16 kcX11_type 100 (by decide +kernel) (by decide +kernel)
theorem dX11_type_19 : decode cX11_type 19 = .ok (.if_icmp .lt 6, 3) := dl_o161 kcX11_type 6 (by decide +kernel) (by decide +kernel)
theorem dX11_type_22 : decode cX11_type 22 = .ok (.bipush (-4), 2) := dl_o16 kcX11_type 252 (by decide +kernel) (by decide +kernel)
theorem dX11_type_24 : decode cX11_type 24 = .ok (.ireturn, 1) := dl_o172 kcX11_type (by decide +kernel)
theorem dX11_type_25 : decode cX11_type 25 = .ok (.aload_n 0, 1) := dl_o42 kcX11_type (by decide +kernel)
theorem dX11_type_26 : decode cX11_type 26 = .ok (.getfield 48, 3) := dl_o180 kcX11_type (by decide +kernel)
theorem dX11_type_29 : decode cX11_type 29 = .ok (.aload_n 0, 1) := dl_o42 kcX11_type (by decide +kernel)
theorem dX11_type_30 : decode cX11_type 30 = .ok (.getfield 260, 3) := dl_o180 kcX11_type (by decide +kernel)
theorem dX11_type_33 : decode cX11_type 33 = .ok (.iload_n 1, 1) := dl_o27 kcX11_type (by decide +kernel)
theorem dX11_type_34 : decode cX11_type 34 = .ok (.iastore, 1) := dl_o79 kcX11_type (by decide +kernel)
theorem dX11_type_35 : decode cX11_type 35 = .ok (.aload_n 0, 1) := dl_o42 kcX11_type (by decide +kernel)
theorem dX11_type_36 : decode cX11_type 36 = .ok (.dup, 1) := dl_o89 kcX11_type (by decide +kernel)
theorem dX11_type_37 : decode cX11_type 37 = .ok (.getfield 260, 3) := dl_o180 kcX11_type (by decide +kernel)
theorem dX11_type_40 : decode cX11_type 40 = .ok (.iconst 1, 1) := dl_o4 kcX11_type (by decide +kernel)
theorem dX11_type_41 : decode cX11_type 41 = .ok (.iadd, 1) := dl_o96 kcX11_type (by decide +kernel)
theorem dX11_type_42 : decode cX11_type 42 = .ok (.putfield 260, 3) := dl_o181 kcX11_type (by decide +kernel)
theorem dX11_type_45 : decode cX11_type 45 = .ok (.aload_n 0, 1) := dl_o42 kcX11_type (by decide +kernel)
theorem dX11_type_46 : decode cX11_type 46 = .ok (.getfield 260, 3) := dl_o180 kcX11_type (by decide +kernel)
theorem dX11_type_49 : decode cX11_type 49 = .ok (.ireturn, 1) := dl_o172 kcX11_type (by decide +kernel)
def F_X11_type (l1 : Int32) (V : sv_V) : Option (Int32 × sv_V) := if l1 < 0 then (some ((-2 : Int32), V)) else (if l1 ≤ (1114111 : Int32) then (if (V.1 0 7) < (100 : Int32) then (if sx_in (V.1 0 7) 100 = true then sx_let (sv_I V 145 (V.1 0 7).toNatClampNeg l1) (fun V5 => sx_let (sv_I V5 0 7 ((V5.1 0 7) + (1 : Int32))) (fun V6 => some (V6.1 0 7, V6))) else none) else (some ((-4 : Int32), V))) else (some ((-2 : Int32), V)))
set_option maxRecDepth 20000 in
theorem t_X11_type {g : sx_G} (hG : sx_Go g) {P : Option Value → sv_V → Prop} {r : Int32} {Vr : sv_V} (hP : P (some (.int r)) Vr) {l1 : Int32} {V : sv_V} (h : F_X11_type l1 V = some (r, Vr)) : sv_N g qX11_type 0 0 [(0, .ref 0), (1, .int l1)] [] V P := by
  unfold F_X11_type at h
  refine sx_iload_n (pc := 0) dX11_type_0 sx_m1 ?_
  refine sx_if_lt (pc := 1) (tgt := 10) dX11_type_1 (by decide) (fun c1 => ?_) (fun c1 => ?_)
  · have h := sx_pos c1 h
    refine sx_bipush (pc := 10) (v := (-2)) dX11_type_10 (by decide) ?_
    exact sv_iret (pc := 12) dX11_type_12 rfl h hP
  · have h := sx_neg c1 h
    refine sx_iload_n (pc := 4) dX11_type_4 sx_m1 ?_
    refine sx_ldc (pc := 5) dX11_type_5 k_X11_111 ?_
    refine sx_icmp_le (pc := 7) (tgt := 13) dX11_type_7 (by decide) (fun c2 => ?_) (fun c2 => ?_)
    · have h := sx_pos c2 h
      refine sx_aload_n (pc := 13) dX11_type_13 sx_m0 ?_
      refine sv_getI (pc := 14) hG dX11_type_14 f_11_260 lay_0 rfl ?_
      refine sx_bipush (pc := 17) (v := 100) dX11_type_17 (by decide) ?_
      refine sx_icmp_lt (pc := 19) (tgt := 25) dX11_type_19 (by decide) (fun c3 => ?_) (fun c3 => ?_)
      · have h := sx_pos c3 h
        refine sx_aload_n (pc := 25) dX11_type_25 sx_m0 ?_
        refine sv_getA (pc := 26) hG dX11_type_26 f_11_48 lay_0 rfl cr_0_6 ?_
        refine sx_aload_n (pc := 29) dX11_type_29 sx_m0 ?_
        refine sv_getI (pc := 30) hG dX11_type_30 f_11_260 lay_0 rfl ?_
        refine sx_iload_n (pc := 33) dX11_type_33 sx_m1 ?_
        obtain ⟨g4, h⟩ := sx_grd h
        obtain ⟨V5, hV5⟩ : ∃ z : sv_V, z = sv_I V 145 (V.1 0 7).toNatClampNeg l1 := ⟨_, rfl⟩
        have h := sx_letE hV5 h
        refine sv_iast (pc := 34) hG dX11_type_34 lay_145 g4 hV5 ?_
        refine sx_aload_n (pc := 35) dX11_type_35 sx_m0 ?_
        refine sx_dup (pc := 36) dX11_type_36 rfl ?_
        refine sv_getI (pc := 37) hG dX11_type_37 f_11_260 lay_0 rfl ?_
        refine sx_iconst (pc := 40) (v := 1) dX11_type_40 (by decide) ?_
        refine sx_iadd (pc := 41) dX11_type_41 ?_
        obtain ⟨V6, hV6⟩ : ∃ z : sv_V, z = sv_I V5 0 7 ((V5.1 0 7) + (1 : Int32)) := ⟨_, rfl⟩
        have h := sx_letE hV6 h
        refine sv_putI (pc := 42) hG dX11_type_42 f_11_260 lay_0 rfl hV6 ?_
        refine sx_aload_n (pc := 45) dX11_type_45 sx_m0 ?_
        refine sv_getI (pc := 46) hG dX11_type_46 f_11_260 lay_0 rfl ?_
        exact sv_iret (pc := 49) dX11_type_49 rfl h hP
      · have h := sx_neg c3 h
        refine sx_bipush (pc := 22) (v := (-4)) dX11_type_22 (by decide) ?_
        exact sv_iret (pc := 24) dX11_type_24 rfl h hP
    · have h := sx_neg c2 h
      refine sx_bipush (pc := 10) (v := (-2)) dX11_type_10 (by decide) ?_
      exact sv_iret (pc := 12) dX11_type_12 rfl h hP
def ncX11_isBeyond : Nat := 251395497853041076118520943985997456043919107431454
theorem kcX11_isBeyond : CK cX11_isBeyond ncX11_isBeyond 21 := ⟨by decide +kernel, by decide +kernel⟩
theorem dX11_isBeyond_0 : decode cX11_isBeyond 0 = .ok (.lload_n 0, 1) := dl_o30 kcX11_isBeyond (by decide +kernel)
theorem dX11_isBeyond_1 : decode cX11_isBeyond 1 = .ok (.iload_n 2, 1) := dl_o28 kcX11_isBeyond (by decide +kernel)
theorem dX11_isBeyond_2 : decode cX11_isBeyond 2 = .ok (.ineg, 1) := dl_o116 kcX11_isBeyond (by decide +kernel)
theorem dX11_isBeyond_3 : decode cX11_isBeyond 3 = .ok (.i2l, 1) := dl_o133 kcX11_isBeyond (by decide +kernel)
theorem dX11_isBeyond_4 : decode cX11_isBeyond 4 = .ok (.lcmp, 1) := dl_o148 kcX11_isBeyond (by decide +kernel)
theorem dX11_isBeyond_5 : decode cX11_isBeyond 5 = .ok (.ifCond .lt 10, 3) := dl_o155 kcX11_isBeyond 10 (by decide +kernel) (by decide +kernel)
theorem dX11_isBeyond_8 : decode cX11_isBeyond 8 = .ok (.lload_n 0, 1) := dl_o30 kcX11_isBeyond (by decide +kernel)
theorem dX11_isBeyond_9 : decode cX11_isBeyond 9 = .ok (.iload_n 2, 1) := dl_o28 kcX11_isBeyond (by decide +kernel)
theorem dX11_isBeyond_10 : decode cX11_isBeyond 10 = .ok (.i2l, 1) := dl_o133 kcX11_isBeyond (by decide +kernel)
theorem dX11_isBeyond_11 : decode cX11_isBeyond 11 = .ok (.lcmp, 1) := dl_o148 kcX11_isBeyond (by decide +kernel)
theorem dX11_isBeyond_12 : decode cX11_isBeyond 12 = .ok (.ifCond .le 7, 3) := dl_o158 kcX11_isBeyond 7 (by decide +kernel) (by decide +kernel)
theorem dX11_isBeyond_15 : decode cX11_isBeyond 15 = .ok (.iconst 1, 1) := dl_o4 kcX11_isBeyond (by decide +kernel)
theorem dX11_isBeyond_16 : decode cX11_isBeyond 16 = .ok (.goto 4, 3) := dl_o167 kcX11_isBeyond 4 (by decide +kernel) (by decide +kernel)
theorem dX11_isBeyond_19 : decode cX11_isBeyond 19 = .ok (.iconst 0, 1) := dl_o3 kcX11_isBeyond (by decide +kernel)
theorem dX11_isBeyond_20 : decode cX11_isBeyond 20 = .ok (.ireturn, 1) := dl_o172 kcX11_isBeyond (by decide +kernel)
def B_X11_isBeyond_15   (V : sv_V) : Option (Int32 × sv_V) := some ((1 : Int32), V)
set_option maxRecDepth 20000 in
theorem tB_X11_isBeyond_15 {g : sx_G} (hG : sx_Go g) {P : Option Value → sv_V → Prop} {r : Int32} {Vr : sv_V} (hP : P (some (.int r)) Vr)    {V : sv_V} (h : B_X11_isBeyond_15   V = some (r, Vr)) : sv_N g qX11_isBeyond 0 15 [] [] V P := by
  unfold B_X11_isBeyond_15 at h
  refine sx_iconst (pc := 15) (v := 1) dX11_isBeyond_15 (by decide) ?_
  refine sx_goto (pc := 16) (tgt := 20) dX11_isBeyond_16 (by decide) ?_
  exact sv_zret (pc := 20) dX11_isBeyond_20 rfl rfl h hP
def F_X11_isBeyond (l0 : Int64) (l2 : Int32) (V : sv_V) : Option (Int32 × sv_V) := if (lg_cmp l0 ((-l2).toInt64)) < 0 then (B_X11_isBeyond_15   V) else (if (lg_cmp l0 l2.toInt64) ≤ 0 then (some ((0 : Int32), V)) else (B_X11_isBeyond_15   V))
set_option maxRecDepth 20000 in
theorem t_X11_isBeyond {g : sx_G} (hG : sx_Go g) {P : Option Value → sv_V → Prop} {r : Int32} {Vr : sv_V} (hP : P (some (.int r)) Vr) {l0 : Int64} {l2 : Int32} {V : sv_V} (h : F_X11_isBeyond l0 l2 V = some (r, Vr)) : sv_N g qX11_isBeyond 0 0 [(0, .long l0), (2, .int l2)] [] V P := by
  unfold F_X11_isBeyond at h
  refine sx_lload_n (pc := 0) dX11_isBeyond_0 sx_m0 ?_
  refine sx_iload_n (pc := 1) dX11_isBeyond_1 sx_m1 ?_
  refine sx_ineg (pc := 2) dX11_isBeyond_2 ?_
  refine sx_i2l (pc := 3) dX11_isBeyond_3 ?_
  refine sx_lcmp (pc := 4) dX11_isBeyond_4 ?_
  refine sx_if_lt (pc := 5) (tgt := 15) dX11_isBeyond_5 (by decide) (fun c1 => ?_) (fun c1 => ?_)
  · have h := sx_pos c1 h
    refine sx_wk sx_s0 ?_
    exact tB_X11_isBeyond_15 hG hP  h
  · have h := sx_neg c1 h
    refine sx_lload_n (pc := 8) dX11_isBeyond_8 sx_m0 ?_
    refine sx_iload_n (pc := 9) dX11_isBeyond_9 sx_m1 ?_
    refine sx_i2l (pc := 10) dX11_isBeyond_10 ?_
    refine sx_lcmp (pc := 11) dX11_isBeyond_11 ?_
    refine sx_if_le (pc := 12) (tgt := 19) dX11_isBeyond_12 (by decide) (fun c2 => ?_) (fun c2 => ?_)
    · have h := sx_pos c2 h
      refine sx_iconst (pc := 19) (v := 0) dX11_isBeyond_19 (by decide) ?_
      exact sv_zret (pc := 20) dX11_isBeyond_20 rfl rfl h hP
    · have h := sx_neg c2 h
      refine sx_wk sx_s0 ?_
      exact tB_X11_isBeyond_15 hG hP  h
def ncX11_nearest : Nat := 4515992454352173959356790571244344639487755632108199041678743114004089244022421995532308002531332270141801978083052732419876934586272011679504090661126411598669418849086992981171964285250558772352689656570961827445256767162899068543363713312
theorem kcX11_nearest : CK cX11_nearest ncX11_nearest 100 := ⟨by decide +kernel, by decide +kernel⟩
theorem dX11_nearest_0 : decode cX11_nearest 0 = .ok (.lload_n 2, 1) := dl_o32 kcX11_nearest (by decide +kernel)
theorem dX11_nearest_1 : decode cX11_nearest 1 = .ok (.lconst 0, 1) := dl_o9 kcX11_nearest (by decide +kernel)
theorem dX11_nearest_2 : decode cX11_nearest 2 = .ok (.lcmp, 1) := dl_o148 kcX11_nearest (by decide +kernel)
theorem dX11_nearest_3 : decode cX11_nearest 3 = .ok (.ifCond .ne 5, 3) := dl_o154 kcX11_nearest 5 (by decide +kernel) (by decide +kernel)
theorem dX11_nearest_6 : decode cX11_nearest 6 = .ok (.lconst 0, 1) := dl_o9 kcX11_nearest (by decide +kernel)
theorem dX11_nearest_7 : decode cX11_nearest 7 = .ok (.lreturn, 1) := dl_o173 kcX11_nearest (by decide +kernel)
theorem dX11_nearest_8 : decode cX11_nearest 8 = .ok (.lload_n 0, 1) := dl_o30 kcX11_nearest (by decide +kernel)
theorem dX11_nearest_9 : decode cX11_nearest 9 = .ok (.lload_n 2, 1) := dl_o32 kcX11_nearest (by decide +kernel)
theorem dX11_nearest_10 : decode cX11_nearest 10 = .ok (.ldiv, 1) := dl_o109 kcX11_nearest (by decide +kernel)
theorem dX11_nearest_11 : decode cX11_nearest 11 = .ok (.lstore 4, 2) := dl_o55 kcX11_nearest (by decide +kernel)
theorem dX11_nearest_13 : decode cX11_nearest 13 = .ok (.lload_n 0, 1) := dl_o30 kcX11_nearest (by decide +kernel)
theorem dX11_nearest_14 : decode cX11_nearest 14 = .ok (.lload_n 2, 1) := dl_o32 kcX11_nearest (by decide +kernel)
theorem dX11_nearest_15 : decode cX11_nearest 15 = .ok (.lrem, 1) := dl_o113 kcX11_nearest (by decide +kernel)
theorem dX11_nearest_16 : decode cX11_nearest 16 = .ok (.lstore 6, 2) := dl_o55 kcX11_nearest (by decide +kernel)
theorem dX11_nearest_18 : decode cX11_nearest 18 = .ok (.lload 6, 2) := dl_o22 kcX11_nearest (by decide +kernel)
theorem dX11_nearest_20 : decode cX11_nearest 20 = .ok (.lconst 0, 1) := dl_o9 kcX11_nearest (by decide +kernel)
theorem dX11_nearest_21 : decode cX11_nearest 21 = .ok (.lcmp, 1) := dl_o148 kcX11_nearest (by decide +kernel)
theorem dX11_nearest_22 : decode cX11_nearest 22 = .ok (.ifCond .ge 8, 3) := dl_o156 kcX11_nearest 8 (by decide +kernel) (by decide +kernel)
theorem dX11_nearest_25 : decode cX11_nearest 25 = .ok (.lload 6, 2) := dl_o22 kcX11_nearest (by decide +kernel)
theorem dX11_nearest_27 : decode cX11_nearest 27 = .ok (.goto 6, 3) := dl_o167 kcX11_nearest 6 (by decide +kernel) (by decide +kernel)
theorem dX11_nearest_30 : decode cX11_nearest 30 = .ok (.lload 6, 2) := dl_o22 kcX11_nearest (by decide +kernel)
theorem dX11_nearest_32 : decode cX11_nearest 32 = .ok (.lneg, 1) := dl_o117 kcX11_nearest (by decide +kernel)
theorem dX11_nearest_33 : decode cX11_nearest 33 = .ok (.lstore 8, 2) := dl_o55 kcX11_nearest (by decide +kernel)
theorem dX11_nearest_35 : decode cX11_nearest 35 = .ok (.lload_n 2, 1) := dl_o32 kcX11_nearest (by decide +kernel)
theorem dX11_nearest_36 : decode cX11_nearest 36 = .ok (.lconst 0, 1) := dl_o9 kcX11_nearest (by decide +kernel)
theorem dX11_nearest_37 : decode cX11_nearest 37 = .ok (.lcmp, 1) := dl_o148 kcX11_nearest (by decide +kernel)
theorem dX11_nearest_38 : decode cX11_nearest 38 = .ok (.ifCond .ge 7, 3) := dl_o156 kcX11_nearest 7 (by decide +kernel) (by decide +kernel)
theorem dX11_nearest_41 : decode cX11_nearest 41 = .ok (.lload_n 2, 1) := dl_o32 kcX11_nearest (by decide +kernel)
theorem dX11_nearest_42 : decode cX11_nearest 42 = .ok (.goto 5, 3) := dl_o167 kcX11_nearest 5 (by decide +kernel) (by decide +kernel)
theorem dX11_nearest_45 : decode cX11_nearest 45 = .ok (.lload_n 2, 1) := dl_o32 kcX11_nearest (by decide +kernel)
theorem dX11_nearest_46 : decode cX11_nearest 46 = .ok (.lneg, 1) := dl_o117 kcX11_nearest (by decide +kernel)
theorem dX11_nearest_47 : decode cX11_nearest 47 = .ok (.lstore 10, 2) := dl_o55 kcX11_nearest (by decide +kernel)
theorem dX11_nearest_49 : decode cX11_nearest 49 = .ok (.lload 8, 2) := dl_o22 kcX11_nearest (by decide +kernel)
theorem dX11_nearest_51 : decode cX11_nearest 51 = .ok (.lload 10, 2) := dl_o22 kcX11_nearest (by decide +kernel)
theorem dX11_nearest_53 : decode cX11_nearest 53 = .ok (.lload 8, 2) := dl_o22 kcX11_nearest (by decide +kernel)
theorem dX11_nearest_55 : decode cX11_nearest 55 = .ok (.lsub, 1) := dl_o101 kcX11_nearest (by decide +kernel)
theorem dX11_nearest_56 : decode cX11_nearest 56 = .ok (.lcmp, 1) := dl_o148 kcX11_nearest (by decide +kernel)
theorem dX11_nearest_57 : decode cX11_nearest 57 = .ok (.ifCond .le 6, 3) := dl_o158 kcX11_nearest 6 (by decide +kernel) (by decide +kernel)
theorem dX11_nearest_60 : decode cX11_nearest 60 = .ok (.lload 4, 2) := dl_o22 kcX11_nearest (by decide +kernel)
theorem dX11_nearest_62 : decode cX11_nearest 62 = .ok (.lreturn, 1) := dl_o173 kcX11_nearest (by decide +kernel)
theorem dX11_nearest_63 : decode cX11_nearest 63 = .ok (.lload_n 0, 1) := dl_o30 kcX11_nearest (by decide +kernel)
theorem dX11_nearest_64 : decode cX11_nearest 64 = .ok (.lconst 0, 1) := dl_o9 kcX11_nearest (by decide +kernel)
theorem dX11_nearest_65 : decode cX11_nearest 65 = .ok (.lcmp, 1) := dl_o148 kcX11_nearest (by decide +kernel)
theorem dX11_nearest_66 : decode cX11_nearest 66 = .ok (.ifCond .ge 7, 3) := dl_o156 kcX11_nearest 7 (by decide +kernel) (by decide +kernel)
theorem dX11_nearest_69 : decode cX11_nearest 69 = .ok (.iconst 1, 1) := dl_o4 kcX11_nearest (by decide +kernel)
theorem dX11_nearest_70 : decode cX11_nearest 70 = .ok (.goto 4, 3) := dl_o167 kcX11_nearest 4 (by decide +kernel) (by decide +kernel)
theorem dX11_nearest_73 : decode cX11_nearest 73 = .ok (.iconst 0, 1) := dl_o3 kcX11_nearest (by decide +kernel)
theorem dX11_nearest_74 : decode cX11_nearest 74 = .ok (.lload_n 2, 1) := dl_o32 kcX11_nearest (by decide +kernel)
theorem dX11_nearest_75 : decode cX11_nearest 75 = .ok (.lconst 0, 1) := dl_o9 kcX11_nearest (by decide +kernel)
theorem dX11_nearest_76 : decode cX11_nearest 76 = .ok (.lcmp, 1) := dl_o148 kcX11_nearest (by decide +kernel)
theorem dX11_nearest_77 : decode cX11_nearest 77 = .ok (.ifCond .ge 7, 3) := dl_o156 kcX11_nearest 7 (by decide +kernel) (by decide +kernel)
theorem dX11_nearest_80 : decode cX11_nearest 80 = .ok (.iconst 1, 1) := dl_o4 kcX11_nearest (by decide +kernel)
theorem dX11_nearest_81 : decode cX11_nearest 81 = .ok (.goto 4, 3) := dl_o167 kcX11_nearest 4 (by decide +kernel) (by decide +kernel)
theorem dX11_nearest_84 : decode cX11_nearest 84 = .ok (.iconst 0, 1) := dl_o3 kcX11_nearest (by decide +kernel)
theorem dX11_nearest_85 : decode cX11_nearest 85 = .ok (.if_icmp .eq 10, 3) := dl_o159 kcX11_nearest 10 (by decide +kernel) (by decide +kernel)
theorem dX11_nearest_88 : decode cX11_nearest 88 = .ok (.lload 4, 2) := dl_o22 kcX11_nearest (by decide +kernel)
theorem dX11_nearest_90 : decode cX11_nearest 90 = .ok (.lconst 1, 1) := dl_o10 kcX11_nearest (by decide +kernel)
theorem dX11_nearest_91 : decode cX11_nearest 91 = .ok (.lsub, 1) := dl_o101 kcX11_nearest (by decide +kernel)
theorem dX11_nearest_92 : decode cX11_nearest 92 = .ok (.goto 7, 3) := dl_o167 kcX11_nearest 7 (by decide +kernel) (by decide +kernel)
theorem dX11_nearest_95 : decode cX11_nearest 95 = .ok (.lload 4, 2) := dl_o22 kcX11_nearest (by decide +kernel)
theorem dX11_nearest_97 : decode cX11_nearest 97 = .ok (.lconst 1, 1) := dl_o10 kcX11_nearest (by decide +kernel)
theorem dX11_nearest_98 : decode cX11_nearest 98 = .ok (.ladd, 1) := dl_o97 kcX11_nearest (by decide +kernel)
theorem dX11_nearest_99 : decode cX11_nearest 99 = .ok (.lreturn, 1) := dl_o173 kcX11_nearest (by decide +kernel)
def B_X11_nearest_85  (l4 : Int64) (s0 : Int32) (s1 : Int32) (V : sv_V) : Option (Int64 × sv_V) := if s0 = s1 then (some (l4 + (1 : Int64), V)) else (some (l4 - (1 : Int64), V))
set_option maxRecDepth 20000 in
theorem tB_X11_nearest_85 {g : sx_G} (hG : sx_Go g) {P : Option Value → sv_V → Prop} {r : Int64} {Vr : sv_V} (hP : P (some (.long r)) Vr)   {l4 : Int64} {s0 : Int32} {s1 : Int32} {V : sv_V} (h : B_X11_nearest_85  l4 s0 s1 V = some (r, Vr)) : sv_N g qX11_nearest 0 85 [(4, .long l4)] [.int s1, .int s0] V P := by
  unfold B_X11_nearest_85 at h
  refine sx_icmp_eq (pc := 85) (tgt := 95) dX11_nearest_85 (by decide) (fun c1 => ?_) (fun c1 => ?_)
  · have h := sx_pos c1 h
    refine sx_lload (pc := 95) dX11_nearest_95 sx_m0 ?_
    refine sx_lconst (pc := 97) (v := 1) dX11_nearest_97 rfl ?_
    refine sx_ladd (pc := 98) dX11_nearest_98 ?_
    exact sv_lret (pc := 99) dX11_nearest_99 rfl h hP
  · have h := sx_neg c1 h
    refine sx_lload (pc := 88) dX11_nearest_88 sx_m0 ?_
    refine sx_lconst (pc := 90) (v := 1) dX11_nearest_90 rfl ?_
    refine sx_lsub (pc := 91) dX11_nearest_91 ?_
    refine sx_goto (pc := 92) (tgt := 99) dX11_nearest_92 (by decide) ?_
    exact sv_lret (pc := 99) dX11_nearest_99 rfl h hP
def B_X11_nearest_74  (l2 : Int64) (l4 : Int64) (s0 : Int32) (V : sv_V) : Option (Int64 × sv_V) := if 0 ≤ (lg_cmp l2 (0 : Int64)) then (B_X11_nearest_85  l4 s0 (0 : Int32) V) else (B_X11_nearest_85  l4 s0 (1 : Int32) V)
set_option maxRecDepth 20000 in
theorem tB_X11_nearest_74 {g : sx_G} (hG : sx_Go g) {P : Option Value → sv_V → Prop} {r : Int64} {Vr : sv_V} (hP : P (some (.long r)) Vr)   {l2 : Int64} {l4 : Int64} {s0 : Int32} {V : sv_V} (h : B_X11_nearest_74  l2 l4 s0 V = some (r, Vr)) : sv_N g qX11_nearest 0 74 [(2, .long l2), (4, .long l4)] [.int s0] V P := by
  unfold B_X11_nearest_74 at h
  refine sx_lload_n (pc := 74) dX11_nearest_74 sx_m0 ?_
  refine sx_lconst (pc := 75) (v := 0) dX11_nearest_75 rfl ?_
  refine sx_lcmp (pc := 76) dX11_nearest_76 ?_
  refine sx_if_ge (pc := 77) (tgt := 84) dX11_nearest_77 (by decide) (fun c2 => ?_) (fun c2 => ?_)
  · have h := sx_pos c2 h
    refine sx_iconst (pc := 84) (v := 0) dX11_nearest_84 (by decide) ?_
    refine sx_wk (sx_s1 sx_m1 sx_s0) ?_
    exact tB_X11_nearest_85 hG hP  h
  · have h := sx_neg c2 h
    refine sx_iconst (pc := 80) (v := 1) dX11_nearest_80 (by decide) ?_
    refine sx_goto (pc := 81) (tgt := 85) dX11_nearest_81 (by decide) ?_
    refine sx_wk (sx_s1 sx_m1 sx_s0) ?_
    exact tB_X11_nearest_85 hG hP  h
def B_X11_nearest_47  (l0 : Int64) (l2 : Int64) (l4 : Int64) (l8 : Int64) (s0 : Int64) (V : sv_V) : Option (Int64 × sv_V) := if (lg_cmp l8 (s0 - l8)) ≤ 0 then (if 0 ≤ (lg_cmp l0 (0 : Int64)) then (B_X11_nearest_74  l2 l4 (0 : Int32) V) else (B_X11_nearest_74  l2 l4 (1 : Int32) V)) else (some (l4, V))
set_option maxRecDepth 20000 in
theorem tB_X11_nearest_47 {g : sx_G} (hG : sx_Go g) {P : Option Value → sv_V → Prop} {r : Int64} {Vr : sv_V} (hP : P (some (.long r)) Vr)   {l0 : Int64} {l2 : Int64} {l4 : Int64} {l8 : Int64} {s0 : Int64} {V : sv_V} (h : B_X11_nearest_47  l0 l2 l4 l8 s0 V = some (r, Vr)) : sv_N g qX11_nearest 0 47 [(0, .long l0), (2, .long l2), (4, .long l4), (8, .long l8)] [.long s0] V P := by
  unfold B_X11_nearest_47 at h
  refine sx_lstore (pc := 47) (lo' := [(10, .long s0), (0, .long l0), (2, .long l2), (4, .long l4), (8, .long l8)]) dX11_nearest_47 (by decide) rfl ?_
  refine sx_lload (pc := 49) dX11_nearest_49 sx_m4 ?_
  refine sx_lload (pc := 51) dX11_nearest_51 sx_m0 ?_
  refine sx_lload (pc := 53) dX11_nearest_53 sx_m4 ?_
  refine sx_lsub (pc := 55) dX11_nearest_55 ?_
  refine sx_lcmp (pc := 56) dX11_nearest_56 ?_
  refine sx_if_le (pc := 57) (tgt := 63) dX11_nearest_57 (by decide) (fun c3 => ?_) (fun c3 => ?_)
  · have h := sx_pos c3 h
    refine sx_lload_n (pc := 63) dX11_nearest_63 sx_m1 ?_
    refine sx_lconst (pc := 64) (v := 0) dX11_nearest_64 rfl ?_
    refine sx_lcmp (pc := 65) dX11_nearest_65 ?_
    refine sx_if_ge (pc := 66) (tgt := 73) dX11_nearest_66 (by decide) (fun c4 => ?_) (fun c4 => ?_)
    · have h := sx_pos c4 h
      refine sx_iconst (pc := 73) (v := 0) dX11_nearest_73 (by decide) ?_
      refine sx_wk (sx_s1 sx_m2 (sx_s1 sx_m3 sx_s0)) ?_
      exact tB_X11_nearest_74 hG hP  h
    · have h := sx_neg c4 h
      refine sx_iconst (pc := 69) (v := 1) dX11_nearest_69 (by decide) ?_
      refine sx_goto (pc := 70) (tgt := 74) dX11_nearest_70 (by decide) ?_
      refine sx_wk (sx_s1 sx_m2 (sx_s1 sx_m3 sx_s0)) ?_
      exact tB_X11_nearest_74 hG hP  h
  · have h := sx_neg c3 h
    refine sx_lload (pc := 60) dX11_nearest_60 sx_m3 ?_
    exact sv_lret (pc := 62) dX11_nearest_62 rfl h hP
def B_X11_nearest_33  (l0 : Int64) (l2 : Int64) (l4 : Int64) (s0 : Int64) (V : sv_V) : Option (Int64 × sv_V) := if 0 ≤ (lg_cmp l2 (0 : Int64)) then (B_X11_nearest_47  l0 l2 l4 s0 (-l2) V) else (B_X11_nearest_47  l0 l2 l4 s0 l2 V)
set_option maxRecDepth 20000 in
theorem tB_X11_nearest_33 {g : sx_G} (hG : sx_Go g) {P : Option Value → sv_V → Prop} {r : Int64} {Vr : sv_V} (hP : P (some (.long r)) Vr)   {l0 : Int64} {l2 : Int64} {l4 : Int64} {s0 : Int64} {V : sv_V} (h : B_X11_nearest_33  l0 l2 l4 s0 V = some (r, Vr)) : sv_N g qX11_nearest 0 33 [(0, .long l0), (2, .long l2), (4, .long l4)] [.long s0] V P := by
  unfold B_X11_nearest_33 at h
  refine sx_lstore (pc := 33) (lo' := [(8, .long s0), (0, .long l0), (2, .long l2), (4, .long l4)]) dX11_nearest_33 (by decide) rfl ?_
  refine sx_lload_n (pc := 35) dX11_nearest_35 sx_m2 ?_
  refine sx_lconst (pc := 36) (v := 0) dX11_nearest_36 rfl ?_
  refine sx_lcmp (pc := 37) dX11_nearest_37 ?_
  refine sx_if_ge (pc := 38) (tgt := 45) dX11_nearest_38 (by decide) (fun c5 => ?_) (fun c5 => ?_)
  · have h := sx_pos c5 h
    refine sx_lload_n (pc := 45) dX11_nearest_45 sx_m2 ?_
    refine sx_lneg (pc := 46) dX11_nearest_46 ?_
    refine sx_wk (sx_s1 sx_m1 (sx_s1 sx_m2 (sx_s1 sx_m3 (sx_s1 sx_m0 sx_s0)))) ?_
    exact tB_X11_nearest_47 hG hP  h
  · have h := sx_neg c5 h
    refine sx_lload_n (pc := 41) dX11_nearest_41 sx_m2 ?_
    refine sx_goto (pc := 42) (tgt := 47) dX11_nearest_42 (by decide) ?_
    refine sx_wk (sx_s1 sx_m1 (sx_s1 sx_m2 (sx_s1 sx_m3 (sx_s1 sx_m0 sx_s0)))) ?_
    exact tB_X11_nearest_47 hG hP  h
def F_X11_nearest (l0 : Int64) (l2 : Int64) (V : sv_V) : Option (Int64 × sv_V) := if (lg_cmp l2 (0 : Int64)) = 0 then (some ((0 : Int64), V)) else (if ¬ l2 = 0 then sx_let (l0 / l2) (fun x8 => if ¬ l2 = 0 then sx_let (l0 - l0 / l2 * l2) (fun x10 => if 0 ≤ (lg_cmp x10 (0 : Int64)) then (B_X11_nearest_33  l0 l2 x8 (-x10) V) else (B_X11_nearest_33  l0 l2 x8 x10 V)) else none) else none)
set_option maxRecDepth 20000 in
theorem t_X11_nearest {g : sx_G} (hG : sx_Go g) {P : Option Value → sv_V → Prop} {r : Int64} {Vr : sv_V} (hP : P (some (.long r)) Vr) {l0 : Int64} {l2 : Int64} {V : sv_V} (h : F_X11_nearest l0 l2 V = some (r, Vr)) : sv_N g qX11_nearest 0 0 [(0, .long l0), (2, .long l2)] [] V P := by
  unfold F_X11_nearest at h
  refine sx_lload_n (pc := 0) dX11_nearest_0 sx_m1 ?_
  refine sx_lconst (pc := 1) (v := 0) dX11_nearest_1 rfl ?_
  refine sx_lcmp (pc := 2) dX11_nearest_2 ?_
  refine sx_if_ne (pc := 3) (tgt := 8) dX11_nearest_3 (by decide) (fun c6 => ?_) (fun c6 => ?_)
  · have h := sx_neg c6 h
    refine sx_lload_n (pc := 8) dX11_nearest_8 sx_m0 ?_
    refine sx_lload_n (pc := 9) dX11_nearest_9 sx_m1 ?_
    obtain ⟨g7, h⟩ := sx_grd h
    refine sx_ldiv (pc := 10) dX11_nearest_10 g7 ?_
    refine sv_tJ (fun x8 hx8 => ?_)
    have h := sx_letE hx8 h
    refine sx_lstore (pc := 11) (lo' := [(4, .long x8), (0, .long l0), (2, .long l2)]) dX11_nearest_11 (by decide) rfl ?_
    refine sx_lload_n (pc := 13) dX11_nearest_13 sx_m1 ?_
    refine sx_lload_n (pc := 14) dX11_nearest_14 sx_m2 ?_
    obtain ⟨g9, h⟩ := sx_grd h
    refine sx_lrem (pc := 15) dX11_nearest_15 g9 ?_
    refine sv_tJ (fun x10 hx10 => ?_)
    have h := sx_letE hx10 h
    refine sx_lstore (pc := 16) (lo' := [(6, .long x10), (4, .long x8), (0, .long l0), (2, .long l2)]) dX11_nearest_16 (by decide) rfl ?_
    refine sx_lload (pc := 18) dX11_nearest_18 sx_m0 ?_
    refine sx_lconst (pc := 20) (v := 0) dX11_nearest_20 rfl ?_
    refine sx_lcmp (pc := 21) dX11_nearest_21 ?_
    refine sx_if_ge (pc := 22) (tgt := 30) dX11_nearest_22 (by decide) (fun c11 => ?_) (fun c11 => ?_)
    · have h := sx_pos c11 h
      refine sx_lload (pc := 30) dX11_nearest_30 sx_m0 ?_
      refine sx_lneg (pc := 32) dX11_nearest_32 ?_
      refine sx_wk (sx_s1 sx_m2 (sx_s1 sx_m3 (sx_s1 sx_m1 sx_s0))) ?_
      exact tB_X11_nearest_33 hG hP  h
    · have h := sx_neg c11 h
      refine sx_lload (pc := 25) dX11_nearest_25 sx_m0 ?_
      refine sx_goto (pc := 27) (tgt := 33) dX11_nearest_27 (by decide) ?_
      refine sx_wk (sx_s1 sx_m2 (sx_s1 sx_m3 (sx_s1 sx_m1 sx_s0))) ?_
      exact tB_X11_nearest_33 hG hP  h
  · have h := sx_pos c6 h
    refine sx_lconst (pc := 6) (v := 0) dX11_nearest_6 rfl ?_
    exact sv_lret (pc := 7) dX11_nearest_7 rfl h hP
def ncX12_in : Nat := 3835990873001725404639306027888771831547830302
theorem kcX12_in : CK cX12_in ncX12_in 19 := ⟨by decide +kernel, by decide +kernel⟩
theorem dX12_in_0 : decode cX12_in 0 = .ok (.lload_n 0, 1) := dl_o30 kcX12_in (by decide +kernel)
theorem dX12_in_1 : decode cX12_in 1 = .ok (.lload_n 2, 1) := dl_o32 kcX12_in (by decide +kernel)
theorem dX12_in_2 : decode cX12_in 2 = .ok (.lcmp, 1) := dl_o148 kcX12_in (by decide +kernel)
theorem dX12_in_3 : decode cX12_in 3 = .ok (.ifCond .lt 14, 3) := dl_o155 kcX12_in 14 (by decide +kernel) (by decide +kernel)
theorem dX12_in_6 : decode cX12_in 6 = .ok (.lload_n 0, 1) := dl_o30 kcX12_in (by decide +kernel)
theorem dX12_in_7 : decode cX12_in 7 = .ok (.lload 4, 2) := dl_o22 kcX12_in (by decide +kernel)
theorem dX12_in_9 : decode cX12_in 9 = .ok (.lcmp, 1) := dl_o148 kcX12_in (by decide +kernel)
theorem dX12_in_10 : decode cX12_in 10 = .ok (.ifCond .gt 7, 3) := dl_o157 kcX12_in 7 (by decide +kernel) (by decide +kernel)
theorem dX12_in_13 : decode cX12_in 13 = .ok (.iconst 1, 1) := dl_o4 kcX12_in (by decide +kernel)
theorem dX12_in_14 : decode cX12_in 14 = .ok (.goto 4, 3) := dl_o167 kcX12_in 4 (by decide +kernel) (by decide +kernel)
theorem dX12_in_17 : decode cX12_in 17 = .ok (.iconst 0, 1) := dl_o3 kcX12_in (by decide +kernel)
theorem dX12_in_18 : decode cX12_in 18 = .ok (.ireturn, 1) := dl_o172 kcX12_in (by decide +kernel)
def F_X12_in (l0 : Int64) (l2 : Int64) (l4 : Int64) (V : sv_V) : Option (Int32 × sv_V) := if (lg_cmp l0 l2) < 0 then (some ((0 : Int32), V)) else (if 0 < (lg_cmp l0 l4) then (some ((0 : Int32), V)) else (some ((1 : Int32), V)))
set_option maxRecDepth 20000 in
theorem t_X12_in {g : sx_G} (hG : sx_Go g) {P : Option Value → sv_V → Prop} {r : Int32} {Vr : sv_V} (hP : P (some (.int r)) Vr) {l0 : Int64} {l2 : Int64} {l4 : Int64} {V : sv_V} (h : F_X12_in l0 l2 l4 V = some (r, Vr)) : sv_N g qX12_in 0 0 [(0, .long l0), (2, .long l2), (4, .long l4)] [] V P := by
  unfold F_X12_in at h
  refine sx_lload_n (pc := 0) dX12_in_0 sx_m0 ?_
  refine sx_lload_n (pc := 1) dX12_in_1 sx_m1 ?_
  refine sx_lcmp (pc := 2) dX12_in_2 ?_
  refine sx_if_lt (pc := 3) (tgt := 17) dX12_in_3 (by decide) (fun c1 => ?_) (fun c1 => ?_)
  · have h := sx_pos c1 h
    refine sx_iconst (pc := 17) (v := 0) dX12_in_17 (by decide) ?_
    exact sv_zret (pc := 18) dX12_in_18 rfl rfl h hP
  · have h := sx_neg c1 h
    refine sx_lload_n (pc := 6) dX12_in_6 sx_m0 ?_
    refine sx_lload (pc := 7) dX12_in_7 sx_m2 ?_
    refine sx_lcmp (pc := 9) dX12_in_9 ?_
    refine sx_if_gt (pc := 10) (tgt := 17) dX12_in_10 (by decide) (fun c2 => ?_) (fun c2 => ?_)
    · have h := sx_pos c2 h
      refine sx_iconst (pc := 17) (v := 0) dX12_in_17 (by decide) ?_
      exact sv_zret (pc := 18) dX12_in_18 rfl rfl h hP
    · have h := sx_neg c2 h
      refine sx_iconst (pc := 13) (v := 1) dX12_in_13 (by decide) ?_
      refine sx_goto (pc := 14) (tgt := 18) dX12_in_14 (by decide) ?_
      exact sv_zret (pc := 18) dX12_in_18 rfl rfl h hP
def ncX12_sizeOf : Nat := 13715761504054694666121499642142
theorem kcX12_sizeOf : CK cX12_sizeOf ncX12_sizeOf 13 := ⟨by decide +kernel, by decide +kernel⟩
theorem dX12_sizeOf_0 : decode cX12_sizeOf 0 = .ok (.lload_n 0, 1) := dl_o30 kcX12_sizeOf (by decide +kernel)
theorem dX12_sizeOf_1 : decode cX12_sizeOf 1 = .ok (.lconst 0, 1) := dl_o9 kcX12_sizeOf (by decide +kernel)
theorem dX12_sizeOf_2 : decode cX12_sizeOf 2 = .ok (.lcmp, 1) := dl_o148 kcX12_sizeOf (by decide +kernel)
theorem dX12_sizeOf_3 : decode cX12_sizeOf 3 = .ok (.ifCond .ge 8, 3) := dl_o156 kcX12_sizeOf 8 (by decide +kernel) (by decide +kernel)
theorem dX12_sizeOf_6 : decode cX12_sizeOf 6 = .ok (.lload_n 0, 1) := dl_o30 kcX12_sizeOf (by decide +kernel)
theorem dX12_sizeOf_7 : decode cX12_sizeOf 7 = .ok (.lneg, 1) := dl_o117 kcX12_sizeOf (by decide +kernel)
theorem dX12_sizeOf_8 : decode cX12_sizeOf 8 = .ok (.goto 4, 3) := dl_o167 kcX12_sizeOf 4 (by decide +kernel) (by decide +kernel)
theorem dX12_sizeOf_11 : decode cX12_sizeOf 11 = .ok (.lload_n 0, 1) := dl_o30 kcX12_sizeOf (by decide +kernel)
theorem dX12_sizeOf_12 : decode cX12_sizeOf 12 = .ok (.lreturn, 1) := dl_o173 kcX12_sizeOf (by decide +kernel)
def F_X12_sizeOf (l0 : Int64) (V : sv_V) : Option (Int64 × sv_V) := if 0 ≤ (lg_cmp l0 (0 : Int64)) then (some (l0, V)) else (some (-l0, V))
set_option maxRecDepth 20000 in
theorem t_X12_sizeOf {g : sx_G} (hG : sx_Go g) {P : Option Value → sv_V → Prop} {r : Int64} {Vr : sv_V} (hP : P (some (.long r)) Vr) {l0 : Int64} {V : sv_V} (h : F_X12_sizeOf l0 V = some (r, Vr)) : sv_N g qX12_sizeOf 0 0 [(0, .long l0)] [] V P := by
  unfold F_X12_sizeOf at h
  refine sx_lload_n (pc := 0) dX12_sizeOf_0 sx_m0 ?_
  refine sx_lconst (pc := 1) (v := 0) dX12_sizeOf_1 rfl ?_
  refine sx_lcmp (pc := 2) dX12_sizeOf_2 ?_
  refine sx_if_ge (pc := 3) (tgt := 11) dX12_sizeOf_3 (by decide) (fun c1 => ?_) (fun c1 => ?_)
  · have h := sx_pos c1 h
    refine sx_lload_n (pc := 11) dX12_sizeOf_11 sx_m0 ?_
    exact sv_lret (pc := 12) dX12_sizeOf_12 rfl h hP
  · have h := sx_neg c1 h
    refine sx_lload_n (pc := 6) dX12_sizeOf_6 sx_m0 ?_
    refine sx_lneg (pc := 7) dX12_sizeOf_7 ?_
    refine sx_goto (pc := 8) (tgt := 12) dX12_sizeOf_8 (by decide) ?_
    exact sv_lret (pc := 12) dX12_sizeOf_12 rfl h hP
def ncX12_toPixel : Nat := 208579840251655444882265118
theorem kcX12_toPixel : CK cX12_toPixel ncX12_toPixel 11 := ⟨by decide +kernel, by decide +kernel⟩
theorem dX12_toPixel_0 : decode cX12_toPixel 0 = .ok (.lload_n 0, 1) := dl_o30 kcX12_toPixel (by decide +kernel)
theorem dX12_toPixel_1 : decode cX12_toPixel 1 = .ok (.ldc2_w 202, 3) := dl_o20 kcX12_toPixel (by decide +kernel)
theorem dX12_toPixel_4 : decode cX12_toPixel 4 = .ok (.ladd, 1) := dl_o97 kcX12_toPixel (by decide +kernel)
theorem dX12_toPixel_5 : decode cX12_toPixel 5 = .ok (.ldc2_w 204, 3) := dl_o20 kcX12_toPixel (by decide +kernel)
theorem dX12_toPixel_8 : decode cX12_toPixel 8 = .ok (.land, 1) := dl_o127 kcX12_toPixel (by decide +kernel)
theorem dX12_toPixel_9 : decode cX12_toPixel 9 = .ok (.l2i, 1) := dl_o136 kcX12_toPixel (by decide +kernel)
theorem dX12_toPixel_10 : decode cX12_toPixel 10 = .ok (.ireturn, 1) := dl_o172 kcX12_toPixel (by decide +kernel)
def F_X12_toPixel (l0 : Int64) (V : sv_V) : Option (Int32 × sv_V) := some (((l0 + (32 : Int64)) &&& (-64 : Int64)).toInt32, V)
set_option maxRecDepth 20000 in
theorem t_X12_toPixel {g : sx_G} (hG : sx_Go g) {P : Option Value → sv_V → Prop} {r : Int32} {Vr : sv_V} (hP : P (some (.int r)) Vr) {l0 : Int64} {V : sv_V} (h : F_X12_toPixel l0 V = some (r, Vr)) : sv_N g qX12_toPixel 0 0 [(0, .long l0)] [] V P := by
  unfold F_X12_toPixel at h
  refine sx_lload_n (pc := 0) dX12_toPixel_0 sx_m0 ?_
  refine sx_ldc2 (pc := 1) dX12_toPixel_1 k_X12_202 ?_
  refine sx_ladd (pc := 4) dX12_toPixel_4 ?_
  refine sx_ldc2 (pc := 5) dX12_toPixel_5 k_X12_204 ?_
  refine sx_land (pc := 8) dX12_toPixel_8 ?_
  refine sx_l2i (pc := 9) dX12_toPixel_9 ?_
  exact sv_iret (pc := 10) dX12_toPixel_10 rfl h hP
def ncX12_u1 : Nat := 70761541903394515418115900623154820469000181190663454114116049691
theorem kcX12_u1 : CK cX12_u1 ncX12_u1 27 := ⟨by decide +kernel, by decide +kernel⟩
theorem dX12_u1_0 : decode cX12_u1 0 = .ok (.iload_n 1, 1) := dl_o27 kcX12_u1 (by decide +kernel)
theorem dX12_u1_1 : decode cX12_u1 1 = .ok (.ifCond .lt 24, 3) := dl_o155 kcX12_u1 24 (by decide +kernel) (by decide +kernel)
theorem dX12_u1_4 : decode cX12_u1 4 = .ok (.iload_n 1, 1) := dl_o27 kcX12_u1 (by decide +kernel)
theorem dX12_u1_5 : decode cX12_u1 5 = .ok (.aload_n 0, 1) := dl_o42 kcX12_u1 (by decide +kernel)
theorem dX12_u1_6 : decode cX12_u1 6 = .ok (.getfield 206, 3) := dl_o180 kcX12_u1 (by decide +kernel)
theorem dX12_u1_9 : decode cX12_u1 9 = .ok (.if_icmp .ge 16, 3) := dl_o162 kcX12_u1 16 (by decide +kernel) (by decide +kernel)
theorem dX12_u1_12 : decode cX12_u1 12 = .ok (.aload_n 0, 1) := dl_o42 kcX12_u1 (by decide +kernel)
theorem dX12_u1_13 : decode cX12_u1 13 = .ok (.getfield 13, 3) := dl_o180 kcX12_u1 (by decide +kernel)
theorem dX12_u1_16 : decode cX12_u1 16 = .ok (.iload_n 1, 1) := dl_o27 kcX12_u1 (by decide +kernel)
theorem dX12_u1_17 : decode cX12_u1 17 = .ok (.baload, 1) := dl_o51 kcX12_u1 (by decide +kernel)
theorem dX12_u1_18 : decode cX12_u1 18 = .ok (.sipush 255, 3) := dl_o17 kcX12_u1 255 (by decide +kernel) (by decide +kernel)
theorem dX12_u1_21 : decode cX12_u1 21 = .ok (.iand, 1) := dl_o126 kcX12_u1 (by decide +kernel)
theorem dX12_u1_22 : decode cX12_u1 22 = .ok (.goto 4, 3) := dl_o167 kcX12_u1 4 (by decide +kernel) (by decide +kernel)
theorem dX12_u1_25 : decode cX12_u1 25 = .ok (.iconst 0, 1) := dl_o3 kcX12_u1 (by decide +kernel)
theorem dX12_u1_26 : decode cX12_u1 26 = .ok (.ireturn, 1) := dl_o172 kcX12_u1 (by decide +kernel)
def F_X12_u1 (l1 : Int32) (V : sv_V) : Option (Int32 × sv_V) := if l1 < 0 then (some ((0 : Int32), V)) else (if (V.1 146 3) ≤ l1 then (some ((0 : Int32), V)) else (if sx_in l1 12000 = true then some ((V.1 148 l1.toNatClampNeg) &&& (255 : Int32), V) else none))
set_option maxRecDepth 20000 in
theorem t_X12_u1 {g : sx_G} (hG : sx_Go g) {P : Option Value → sv_V → Prop} {r : Int32} {Vr : sv_V} (hP : P (some (.int r)) Vr) {l1 : Int32} {V : sv_V} (h : F_X12_u1 l1 V = some (r, Vr)) : sv_N g qX12_u1 0 0 [(0, .ref 146), (1, .int l1)] [] V P := by
  unfold F_X12_u1 at h
  refine sx_iload_n (pc := 0) dX12_u1_0 sx_m1 ?_
  refine sx_if_lt (pc := 1) (tgt := 25) dX12_u1_1 (by decide) (fun c1 => ?_) (fun c1 => ?_)
  · have h := sx_pos c1 h
    refine sx_iconst (pc := 25) (v := 0) dX12_u1_25 (by decide) ?_
    exact sv_iret (pc := 26) dX12_u1_26 rfl h hP
  · have h := sx_neg c1 h
    refine sx_iload_n (pc := 4) dX12_u1_4 sx_m1 ?_
    refine sx_aload_n (pc := 5) dX12_u1_5 sx_m0 ?_
    refine sv_getI (pc := 6) hG dX12_u1_6 f_12_206 lay_146 rfl ?_
    refine sx_icmp_ge (pc := 9) (tgt := 25) dX12_u1_9 (by decide) (fun c2 => ?_) (fun c2 => ?_)
    · have h := sx_pos c2 h
      refine sx_iconst (pc := 25) (v := 0) dX12_u1_25 (by decide) ?_
      exact sv_iret (pc := 26) dX12_u1_26 rfl h hP
    · have h := sx_neg c2 h
      refine sx_aload_n (pc := 12) dX12_u1_12 sx_m0 ?_
      refine sv_getA (pc := 13) hG dX12_u1_13 f_12_13 lay_146 rfl cr_146_2 ?_
      refine sx_iload_n (pc := 16) dX12_u1_16 sx_m1 ?_
      obtain ⟨g3, h⟩ := sx_grd h
      refine sv_bald (pc := 17) hG dX12_u1_17 lay_148 g3 ?_
      refine sx_sipush (pc := 18) (v := 255) dX12_u1_18 (by decide) ?_
      refine sx_iand (pc := 21) dX12_u1_21 ?_
      refine sx_goto (pc := 22) (tgt := 26) dX12_u1_22 (by decide) ?_
      exact sv_iret (pc := 26) dX12_u1_26 rfl h hP
def ncX12_u2 : Nat := 58699793498354559828936027153002533362474
theorem kcX12_u2 : CK cX12_u2 ncX12_u2 17 := ⟨by decide +kernel, by decide +kernel⟩
theorem dX12_u2_0 : decode cX12_u2 0 = .ok (.aload_n 0, 1) := dl_o42 kcX12_u2 (by decide +kernel)
theorem dX12_u2_1 : decode cX12_u2 1 = .ok (.iload_n 1, 1) := dl_o27 kcX12_u2 (by decide +kernel)
theorem dX12_u2_2 : decode cX12_u2 2 = .ok (.invokevirtual 209, 3) := dl_o182 kcX12_u2 (by decide +kernel)
theorem dX12_u2_5 : decode cX12_u2 5 = .ok (.bipush 8, 2) := dl_o16 kcX12_u2 8 (by decide +kernel) (by decide +kernel)
theorem dX12_u2_7 : decode cX12_u2 7 = .ok (.ishl, 1) := dl_o120 kcX12_u2 (by decide +kernel)
theorem dX12_u2_8 : decode cX12_u2 8 = .ok (.aload_n 0, 1) := dl_o42 kcX12_u2 (by decide +kernel)
theorem dX12_u2_9 : decode cX12_u2 9 = .ok (.iload_n 1, 1) := dl_o27 kcX12_u2 (by decide +kernel)
theorem dX12_u2_10 : decode cX12_u2 10 = .ok (.iconst 1, 1) := dl_o4 kcX12_u2 (by decide +kernel)
theorem dX12_u2_11 : decode cX12_u2 11 = .ok (.iadd, 1) := dl_o96 kcX12_u2 (by decide +kernel)
theorem dX12_u2_12 : decode cX12_u2 12 = .ok (.invokevirtual 209, 3) := dl_o182 kcX12_u2 (by decide +kernel)
theorem dX12_u2_15 : decode cX12_u2 15 = .ok (.ior, 1) := dl_o128 kcX12_u2 (by decide +kernel)
theorem dX12_u2_16 : decode cX12_u2 16 = .ok (.ireturn, 1) := dl_o172 kcX12_u2 (by decide +kernel)
def F_X12_u2 (l1 : Int32) (V : sv_V) : Option (Int32 × sv_V) := (F_X12_u1 l1 V).bind (fun (x3, V1) => (F_X12_u1 (l1 + (1 : Int32)) V1).bind (fun (x6, V4) => some ((x3 <<< ((8 : Int32) &&& 31)) ||| x6, V4)))
set_option maxRecDepth 20000 in
theorem t_X12_u2 {g : sx_G} (hG : sx_Go g) {P : Option Value → sv_V → Prop} {r : Int32} {Vr : sv_V} (hP : P (some (.int r)) Vr) {l1 : Int32} {V : sv_V} (h : F_X12_u2 l1 V = some (r, Vr)) : sv_N g qX12_u2 1 0 [(0, .ref 146), (1, .int l1)] [] V P := by
  unfold F_X12_u2 at h
  refine sx_aload_n (pc := 0) dX12_u2_0 sx_m0 ?_
  refine sx_iload_n (pc := 1) dX12_u2_1 sx_m1 ?_
  obtain ⟨⟨x3, V1⟩, g2, h⟩ := sx_bnd h
  refine sv_cV (pc := 2) (y := qX12_u1) (o := (some (.int x3))) (as := [.int l1]) (V1 := V1) hG dX12_u2_2 l_X12_209 y0X12_u1 yvX12_u1 rfl (Nat.le_of_ble_eq_true rfl) lay_146 kr_12 (by decide) (Nat.le_of_ble_eq_true rfl) rfl rfl rfl (t_X12_u1 hG ⟨rfl, rfl⟩ g2) ?_
  refine sx_bipush (pc := 5) (v := 8) dX12_u2_5 (by decide) ?_
  refine sx_ishl (pc := 7) dX12_u2_7 ?_
  refine sx_aload_n (pc := 8) dX12_u2_8 sx_m0 ?_
  refine sx_iload_n (pc := 9) dX12_u2_9 sx_m1 ?_
  refine sx_iconst (pc := 10) (v := 1) dX12_u2_10 (by decide) ?_
  refine sx_iadd (pc := 11) dX12_u2_11 ?_
  obtain ⟨⟨x6, V4⟩, g5, h⟩ := sx_bnd h
  refine sv_cV (pc := 12) (y := qX12_u1) (o := (some (.int x6))) (as := [.int (l1 + (1 : Int32))]) (V1 := V4) hG dX12_u2_12 l_X12_209 y0X12_u1 yvX12_u1 rfl (Nat.le_of_ble_eq_true rfl) lay_146 kr_12 (by decide) (Nat.le_of_ble_eq_true rfl) rfl rfl rfl (t_X12_u1 hG ⟨rfl, rfl⟩ g5) ?_
  refine sx_ior (pc := 15) dX12_u2_15 ?_
  exact sv_iret (pc := 16) dX12_u2_16 rfl h hP
def ncX12_s2 : Nat := 48576239043484458
theorem kcX12_s2 : CK cX12_s2 ncX12_s2 7 := ⟨by decide +kernel, by decide +kernel⟩
theorem dX12_s2_0 : decode cX12_s2 0 = .ok (.aload_n 0, 1) := dl_o42 kcX12_s2 (by decide +kernel)
theorem dX12_s2_1 : decode cX12_s2 1 = .ok (.iload_n 1, 1) := dl_o27 kcX12_s2 (by decide +kernel)
theorem dX12_s2_2 : decode cX12_s2 2 = .ok (.invokevirtual 213, 3) := dl_o182 kcX12_s2 (by decide +kernel)
theorem dX12_s2_5 : decode cX12_s2 5 = .ok (.i2s, 1) := dl_o147 kcX12_s2 (by decide +kernel)
theorem dX12_s2_6 : decode cX12_s2 6 = .ok (.ireturn, 1) := dl_o172 kcX12_s2 (by decide +kernel)
def F_X12_s2 (l1 : Int32) (V : sv_V) : Option (Int32 × sv_V) := (F_X12_u2 l1 V).bind (fun (x3, V1) => some (x3.toInt16.toInt32, V1))
set_option maxRecDepth 20000 in
theorem t_X12_s2 {g : sx_G} (hG : sx_Go g) {P : Option Value → sv_V → Prop} {r : Int32} {Vr : sv_V} (hP : P (some (.int r)) Vr) {l1 : Int32} {V : sv_V} (h : F_X12_s2 l1 V = some (r, Vr)) : sv_N g qX12_s2 2 0 [(0, .ref 146), (1, .int l1)] [] V P := by
  unfold F_X12_s2 at h
  refine sx_aload_n (pc := 0) dX12_s2_0 sx_m0 ?_
  refine sx_iload_n (pc := 1) dX12_s2_1 sx_m1 ?_
  obtain ⟨⟨x3, V1⟩, g2, h⟩ := sx_bnd h
  refine sv_cV (pc := 2) (y := qX12_u2) (o := (some (.int x3))) (as := [.int l1]) (V1 := V1) hG dX12_s2_2 l_X12_213 y0X12_u2 yvX12_u2 rfl (Nat.le_of_ble_eq_true rfl) lay_146 kr_12 (by decide) (Nat.le_of_ble_eq_true rfl) rfl rfl rfl (t_X12_u2 hG ⟨rfl, rfl⟩ g2) ?_
  refine sx_i2s (pc := 5) dX12_s2_5 ?_
  exact sv_iret (pc := 6) dX12_s2_6 rfl h hP
def ncX12_s1 : Nat := 48574022840359722
theorem kcX12_s1 : CK cX12_s1 ncX12_s1 7 := ⟨by decide +kernel, by decide +kernel⟩
theorem dX12_s1_0 : decode cX12_s1 0 = .ok (.aload_n 0, 1) := dl_o42 kcX12_s1 (by decide +kernel)
theorem dX12_s1_1 : decode cX12_s1 1 = .ok (.iload_n 1, 1) := dl_o27 kcX12_s1 (by decide +kernel)
theorem dX12_s1_2 : decode cX12_s1 2 = .ok (.invokevirtual 209, 3) := dl_o182 kcX12_s1 (by decide +kernel)
theorem dX12_s1_5 : decode cX12_s1 5 = .ok (.i2b, 1) := dl_o145 kcX12_s1 (by decide +kernel)
theorem dX12_s1_6 : decode cX12_s1 6 = .ok (.ireturn, 1) := dl_o172 kcX12_s1 (by decide +kernel)
def F_X12_s1 (l1 : Int32) (V : sv_V) : Option (Int32 × sv_V) := (F_X12_u1 l1 V).bind (fun (x3, V1) => some (x3.toInt8.toInt32, V1))
set_option maxRecDepth 20000 in
theorem t_X12_s1 {g : sx_G} (hG : sx_Go g) {P : Option Value → sv_V → Prop} {r : Int32} {Vr : sv_V} (hP : P (some (.int r)) Vr) {l1 : Int32} {V : sv_V} (h : F_X12_s1 l1 V = some (r, Vr)) : sv_N g qX12_s1 1 0 [(0, .ref 146), (1, .int l1)] [] V P := by
  unfold F_X12_s1 at h
  refine sx_aload_n (pc := 0) dX12_s1_0 sx_m0 ?_
  refine sx_iload_n (pc := 1) dX12_s1_1 sx_m1 ?_
  obtain ⟨⟨x3, V1⟩, g2, h⟩ := sx_bnd h
  refine sv_cV (pc := 2) (y := qX12_u1) (o := (some (.int x3))) (as := [.int l1]) (V1 := V1) hG dX12_s1_2 l_X12_209 y0X12_u1 yvX12_u1 rfl (Nat.le_of_ble_eq_true rfl) lay_146 kr_12 (by decide) (Nat.le_of_ble_eq_true rfl) rfl rfl rfl (t_X12_u1 hG ⟨rfl, rfl⟩ g2) ?_
  refine sx_i2b (pc := 5) dX12_s1_5 ?_
  exact sv_iret (pc := 6) dX12_s1_6 rfl h hP
def ncX12_u4 : Nat := 3869311944915057468337547893773458928204913450
theorem kcX12_u4 : CK cX12_u4 ncX12_u4 19 := ⟨by decide +kernel, by decide +kernel⟩
theorem dX12_u4_0 : decode cX12_u4 0 = .ok (.aload_n 0, 1) := dl_o42 kcX12_u4 (by decide +kernel)
theorem dX12_u4_1 : decode cX12_u4 1 = .ok (.iload_n 1, 1) := dl_o27 kcX12_u4 (by decide +kernel)
theorem dX12_u4_2 : decode cX12_u4 2 = .ok (.invokevirtual 213, 3) := dl_o182 kcX12_u4 (by decide +kernel)
theorem dX12_u4_5 : decode cX12_u4 5 = .ok (.i2l, 1) := dl_o133 kcX12_u4 (by decide +kernel)
theorem dX12_u4_6 : decode cX12_u4 6 = .ok (.bipush 16, 2) := dl_o16 kcX12_u4 16 (by decide +kernel) (by decide +kernel)
theorem dX12_u4_8 : decode cX12_u4 8 = .ok (.lshl, 1) := dl_o121 kcX12_u4 (by decide +kernel)
theorem dX12_u4_9 : decode cX12_u4 9 = .ok (.aload_n 0, 1) := dl_o42 kcX12_u4 (by decide +kernel)
theorem dX12_u4_10 : decode cX12_u4 10 = .ok (.iload_n 1, 1) := dl_o27 kcX12_u4 (by decide +kernel)
theorem dX12_u4_11 : decode cX12_u4 11 = .ok (.iconst 2, 1) := dl_o5 kcX12_u4 (by decide +kernel)
theorem dX12_u4_12 : decode cX12_u4 12 = .ok (.iadd, 1) := dl_o96 kcX12_u4 (by decide +kernel)
theorem dX12_u4_13 : decode cX12_u4 13 = .ok (.invokevirtual 213, 3) := dl_o182 kcX12_u4 (by decide +kernel)
theorem dX12_u4_16 : decode cX12_u4 16 = .ok (.i2l, 1) := dl_o133 kcX12_u4 (by decide +kernel)
theorem dX12_u4_17 : decode cX12_u4 17 = .ok (.lor, 1) := dl_o129 kcX12_u4 (by decide +kernel)
theorem dX12_u4_18 : decode cX12_u4 18 = .ok (.lreturn, 1) := dl_o173 kcX12_u4 (by decide +kernel)
def F_X12_u4 (l1 : Int32) (V : sv_V) : Option (Int64 × sv_V) := (F_X12_u2 l1 V).bind (fun (x3, V1) => (F_X12_u2 (l1 + (2 : Int32)) V1).bind (fun (x6, V4) => some ((x3.toInt64 <<< ((16 : Int32).toInt64 &&& 63)) ||| x6.toInt64, V4)))
set_option maxRecDepth 20000 in
theorem t_X12_u4 {g : sx_G} (hG : sx_Go g) {P : Option Value → sv_V → Prop} {r : Int64} {Vr : sv_V} (hP : P (some (.long r)) Vr) {l1 : Int32} {V : sv_V} (h : F_X12_u4 l1 V = some (r, Vr)) : sv_N g qX12_u4 2 0 [(0, .ref 146), (1, .int l1)] [] V P := by
  unfold F_X12_u4 at h
  refine sx_aload_n (pc := 0) dX12_u4_0 sx_m0 ?_
  refine sx_iload_n (pc := 1) dX12_u4_1 sx_m1 ?_
  obtain ⟨⟨x3, V1⟩, g2, h⟩ := sx_bnd h
  refine sv_cV (pc := 2) (y := qX12_u2) (o := (some (.int x3))) (as := [.int l1]) (V1 := V1) hG dX12_u4_2 l_X12_213 y0X12_u2 yvX12_u2 rfl (Nat.le_of_ble_eq_true rfl) lay_146 kr_12 (by decide) (Nat.le_of_ble_eq_true rfl) rfl rfl rfl (t_X12_u2 hG ⟨rfl, rfl⟩ g2) ?_
  refine sx_i2l (pc := 5) dX12_u4_5 ?_
  refine sx_bipush (pc := 6) (v := 16) dX12_u4_6 (by decide) ?_
  refine sx_lshl (pc := 8) dX12_u4_8 ?_
  refine sx_aload_n (pc := 9) dX12_u4_9 sx_m0 ?_
  refine sx_iload_n (pc := 10) dX12_u4_10 sx_m1 ?_
  refine sx_iconst (pc := 11) (v := 2) dX12_u4_11 (by decide) ?_
  refine sx_iadd (pc := 12) dX12_u4_12 ?_
  obtain ⟨⟨x6, V4⟩, g5, h⟩ := sx_bnd h
  refine sv_cV (pc := 13) (y := qX12_u2) (o := (some (.int x6))) (as := [.int (l1 + (2 : Int32))]) (V1 := V4) hG dX12_u4_13 l_X12_213 y0X12_u2 yvX12_u2 rfl (Nat.le_of_ble_eq_true rfl) lay_146 kr_12 (by decide) (Nat.le_of_ble_eq_true rfl) rfl rfl rfl (t_X12_u2 hG ⟨rfl, rfl⟩ g5) ?_
  refine sx_i2l (pc := 16) dX12_u4_16 ?_
  refine sx_lor (pc := 17) dX12_u4_17 ?_
  exact sv_lret (pc := 18) dX12_u4_18 rfl h hP
def ncX12_tableOf : Nat := 1187178934474550568010079217869556805817065389950471715155682938643561731
theorem kcX12_tableOf : CK cX12_tableOf ncX12_tableOf 30 := ⟨by decide +kernel, by decide +kernel⟩
theorem dX12_tableOf_0 : decode cX12_tableOf 0 = .ok (.iconst 0, 1) := dl_o3 kcX12_tableOf (by decide +kernel)
theorem dX12_tableOf_1 : decode cX12_tableOf 1 = .ok (.istore_n 2, 1) := dl_o61 kcX12_tableOf (by decide +kernel)
theorem dX12_tableOf_2 : decode cX12_tableOf 2 = .ok (.iload_n 2, 1) := dl_o28 kcX12_tableOf (by decide +kernel)
theorem dX12_tableOf_3 : decode cX12_tableOf 3 = .ok (.aload_n 0, 1) := dl_o42 kcX12_tableOf (by decide +kernel)
theorem dX12_tableOf_4 : decode cX12_tableOf 4 = .ok (.getfield 216, 3) := dl_o180 kcX12_tableOf (by decide +kernel)
theorem dX12_tableOf_7 : decode cX12_tableOf 7 = .ok (.if_icmp .ge 21, 3) := dl_o162 kcX12_tableOf 21 (by decide +kernel) (by decide +kernel)
theorem dX12_tableOf_10 : decode cX12_tableOf 10 = .ok (.aload_n 0, 1) := dl_o42 kcX12_tableOf (by decide +kernel)
theorem dX12_tableOf_11 : decode cX12_tableOf 11 = .ok (.getfield 16, 3) := dl_o180 kcX12_tableOf (by decide +kernel)
theorem dX12_tableOf_14 : decode cX12_tableOf 14 = .ok (.iload_n 2, 1) := dl_o28 kcX12_tableOf (by decide +kernel)
theorem dX12_tableOf_15 : decode cX12_tableOf 15 = .ok (.iaload, 1) := dl_o46 kcX12_tableOf (by decide +kernel)
theorem dX12_tableOf_16 : decode cX12_tableOf 16 = .ok (.iload_n 1, 1) := dl_o27 kcX12_tableOf (by decide +kernel)
theorem dX12_tableOf_17 : decode cX12_tableOf 17 = .ok (.if_icmp .ne 5, 3) := dl_o160 kcX12_tableOf 5 (by decide +kernel) (by decide +kernel)
theorem dX12_tableOf_20 : decode cX12_tableOf 20 = .ok (.iload_n 2, 1) := dl_o28 kcX12_tableOf (by decide +kernel)
theorem dX12_tableOf_21 : decode cX12_tableOf 21 = .ok (.ireturn, 1) := dl_o172 kcX12_tableOf (by decide +kernel)
theorem dX12_tableOf_22 : decode cX12_tableOf 22 = .ok (.iinc 2 1, 3) := by decide +kernel
theorem dX12_tableOf_25 : decode cX12_tableOf 25 = .ok (.goto (-23), 3) := dl_o167 kcX12_tableOf 65513 (by decide +kernel) (by decide +kernel)
theorem dX12_tableOf_28 : decode cX12_tableOf 28 = .ok (.iconst (-1), 1) := dl_o2 kcX12_tableOf (by decide +kernel)
theorem dX12_tableOf_29 : decode cX12_tableOf 29 = .ok (.ireturn, 1) := dl_o172 kcX12_tableOf (by decide +kernel)
def B_X12_tableOf_2 (N : Nat) (k2 : Int32 → Int32 → sv_V → Option (Int32 × sv_V)) (l1 : Int32) (l2 : Int32) (V : sv_V) : Option (Int32 × sv_V) := if (V.1 146 5) ≤ l2 then (some ((-1 : Int32), V)) else (if sx_in l2 16 = true then if (V.1 149 l2.toNatClampNeg) = l1 then (some (l2, V)) else (sx_let (l2 + 1) (fun x4 => k2 l1 x4 V)) else none)
set_option maxRecDepth 20000 in
theorem tB_X12_tableOf_2 {g : sx_G} (hG : sx_Go g) {P : Option Value → sv_V → Prop} {r : Int32} {Vr : sv_V} (hP : P (some (.int r)) Vr) {N : Nat} {k2 : Int32 → Int32 → sv_V → Option (Int32 × sv_V)} (hk2 : ∀ (l1 : Int32) (l2 : Int32) (V : sv_V), k2 l1 l2 V = some (r, Vr) → sv_N g qX12_tableOf 0 2 [(0, .ref 146), (1, .int l1), (2, .int l2)] [] V P) {l1 : Int32} {l2 : Int32} {V : sv_V} (h : B_X12_tableOf_2 N k2 l1 l2 V = some (r, Vr)) : sv_N g qX12_tableOf 0 2 [(0, .ref 146), (1, .int l1), (2, .int l2)] [] V P := by
  unfold B_X12_tableOf_2 at h
  refine sx_iload_n (pc := 2) dX12_tableOf_2 sx_m2 ?_
  refine sx_aload_n (pc := 3) dX12_tableOf_3 sx_m0 ?_
  refine sv_getI (pc := 4) hG dX12_tableOf_4 f_12_216 lay_146 rfl ?_
  refine sx_icmp_ge (pc := 7) (tgt := 28) dX12_tableOf_7 (by decide) (fun c1 => ?_) (fun c1 => ?_)
  · have h := sx_pos c1 h
    refine sx_iconst (pc := 28) (v := (-1)) dX12_tableOf_28 (by decide) ?_
    exact sv_iret (pc := 29) dX12_tableOf_29 rfl h hP
  · have h := sx_neg c1 h
    refine sx_aload_n (pc := 10) dX12_tableOf_10 sx_m0 ?_
    refine sv_getA (pc := 11) hG dX12_tableOf_11 f_12_16 lay_146 rfl cr_146_6 ?_
    refine sx_iload_n (pc := 14) dX12_tableOf_14 sx_m2 ?_
    obtain ⟨g2, h⟩ := sx_grd h
    refine sv_iald (pc := 15) hG dX12_tableOf_15 lay_149 g2 ?_
    refine sx_iload_n (pc := 16) dX12_tableOf_16 sx_m1 ?_
    refine sx_icmp_ne (pc := 17) (tgt := 22) dX12_tableOf_17 (by decide) (fun c3 => ?_) (fun c3 => ?_)
    · have h := sx_neg c3 h
      obtain ⟨x4, hx4⟩ : ∃ z : Int32, z = l2 + 1 := ⟨_, rfl⟩
      have h := sx_letE hx4 h
      refine sx_iinc (pc := 22) (v := x4) (lo' := [(2, .int x4), (0, .ref 146), (1, .int l1)]) dX12_tableOf_22 sx_m2 (by rw [hx4]; rfl) (by decide) rfl ?_
      refine sx_goto (pc := 25) (tgt := 2) dX12_tableOf_25 (by decide) ?_
      refine sx_wk (sx_s1 sx_m1 (sx_s1 sx_m2 (sx_s1 sx_m0 sx_s0))) ?_
      exact hk2 _ _ _ h
    · have h := sx_pos c3 h
      refine sx_iload_n (pc := 20) dX12_tableOf_20 sx_m2 ?_
      exact sv_iret (pc := 21) dX12_tableOf_21 rfl h hP
theorem tL_X12_tableOf_2 {g : sx_G} (hG : sx_Go g) {P : Option Value → sv_V → Prop} {r : Int32} {Vr : sv_V} (hP : P (some (.int r)) Vr) {N : Nat}   : ∀ (n : Nat) (l1 : Int32) (l2 : Int32) (V : sv_V), sx_lp3 (B_X12_tableOf_2 N ) n l1 l2 V = some (r, Vr) → sv_N g qX12_tableOf 0 2 [(0, .ref 146), (1, .int l1), (2, .int l2)] [] V P :=
  sx_lp3_ind (fun k0 ih _ _ V h => tB_X12_tableOf_2 hG hP ih h)
def F_X12_tableOf (N : Nat) (l1 : Int32) (V : sv_V) : Option (Int32 × sv_V) := sx_lp3 (B_X12_tableOf_2 N ) N l1 (0 : Int32) V
set_option maxRecDepth 20000 in
theorem t_X12_tableOf {g : sx_G} (hG : sx_Go g) {P : Option Value → sv_V → Prop} {r : Int32} {Vr : sv_V} (hP : P (some (.int r)) Vr) {N : Nat} {l1 : Int32} {V : sv_V} (h : F_X12_tableOf N l1 V = some (r, Vr)) : sv_N g qX12_tableOf 0 0 [(0, .ref 146), (1, .int l1)] [] V P := by
  unfold F_X12_tableOf at h
  refine sx_iconst (pc := 0) (v := 0) dX12_tableOf_0 (by decide) ?_
  refine sx_istore_n (pc := 1) (lo' := [(2, .int (0 : Int32)), (0, .ref 146), (1, .int l1)]) dX12_tableOf_1 (by decide) rfl ?_
  refine sx_wk (sx_s1 sx_m1 (sx_s1 sx_m2 (sx_s1 sx_m0 sx_s0))) ?_
  exact tL_X12_tableOf_2 hG hP  N _ _ _ h
def ncX12_beginOf : Nat := 16525279556277593270327365032628996005354097528083454762
theorem kcX12_beginOf : CK cX12_beginOf ncX12_beginOf 23 := ⟨by decide +kernel, by decide +kernel⟩
theorem dX12_beginOf_0 : decode cX12_beginOf 0 = .ok (.aload_n 0, 1) := dl_o42 kcX12_beginOf (by decide +kernel)
theorem dX12_beginOf_1 : decode cX12_beginOf 1 = .ok (.iload_n 1, 1) := dl_o27 kcX12_beginOf (by decide +kernel)
theorem dX12_beginOf_2 : decode cX12_beginOf 2 = .ok (.invokevirtual 219, 3) := dl_o182 kcX12_beginOf (by decide +kernel)
theorem dX12_beginOf_5 : decode cX12_beginOf 5 = .ok (.istore_n 2, 1) := dl_o61 kcX12_beginOf (by decide +kernel)
theorem dX12_beginOf_6 : decode cX12_beginOf 6 = .ok (.iload_n 2, 1) := dl_o28 kcX12_beginOf (by decide +kernel)
theorem dX12_beginOf_7 : decode cX12_beginOf 7 = .ok (.iconst (-1), 1) := dl_o2 kcX12_beginOf (by decide +kernel)
theorem dX12_beginOf_8 : decode cX12_beginOf 8 = .ok (.if_icmp .ne 7, 3) := dl_o160 kcX12_beginOf 7 (by decide +kernel) (by decide +kernel)
theorem dX12_beginOf_11 : decode cX12_beginOf 11 = .ok (.iconst 0, 1) := dl_o3 kcX12_beginOf (by decide +kernel)
theorem dX12_beginOf_12 : decode cX12_beginOf 12 = .ok (.goto 10, 3) := dl_o167 kcX12_beginOf 10 (by decide +kernel) (by decide +kernel)
theorem dX12_beginOf_15 : decode cX12_beginOf 15 = .ok (.aload_n 0, 1) := dl_o42 kcX12_beginOf (by decide +kernel)
theorem dX12_beginOf_16 : decode cX12_beginOf 16 = .ok (.getfield 24, 3) := dl_o180 kcX12_beginOf (by decide +kernel)
theorem dX12_beginOf_19 : decode cX12_beginOf 19 = .ok (.iload_n 2, 1) := dl_o28 kcX12_beginOf (by decide +kernel)
theorem dX12_beginOf_20 : decode cX12_beginOf 20 = .ok (.laload, 1) := dl_o47 kcX12_beginOf (by decide +kernel)
theorem dX12_beginOf_21 : decode cX12_beginOf 21 = .ok (.l2i, 1) := dl_o136 kcX12_beginOf (by decide +kernel)
theorem dX12_beginOf_22 : decode cX12_beginOf 22 = .ok (.ireturn, 1) := dl_o172 kcX12_beginOf (by decide +kernel)
def F_X12_beginOf (N : Nat) (l1 : Int32) (V : sv_V) : Option (Int32 × sv_V) := (F_X12_tableOf N l1 V).bind (fun (x3, V1) => if x3 = (-1 : Int32) then (some ((0 : Int32), V1)) else (if sx_in x3 16 = true then some ((V1.2.1 151 x3.toNatClampNeg).toInt32, V1) else none))
set_option maxRecDepth 20000 in
theorem t_X12_beginOf {g : sx_G} (hG : sx_Go g) {P : Option Value → sv_V → Prop} {r : Int32} {Vr : sv_V} (hP : P (some (.int r)) Vr) {N : Nat} {l1 : Int32} {V : sv_V} (h : F_X12_beginOf N l1 V = some (r, Vr)) : sv_N g qX12_beginOf 1 0 [(0, .ref 146), (1, .int l1)] [] V P := by
  unfold F_X12_beginOf at h
  refine sx_aload_n (pc := 0) dX12_beginOf_0 sx_m0 ?_
  refine sx_iload_n (pc := 1) dX12_beginOf_1 sx_m1 ?_
  obtain ⟨⟨x3, V1⟩, g2, h⟩ := sx_bnd h
  refine sv_cV (pc := 2) (y := qX12_tableOf) (o := (some (.int x3))) (as := [.int l1]) (V1 := V1) hG dX12_beginOf_2 l_X12_219 y0X12_tableOf yvX12_tableOf rfl (Nat.le_of_ble_eq_true rfl) lay_146 kr_12 (by decide) (Nat.le_of_ble_eq_true rfl) rfl rfl rfl (t_X12_tableOf hG ⟨rfl, rfl⟩ g2) ?_
  refine sx_istore_n (pc := 5) (lo' := [(2, .int x3), (0, .ref 146), (1, .int l1)]) dX12_beginOf_5 (by decide) rfl ?_
  refine sx_iload_n (pc := 6) dX12_beginOf_6 sx_m0 ?_
  refine sx_iconst (pc := 7) (v := (-1)) dX12_beginOf_7 (by decide) ?_
  refine sx_icmp_ne (pc := 8) (tgt := 15) dX12_beginOf_8 (by decide) (fun c4 => ?_) (fun c4 => ?_)
  · have h := sx_neg c4 h
    refine sx_aload_n (pc := 15) dX12_beginOf_15 sx_m1 ?_
    refine sv_getA (pc := 16) hG dX12_beginOf_16 f_12_24 lay_146 rfl cr_146_8 ?_
    refine sx_iload_n (pc := 19) dX12_beginOf_19 sx_m0 ?_
    obtain ⟨g5, h⟩ := sx_grd h
    refine sv_lald (pc := 20) hG dX12_beginOf_20 lay_151 g5 ?_
    refine sx_l2i (pc := 21) dX12_beginOf_21 ?_
    exact sv_iret (pc := 22) dX12_beginOf_22 rfl h hP
  · have h := sx_pos c4 h
    refine sx_iconst (pc := 11) (v := 0) dX12_beginOf_11 (by decide) ?_
    refine sx_goto (pc := 12) (tgt := 22) dX12_beginOf_12 (by decide) ?_
    exact sv_iret (pc := 22) dX12_beginOf_22 rfl h hP
def ncX12_lengthOf : Nat := 16525279556344495505922956902053603160172042612601396010
theorem kcX12_lengthOf : CK cX12_lengthOf ncX12_lengthOf 23 := ⟨by decide +kernel, by decide +kernel⟩
theorem dX12_lengthOf_0 : decode cX12_lengthOf 0 = .ok (.aload_n 0, 1) := dl_o42 kcX12_lengthOf (by decide +kernel)
theorem dX12_lengthOf_1 : decode cX12_lengthOf 1 = .ok (.iload_n 1, 1) := dl_o27 kcX12_lengthOf (by decide +kernel)
theorem dX12_lengthOf_2 : decode cX12_lengthOf 2 = .ok (.invokevirtual 219, 3) := dl_o182 kcX12_lengthOf (by decide +kernel)
theorem dX12_lengthOf_5 : decode cX12_lengthOf 5 = .ok (.istore_n 2, 1) := dl_o61 kcX12_lengthOf (by decide +kernel)
theorem dX12_lengthOf_6 : decode cX12_lengthOf 6 = .ok (.iload_n 2, 1) := dl_o28 kcX12_lengthOf (by decide +kernel)
theorem dX12_lengthOf_7 : decode cX12_lengthOf 7 = .ok (.iconst (-1), 1) := dl_o2 kcX12_lengthOf (by decide +kernel)
theorem dX12_lengthOf_8 : decode cX12_lengthOf 8 = .ok (.if_icmp .ne 7, 3) := dl_o160 kcX12_lengthOf 7 (by decide +kernel) (by decide +kernel)
theorem dX12_lengthOf_11 : decode cX12_lengthOf 11 = .ok (.iconst 0, 1) := dl_o3 kcX12_lengthOf (by decide +kernel)
theorem dX12_lengthOf_12 : decode cX12_lengthOf 12 = .ok (.goto 10, 3) := dl_o167 kcX12_lengthOf 10 (by decide +kernel) (by decide +kernel)
theorem dX12_lengthOf_15 : decode cX12_lengthOf 15 = .ok (.aload_n 0, 1) := dl_o42 kcX12_lengthOf (by decide +kernel)
theorem dX12_lengthOf_16 : decode cX12_lengthOf 16 = .ok (.getfield 27, 3) := dl_o180 kcX12_lengthOf (by decide +kernel)
theorem dX12_lengthOf_19 : decode cX12_lengthOf 19 = .ok (.iload_n 2, 1) := dl_o28 kcX12_lengthOf (by decide +kernel)
theorem dX12_lengthOf_20 : decode cX12_lengthOf 20 = .ok (.laload, 1) := dl_o47 kcX12_lengthOf (by decide +kernel)
theorem dX12_lengthOf_21 : decode cX12_lengthOf 21 = .ok (.l2i, 1) := dl_o136 kcX12_lengthOf (by decide +kernel)
theorem dX12_lengthOf_22 : decode cX12_lengthOf 22 = .ok (.ireturn, 1) := dl_o172 kcX12_lengthOf (by decide +kernel)
def F_X12_lengthOf (N : Nat) (l1 : Int32) (V : sv_V) : Option (Int32 × sv_V) := (F_X12_tableOf N l1 V).bind (fun (x3, V1) => if x3 = (-1 : Int32) then (some ((0 : Int32), V1)) else (if sx_in x3 16 = true then some ((V1.2.1 152 x3.toNatClampNeg).toInt32, V1) else none))
set_option maxRecDepth 20000 in
theorem t_X12_lengthOf {g : sx_G} (hG : sx_Go g) {P : Option Value → sv_V → Prop} {r : Int32} {Vr : sv_V} (hP : P (some (.int r)) Vr) {N : Nat} {l1 : Int32} {V : sv_V} (h : F_X12_lengthOf N l1 V = some (r, Vr)) : sv_N g qX12_lengthOf 1 0 [(0, .ref 146), (1, .int l1)] [] V P := by
  unfold F_X12_lengthOf at h
  refine sx_aload_n (pc := 0) dX12_lengthOf_0 sx_m0 ?_
  refine sx_iload_n (pc := 1) dX12_lengthOf_1 sx_m1 ?_
  obtain ⟨⟨x3, V1⟩, g2, h⟩ := sx_bnd h
  refine sv_cV (pc := 2) (y := qX12_tableOf) (o := (some (.int x3))) (as := [.int l1]) (V1 := V1) hG dX12_lengthOf_2 l_X12_219 y0X12_tableOf yvX12_tableOf rfl (Nat.le_of_ble_eq_true rfl) lay_146 kr_12 (by decide) (Nat.le_of_ble_eq_true rfl) rfl rfl rfl (t_X12_tableOf hG ⟨rfl, rfl⟩ g2) ?_
  refine sx_istore_n (pc := 5) (lo' := [(2, .int x3), (0, .ref 146), (1, .int l1)]) dX12_lengthOf_5 (by decide) rfl ?_
  refine sx_iload_n (pc := 6) dX12_lengthOf_6 sx_m0 ?_
  refine sx_iconst (pc := 7) (v := (-1)) dX12_lengthOf_7 (by decide) ?_
  refine sx_icmp_ne (pc := 8) (tgt := 15) dX12_lengthOf_8 (by decide) (fun c4 => ?_) (fun c4 => ?_)
  · have h := sx_neg c4 h
    refine sx_aload_n (pc := 15) dX12_lengthOf_15 sx_m1 ?_
    refine sv_getA (pc := 16) hG dX12_lengthOf_16 f_12_27 lay_146 rfl cr_146_9 ?_
    refine sx_iload_n (pc := 19) dX12_lengthOf_19 sx_m0 ?_
    obtain ⟨g5, h⟩ := sx_grd h
    refine sv_lald (pc := 20) hG dX12_lengthOf_20 lay_152 g5 ?_
    refine sx_l2i (pc := 21) dX12_lengthOf_21 ?_
    exact sv_iret (pc := 22) dX12_lengthOf_22 rfl h hP
  · have h := sx_pos c4 h
    refine sx_iconst (pc := 11) (v := 0) dX12_lengthOf_11 (by decide) ?_
    refine sx_goto (pc := 12) (tgt := 22) dX12_lengthOf_12 (by decide) ?_
    exact sv_iret (pc := 22) dX12_lengthOf_22 rfl h hP
def ncX12_sumOf : Nat := 1043194857266435014693220133613889235284548413987185113869859366114688429070136118696733584796644043109705434550808270481482046264793998244851552938821342416600148879352463898140577966729402866068623706160468426977191573657508656643
theorem kcX12_sumOf : CK cX12_sumOf ncX12_sumOf 96 := ⟨by decide +kernel, by decide +kernel⟩
theorem dX12_sumOf_0 : decode cX12_sumOf 0 = .ok (.iconst 0, 1) := dl_o3 kcX12_sumOf (by decide +kernel)
theorem dX12_sumOf_1 : decode cX12_sumOf 1 = .ok (.istore 4, 2) := dl_o54 kcX12_sumOf (by decide +kernel)
theorem dX12_sumOf_3 : decode cX12_sumOf 3 = .ok (.iload_n 1, 1) := dl_o27 kcX12_sumOf (by decide +kernel)
theorem dX12_sumOf_4 : decode cX12_sumOf 4 = .ok (.istore 5, 2) := dl_o54 kcX12_sumOf (by decide +kernel)
theorem dX12_sumOf_6 : decode cX12_sumOf 6 = .ok (.iload 5, 2) := dl_o21 kcX12_sumOf (by decide +kernel)
theorem dX12_sumOf_8 : decode cX12_sumOf 8 = .ok (.iload_n 2, 1) := dl_o28 kcX12_sumOf (by decide +kernel)
theorem dX12_sumOf_9 : decode cX12_sumOf 9 = .ok (.if_icmp .ge 84, 3) := dl_o162 kcX12_sumOf 84 (by decide +kernel) (by decide +kernel)
theorem dX12_sumOf_12 : decode cX12_sumOf 12 = .ok (.iconst 0, 1) := dl_o3 kcX12_sumOf (by decide +kernel)
theorem dX12_sumOf_13 : decode cX12_sumOf 13 = .ok (.istore 6, 2) := dl_o54 kcX12_sumOf (by decide +kernel)
theorem dX12_sumOf_15 : decode cX12_sumOf 15 = .ok (.iload 6, 2) := dl_o21 kcX12_sumOf (by decide +kernel)
theorem dX12_sumOf_17 : decode cX12_sumOf 17 = .ok (.iconst 4, 1) := dl_o7 kcX12_sumOf (by decide +kernel)
theorem dX12_sumOf_18 : decode cX12_sumOf 18 = .ok (.if_icmp .ge 69, 3) := dl_o162 kcX12_sumOf 69 (by decide +kernel) (by decide +kernel)
theorem dX12_sumOf_21 : decode cX12_sumOf 21 = .ok (.iload 5, 2) := dl_o21 kcX12_sumOf (by decide +kernel)
theorem dX12_sumOf_23 : decode cX12_sumOf 23 = .ok (.iload 6, 2) := dl_o21 kcX12_sumOf (by decide +kernel)
theorem dX12_sumOf_25 : decode cX12_sumOf 25 = .ok (.iadd, 1) := dl_o96 kcX12_sumOf (by decide +kernel)
theorem dX12_sumOf_26 : decode cX12_sumOf 26 = .ok (.istore 7, 2) := dl_o54 kcX12_sumOf (by decide +kernel)
theorem dX12_sumOf_28 : decode cX12_sumOf 28 = .ok (.iload 7, 2) := dl_o21 kcX12_sumOf (by decide +kernel)
theorem dX12_sumOf_30 : decode cX12_sumOf 30 = .ok (.iload_n 2, 1) := dl_o28 kcX12_sumOf (by decide +kernel)
theorem dX12_sumOf_31 : decode cX12_sumOf 31 = .ok (.if_icmp .ge 31, 3) := dl_o162 kcX12_sumOf 31 (by decide +kernel) (by decide +kernel)
theorem dX12_sumOf_34 : decode cX12_sumOf 34 = .ok (.iload_n 3, 1) := dl_o29 kcX12_sumOf (by decide +kernel)
theorem dX12_sumOf_35 : decode cX12_sumOf 35 = .ok (.iconst (-1), 1) := dl_o2 kcX12_sumOf (by decide +kernel)
theorem dX12_sumOf_36 : decode cX12_sumOf 36 = .ok (.if_icmp .eq 17, 3) := dl_o159 kcX12_sumOf 17 (by decide +kernel) (by decide +kernel)
theorem dX12_sumOf_39 : decode cX12_sumOf 39 = .ok (.iload 7, 2) := dl_o21 kcX12_sumOf (by decide +kernel)
theorem dX12_sumOf_41 : decode cX12_sumOf 41 = .ok (.iload_n 3, 1) := dl_o29 kcX12_sumOf (by decide +kernel)
theorem dX12_sumOf_42 : decode cX12_sumOf 42 = .ok (.if_icmp .lt 11, 3) := dl_o161 kcX12_sumOf 11 (by decide +kernel) (by decide +kernel)
theorem dX12_sumOf_45 : decode cX12_sumOf 45 = .ok (.iload 7, 2) := dl_o21 kcX12_sumOf (by decide +kernel)
theorem dX12_sumOf_47 : decode cX12_sumOf 47 = .ok (.iload_n 3, 1) := dl_o29 kcX12_sumOf (by decide +kernel)
theorem dX12_sumOf_48 : decode cX12_sumOf 48 = .ok (.iconst 4, 1) := dl_o7 kcX12_sumOf (by decide +kernel)
theorem dX12_sumOf_49 : decode cX12_sumOf 49 = .ok (.iadd, 1) := dl_o96 kcX12_sumOf (by decide +kernel)
theorem dX12_sumOf_50 : decode cX12_sumOf 50 = .ok (.if_icmp .lt 12, 3) := dl_o161 kcX12_sumOf 12 (by decide +kernel) (by decide +kernel)
theorem dX12_sumOf_53 : decode cX12_sumOf 53 = .ok (.aload_n 0, 1) := dl_o42 kcX12_sumOf (by decide +kernel)
theorem dX12_sumOf_54 : decode cX12_sumOf 54 = .ok (.iload 7, 2) := dl_o21 kcX12_sumOf (by decide +kernel)
theorem dX12_sumOf_56 : decode cX12_sumOf 56 = .ok (.invokevirtual 209, 3) := dl_o182 kcX12_sumOf (by decide +kernel)
theorem dX12_sumOf_59 : decode cX12_sumOf 59 = .ok (.goto 4, 3) := dl_o167 kcX12_sumOf 4 (by decide +kernel) (by decide +kernel)
theorem dX12_sumOf_62 : decode cX12_sumOf 62 = .ok (.iconst 0, 1) := dl_o3 kcX12_sumOf (by decide +kernel)
theorem dX12_sumOf_63 : decode cX12_sumOf 63 = .ok (.istore 8, 2) := dl_o54 kcX12_sumOf (by decide +kernel)
theorem dX12_sumOf_65 : decode cX12_sumOf 65 = .ok (.iload 4, 2) := dl_o21 kcX12_sumOf (by decide +kernel)
theorem dX12_sumOf_67 : decode cX12_sumOf 67 = .ok (.iload 8, 2) := dl_o21 kcX12_sumOf (by decide +kernel)
theorem dX12_sumOf_69 : decode cX12_sumOf 69 = .ok (.bipush 24, 2) := dl_o16 kcX12_sumOf 24 (by decide +kernel) (by decide +kernel)
theorem dX12_sumOf_71 : decode cX12_sumOf 71 = .ok (.bipush 8, 2) := dl_o16 kcX12_sumOf 8 (by decide +kernel) (by decide +kernel)
theorem dX12_sumOf_73 : decode cX12_sumOf 73 = .ok (.iload 6, 2) := dl_o21 kcX12_sumOf (by decide +kernel)
theorem dX12_sumOf_75 : decode cX12_sumOf 75 = .ok (.imul, 1) := dl_o104 kcX12_sumOf (by decide +kernel)
theorem dX12_sumOf_76 : decode cX12_sumOf 76 = .ok (.isub, 1) := dl_o100 kcX12_sumOf (by decide +kernel)
theorem dX12_sumOf_77 : decode cX12_sumOf 77 = .ok (.ishl, 1) := dl_o120 kcX12_sumOf (by decide +kernel)
theorem dX12_sumOf_78 : decode cX12_sumOf 78 = .ok (.iadd, 1) := dl_o96 kcX12_sumOf (by decide +kernel)
theorem dX12_sumOf_79 : decode cX12_sumOf 79 = .ok (.istore 4, 2) := dl_o54 kcX12_sumOf (by decide +kernel)
theorem dX12_sumOf_81 : decode cX12_sumOf 81 = .ok (.iinc 6 1, 3) := by decide +kernel
theorem dX12_sumOf_84 : decode cX12_sumOf 84 = .ok (.goto (-69), 3) := dl_o167 kcX12_sumOf 65467 (by decide +kernel) (by decide +kernel)
theorem dX12_sumOf_87 : decode cX12_sumOf 87 = .ok (.iinc 5 4, 3) := by decide +kernel
theorem dX12_sumOf_90 : decode cX12_sumOf 90 = .ok (.goto (-84), 3) := dl_o167 kcX12_sumOf 65452 (by decide +kernel) (by decide +kernel)
theorem dX12_sumOf_93 : decode cX12_sumOf 93 = .ok (.iload 4, 2) := dl_o21 kcX12_sumOf (by decide +kernel)
theorem dX12_sumOf_95 : decode cX12_sumOf 95 = .ok (.ireturn, 1) := dl_o172 kcX12_sumOf (by decide +kernel)
def B_X12_sumOf_63 (N : Nat) (k6 : Int32 → Int32 → Int32 → Int32 → sv_V → Option (Int32 × sv_V)) (k15 : Int32 → Int32 → Int32 → Int32 → Int32 → sv_V → Option (Int32 × sv_V)) (l2 : Int32) (l3 : Int32) (l4 : Int32) (l5 : Int32) (l6 : Int32) (s0 : Int32) (V : sv_V) : Option (Int32 × sv_V) := sx_let (l4 + (s0 <<< ((24 : Int32) - ((8 : Int32) * l6) &&& 31))) (fun x1 => sx_let (l6 + 1) (fun x2 => k15 l2 l3 x1 l5 x2 V))
set_option maxRecDepth 20000 in
theorem tB_X12_sumOf_63 {g : sx_G} (hG : sx_Go g) {P : Option Value → sv_V → Prop} {r : Int32} {Vr : sv_V} (hP : P (some (.int r)) Vr) {N : Nat} {k6 : Int32 → Int32 → Int32 → Int32 → sv_V → Option (Int32 × sv_V)} {k15 : Int32 → Int32 → Int32 → Int32 → Int32 → sv_V → Option (Int32 × sv_V)} (hk6 : ∀ (l2 : Int32) (l3 : Int32) (l4 : Int32) (l5 : Int32) (V : sv_V), k6 l2 l3 l4 l5 V = some (r, Vr) → sv_N g qX12_sumOf 1 6 [(0, .ref 146), (2, .int l2), (3, .int l3), (4, .int l4), (5, .int l5)] [] V P) (hk15 : ∀ (l2 : Int32) (l3 : Int32) (l4 : Int32) (l5 : Int32) (l6 : Int32) (V : sv_V), k15 l2 l3 l4 l5 l6 V = some (r, Vr) → sv_N g qX12_sumOf 1 15 [(0, .ref 146), (2, .int l2), (3, .int l3), (4, .int l4), (5, .int l5), (6, .int l6)] [] V P) {l2 : Int32} {l3 : Int32} {l4 : Int32} {l5 : Int32} {l6 : Int32} {s0 : Int32} {V : sv_V} (h : B_X12_sumOf_63 N k6 k15 l2 l3 l4 l5 l6 s0 V = some (r, Vr)) : sv_N g qX12_sumOf 1 63 [(0, .ref 146), (2, .int l2), (3, .int l3), (4, .int l4), (5, .int l5), (6, .int l6)] [.int s0] V P := by
  unfold B_X12_sumOf_63 at h
  refine sx_istore (pc := 63) (lo' := [(8, .int s0), (0, .ref 146), (2, .int l2), (3, .int l3), (4, .int l4), (5, .int l5), (6, .int l6)]) dX12_sumOf_63 (by decide) rfl ?_
  refine sx_iload (pc := 65) dX12_sumOf_65 sx_m4 ?_
  refine sx_iload (pc := 67) dX12_sumOf_67 sx_m0 ?_
  refine sx_bipush (pc := 69) (v := 24) dX12_sumOf_69 (by decide) ?_
  refine sx_bipush (pc := 71) (v := 8) dX12_sumOf_71 (by decide) ?_
  refine sx_iload (pc := 73) dX12_sumOf_73 sx_m6 ?_
  refine sx_imul (pc := 75) dX12_sumOf_75 ?_
  refine sx_isub (pc := 76) dX12_sumOf_76 ?_
  refine sx_ishl (pc := 77) dX12_sumOf_77 ?_
  refine sx_iadd (pc := 78) dX12_sumOf_78 ?_
  refine sv_tI (fun x1 hx1 => ?_)
  have h := sx_letE hx1 h
  refine sx_istore (pc := 79) (lo' := [(4, .int x1), (8, .int s0), (0, .ref 146), (2, .int l2), (3, .int l3), (5, .int l5), (6, .int l6)]) dX12_sumOf_79 (by decide) rfl ?_
  obtain ⟨x2, hx2⟩ : ∃ z : Int32, z = l6 + 1 := ⟨_, rfl⟩
  have h := sx_letE hx2 h
  refine sx_iinc (pc := 81) (v := x2) (lo' := [(6, .int x2), (4, .int x1), (8, .int s0), (0, .ref 146), (2, .int l2), (3, .int l3), (5, .int l5)]) dX12_sumOf_81 sx_m6 (by rw [hx2]; rfl) (by decide) rfl ?_
  refine sx_goto (pc := 84) (tgt := 15) dX12_sumOf_84 (by decide) ?_
  refine sx_wk (sx_s1 sx_m3 (sx_s1 sx_m4 (sx_s1 sx_m5 (sx_s1 sx_m1 (sx_s1 sx_m6 (sx_s1 sx_m0 sx_s0)))))) ?_
  exact hk15 _ _ _ _ _ _ h
def B_X12_sumOf_53 (N : Nat) (k6 : Int32 → Int32 → Int32 → Int32 → sv_V → Option (Int32 × sv_V)) (k15 : Int32 → Int32 → Int32 → Int32 → Int32 → sv_V → Option (Int32 × sv_V)) (l2 : Int32) (l3 : Int32) (l4 : Int32) (l5 : Int32) (l6 : Int32) (l7 : Int32) (V : sv_V) : Option (Int32 × sv_V) := (F_X12_u1 l7 V).bind (fun (x5, V3) => B_X12_sumOf_63 N k6 k15 l2 l3 l4 l5 l6 x5 V3)
set_option maxRecDepth 20000 in
theorem tB_X12_sumOf_53 {g : sx_G} (hG : sx_Go g) {P : Option Value → sv_V → Prop} {r : Int32} {Vr : sv_V} (hP : P (some (.int r)) Vr) {N : Nat} {k6 : Int32 → Int32 → Int32 → Int32 → sv_V → Option (Int32 × sv_V)} {k15 : Int32 → Int32 → Int32 → Int32 → Int32 → sv_V → Option (Int32 × sv_V)} (hk6 : ∀ (l2 : Int32) (l3 : Int32) (l4 : Int32) (l5 : Int32) (V : sv_V), k6 l2 l3 l4 l5 V = some (r, Vr) → sv_N g qX12_sumOf 1 6 [(0, .ref 146), (2, .int l2), (3, .int l3), (4, .int l4), (5, .int l5)] [] V P) (hk15 : ∀ (l2 : Int32) (l3 : Int32) (l4 : Int32) (l5 : Int32) (l6 : Int32) (V : sv_V), k15 l2 l3 l4 l5 l6 V = some (r, Vr) → sv_N g qX12_sumOf 1 15 [(0, .ref 146), (2, .int l2), (3, .int l3), (4, .int l4), (5, .int l5), (6, .int l6)] [] V P) {l2 : Int32} {l3 : Int32} {l4 : Int32} {l5 : Int32} {l6 : Int32} {l7 : Int32} {V : sv_V} (h : B_X12_sumOf_53 N k6 k15 l2 l3 l4 l5 l6 l7 V = some (r, Vr)) : sv_N g qX12_sumOf 1 53 [(0, .ref 146), (2, .int l2), (3, .int l3), (4, .int l4), (5, .int l5), (6, .int l6), (7, .int l7)] [] V P := by
  unfold B_X12_sumOf_53 at h
  refine sx_aload_n (pc := 53) dX12_sumOf_53 sx_m0 ?_
  refine sx_iload (pc := 54) dX12_sumOf_54 sx_m6 ?_
  obtain ⟨⟨x5, V3⟩, g4, h⟩ := sx_bnd h
  refine sv_cV (pc := 56) (y := qX12_u1) (o := (some (.int x5))) (as := [.int l7]) (V1 := V3) hG dX12_sumOf_56 l_X12_209 y0X12_u1 yvX12_u1 rfl (Nat.le_of_ble_eq_true rfl) lay_146 kr_12 (by decide) (Nat.le_of_ble_eq_true rfl) rfl rfl rfl (t_X12_u1 hG ⟨rfl, rfl⟩ g4) ?_
  refine sx_goto (pc := 59) (tgt := 63) dX12_sumOf_59 (by decide) ?_
  refine sx_wk (sx_s1 sx_m0 (sx_s1 sx_m1 (sx_s1 sx_m2 (sx_s1 sx_m3 (sx_s1 sx_m4 (sx_s1 sx_m5 sx_s0)))))) ?_
  exact tB_X12_sumOf_63 hG hP hk6 hk15 h
def B_X12_sumOf_62 (N : Nat) (k6 : Int32 → Int32 → Int32 → Int32 → sv_V → Option (Int32 × sv_V)) (k15 : Int32 → Int32 → Int32 → Int32 → Int32 → sv_V → Option (Int32 × sv_V)) (l2 : Int32) (l3 : Int32) (l4 : Int32) (l5 : Int32) (l6 : Int32) (V : sv_V) : Option (Int32 × sv_V) := B_X12_sumOf_63 N k6 k15 l2 l3 l4 l5 l6 (0 : Int32) V
set_option maxRecDepth 20000 in
theorem tB_X12_sumOf_62 {g : sx_G} (hG : sx_Go g) {P : Option Value → sv_V → Prop} {r : Int32} {Vr : sv_V} (hP : P (some (.int r)) Vr) {N : Nat} {k6 : Int32 → Int32 → Int32 → Int32 → sv_V → Option (Int32 × sv_V)} {k15 : Int32 → Int32 → Int32 → Int32 → Int32 → sv_V → Option (Int32 × sv_V)} (hk6 : ∀ (l2 : Int32) (l3 : Int32) (l4 : Int32) (l5 : Int32) (V : sv_V), k6 l2 l3 l4 l5 V = some (r, Vr) → sv_N g qX12_sumOf 1 6 [(0, .ref 146), (2, .int l2), (3, .int l3), (4, .int l4), (5, .int l5)] [] V P) (hk15 : ∀ (l2 : Int32) (l3 : Int32) (l4 : Int32) (l5 : Int32) (l6 : Int32) (V : sv_V), k15 l2 l3 l4 l5 l6 V = some (r, Vr) → sv_N g qX12_sumOf 1 15 [(0, .ref 146), (2, .int l2), (3, .int l3), (4, .int l4), (5, .int l5), (6, .int l6)] [] V P) {l2 : Int32} {l3 : Int32} {l4 : Int32} {l5 : Int32} {l6 : Int32} {V : sv_V} (h : B_X12_sumOf_62 N k6 k15 l2 l3 l4 l5 l6 V = some (r, Vr)) : sv_N g qX12_sumOf 1 62 [(0, .ref 146), (2, .int l2), (3, .int l3), (4, .int l4), (5, .int l5), (6, .int l6)] [] V P := by
  unfold B_X12_sumOf_62 at h
  refine sx_iconst (pc := 62) (v := 0) dX12_sumOf_62 (by decide) ?_
  refine sx_wk (sx_s1 sx_m0 (sx_s1 sx_m1 (sx_s1 sx_m2 (sx_s1 sx_m3 (sx_s1 sx_m4 (sx_s1 sx_m5 sx_s0)))))) ?_
  exact tB_X12_sumOf_63 hG hP hk6 hk15 h
def B_X12_sumOf_15 (N : Nat) (k6 : Int32 → Int32 → Int32 → Int32 → sv_V → Option (Int32 × sv_V)) (k15 : Int32 → Int32 → Int32 → Int32 → Int32 → sv_V → Option (Int32 × sv_V)) (l2 : Int32) (l3 : Int32) (l4 : Int32) (l5 : Int32) (l6 : Int32) (V : sv_V) : Option (Int32 × sv_V) := if (4 : Int32) ≤ l6 then (sx_let (l5 + 4) (fun x7 => k6 l2 l3 l4 x7 V)) else (sx_let (l5 + l6) (fun x8 => if l2 ≤ x8 then (B_X12_sumOf_62 N k6 k15 l2 l3 l4 l5 l6 V) else (if l3 = (-1 : Int32) then (B_X12_sumOf_53 N k6 k15 l2 l3 l4 l5 l6 x8 V) else (if x8 < l3 then (B_X12_sumOf_53 N k6 k15 l2 l3 l4 l5 l6 x8 V) else (if x8 < (l3 + (4 : Int32)) then (B_X12_sumOf_62 N k6 k15 l2 l3 l4 l5 l6 V) else (B_X12_sumOf_53 N k6 k15 l2 l3 l4 l5 l6 x8 V))))))
set_option maxRecDepth 20000 in
theorem tB_X12_sumOf_15 {g : sx_G} (hG : sx_Go g) {P : Option Value → sv_V → Prop} {r : Int32} {Vr : sv_V} (hP : P (some (.int r)) Vr) {N : Nat} {k6 : Int32 → Int32 → Int32 → Int32 → sv_V → Option (Int32 × sv_V)} {k15 : Int32 → Int32 → Int32 → Int32 → Int32 → sv_V → Option (Int32 × sv_V)} (hk6 : ∀ (l2 : Int32) (l3 : Int32) (l4 : Int32) (l5 : Int32) (V : sv_V), k6 l2 l3 l4 l5 V = some (r, Vr) → sv_N g qX12_sumOf 1 6 [(0, .ref 146), (2, .int l2), (3, .int l3), (4, .int l4), (5, .int l5)] [] V P) (hk15 : ∀ (l2 : Int32) (l3 : Int32) (l4 : Int32) (l5 : Int32) (l6 : Int32) (V : sv_V), k15 l2 l3 l4 l5 l6 V = some (r, Vr) → sv_N g qX12_sumOf 1 15 [(0, .ref 146), (2, .int l2), (3, .int l3), (4, .int l4), (5, .int l5), (6, .int l6)] [] V P) {l2 : Int32} {l3 : Int32} {l4 : Int32} {l5 : Int32} {l6 : Int32} {V : sv_V} (h : B_X12_sumOf_15 N k6 k15 l2 l3 l4 l5 l6 V = some (r, Vr)) : sv_N g qX12_sumOf 1 15 [(0, .ref 146), (2, .int l2), (3, .int l3), (4, .int l4), (5, .int l5), (6, .int l6)] [] V P := by
  unfold B_X12_sumOf_15 at h
  refine sx_iload (pc := 15) dX12_sumOf_15 sx_m5 ?_
  refine sx_iconst (pc := 17) (v := 4) dX12_sumOf_17 (by decide) ?_
  refine sx_icmp_ge (pc := 18) (tgt := 87) dX12_sumOf_18 (by decide) (fun c6 => ?_) (fun c6 => ?_)
  · have h := sx_pos c6 h
    obtain ⟨x7, hx7⟩ : ∃ z : Int32, z = l5 + 4 := ⟨_, rfl⟩
    have h := sx_letE hx7 h
    refine sx_iinc (pc := 87) (v := x7) (lo' := [(5, .int x7), (0, .ref 146), (2, .int l2), (3, .int l3), (4, .int l4), (6, .int l6)]) dX12_sumOf_87 sx_m4 (by rw [hx7]; rfl) (by decide) rfl ?_
    refine sx_goto (pc := 90) (tgt := 6) dX12_sumOf_90 (by decide) ?_
    refine sx_wk (sx_s1 sx_m1 (sx_s1 sx_m2 (sx_s1 sx_m3 (sx_s1 sx_m4 (sx_s1 sx_m0 sx_s0))))) ?_
    exact hk6 _ _ _ _ _ h
  · have h := sx_neg c6 h
    refine sx_iload (pc := 21) dX12_sumOf_21 sx_m4 ?_
    refine sx_iload (pc := 23) dX12_sumOf_23 sx_m5 ?_
    refine sx_iadd (pc := 25) dX12_sumOf_25 ?_
    refine sv_tI (fun x8 hx8 => ?_)
    have h := sx_letE hx8 h
    refine sx_istore (pc := 26) (lo' := [(7, .int x8), (0, .ref 146), (2, .int l2), (3, .int l3), (4, .int l4), (5, .int l5), (6, .int l6)]) dX12_sumOf_26 (by decide) rfl ?_
    refine sx_iload (pc := 28) dX12_sumOf_28 sx_m0 ?_
    refine sx_iload_n (pc := 30) dX12_sumOf_30 sx_m2 ?_
    refine sx_icmp_ge (pc := 31) (tgt := 62) dX12_sumOf_31 (by decide) (fun c9 => ?_) (fun c9 => ?_)
    · have h := sx_pos c9 h
      refine sx_wk (sx_s1 sx_m1 (sx_s1 sx_m2 (sx_s1 sx_m3 (sx_s1 sx_m4 (sx_s1 sx_m5 (sx_s1 sx_m6 sx_s0)))))) ?_
      exact tB_X12_sumOf_62 hG hP hk6 hk15 h
    · have h := sx_neg c9 h
      refine sx_iload_n (pc := 34) dX12_sumOf_34 sx_m3 ?_
      refine sx_iconst (pc := 35) (v := (-1)) dX12_sumOf_35 (by decide) ?_
      refine sx_icmp_eq (pc := 36) (tgt := 53) dX12_sumOf_36 (by decide) (fun c10 => ?_) (fun c10 => ?_)
      · have h := sx_pos c10 h
        refine sx_wk (sx_s1 sx_m1 (sx_s1 sx_m2 (sx_s1 sx_m3 (sx_s1 sx_m4 (sx_s1 sx_m5 (sx_s1 sx_m6 (sx_s1 sx_m0 sx_s0))))))) ?_
        exact tB_X12_sumOf_53 hG hP hk6 hk15 h
      · have h := sx_neg c10 h
        refine sx_iload (pc := 39) dX12_sumOf_39 sx_m0 ?_
        refine sx_iload_n (pc := 41) dX12_sumOf_41 sx_m3 ?_
        refine sx_icmp_lt (pc := 42) (tgt := 53) dX12_sumOf_42 (by decide) (fun c11 => ?_) (fun c11 => ?_)
        · have h := sx_pos c11 h
          refine sx_wk (sx_s1 sx_m1 (sx_s1 sx_m2 (sx_s1 sx_m3 (sx_s1 sx_m4 (sx_s1 sx_m5 (sx_s1 sx_m6 (sx_s1 sx_m0 sx_s0))))))) ?_
          exact tB_X12_sumOf_53 hG hP hk6 hk15 h
        · have h := sx_neg c11 h
          refine sx_iload (pc := 45) dX12_sumOf_45 sx_m0 ?_
          refine sx_iload_n (pc := 47) dX12_sumOf_47 sx_m3 ?_
          refine sx_iconst (pc := 48) (v := 4) dX12_sumOf_48 (by decide) ?_
          refine sx_iadd (pc := 49) dX12_sumOf_49 ?_
          refine sx_icmp_lt (pc := 50) (tgt := 62) dX12_sumOf_50 (by decide) (fun c12 => ?_) (fun c12 => ?_)
          · have h := sx_pos c12 h
            refine sx_wk (sx_s1 sx_m1 (sx_s1 sx_m2 (sx_s1 sx_m3 (sx_s1 sx_m4 (sx_s1 sx_m5 (sx_s1 sx_m6 sx_s0)))))) ?_
            exact tB_X12_sumOf_62 hG hP hk6 hk15 h
          · have h := sx_neg c12 h
            refine sx_wk (sx_s1 sx_m1 (sx_s1 sx_m2 (sx_s1 sx_m3 (sx_s1 sx_m4 (sx_s1 sx_m5 (sx_s1 sx_m6 (sx_s1 sx_m0 sx_s0))))))) ?_
            exact tB_X12_sumOf_53 hG hP hk6 hk15 h
theorem tL_X12_sumOf_15 {g : sx_G} (hG : sx_Go g) {P : Option Value → sv_V → Prop} {r : Int32} {Vr : sv_V} (hP : P (some (.int r)) Vr) {N : Nat} {k6 : Int32 → Int32 → Int32 → Int32 → sv_V → Option (Int32 × sv_V)} (hk6 : ∀ (l2 : Int32) (l3 : Int32) (l4 : Int32) (l5 : Int32) (V : sv_V), k6 l2 l3 l4 l5 V = some (r, Vr) → sv_N g qX12_sumOf 1 6 [(0, .ref 146), (2, .int l2), (3, .int l3), (4, .int l4), (5, .int l5)] [] V P) : ∀ (n : Nat) (l2 : Int32) (l3 : Int32) (l4 : Int32) (l5 : Int32) (l6 : Int32) (V : sv_V), sx_lp6 (B_X12_sumOf_15 N k6) n l2 l3 l4 l5 l6 V = some (r, Vr) → sv_N g qX12_sumOf 1 15 [(0, .ref 146), (2, .int l2), (3, .int l3), (4, .int l4), (5, .int l5), (6, .int l6)] [] V P :=
  sx_lp6_ind (fun k0 ih _ _ _ _ _ V h => tB_X12_sumOf_15 hG hP hk6 ih h)
def B_X12_sumOf_6 (N : Nat) (k6 : Int32 → Int32 → Int32 → Int32 → sv_V → Option (Int32 × sv_V)) (l2 : Int32) (l3 : Int32) (l4 : Int32) (l5 : Int32) (V : sv_V) : Option (Int32 × sv_V) := if l2 ≤ l5 then (some (l4, V)) else (sx_lp6 (B_X12_sumOf_15 N k6) N l2 l3 l4 l5 (0 : Int32) V)
set_option maxRecDepth 20000 in
theorem tB_X12_sumOf_6 {g : sx_G} (hG : sx_Go g) {P : Option Value → sv_V → Prop} {r : Int32} {Vr : sv_V} (hP : P (some (.int r)) Vr) {N : Nat} {k6 : Int32 → Int32 → Int32 → Int32 → sv_V → Option (Int32 × sv_V)} (hk6 : ∀ (l2 : Int32) (l3 : Int32) (l4 : Int32) (l5 : Int32) (V : sv_V), k6 l2 l3 l4 l5 V = some (r, Vr) → sv_N g qX12_sumOf 1 6 [(0, .ref 146), (2, .int l2), (3, .int l3), (4, .int l4), (5, .int l5)] [] V P) {l2 : Int32} {l3 : Int32} {l4 : Int32} {l5 : Int32} {V : sv_V} (h : B_X12_sumOf_6 N k6 l2 l3 l4 l5 V = some (r, Vr)) : sv_N g qX12_sumOf 1 6 [(0, .ref 146), (2, .int l2), (3, .int l3), (4, .int l4), (5, .int l5)] [] V P := by
  unfold B_X12_sumOf_6 at h
  refine sx_iload (pc := 6) dX12_sumOf_6 sx_m4 ?_
  refine sx_iload_n (pc := 8) dX12_sumOf_8 sx_m1 ?_
  refine sx_icmp_ge (pc := 9) (tgt := 93) dX12_sumOf_9 (by decide) (fun c13 => ?_) (fun c13 => ?_)
  · have h := sx_pos c13 h
    refine sx_iload (pc := 93) dX12_sumOf_93 sx_m3 ?_
    exact sv_iret (pc := 95) dX12_sumOf_95 rfl h hP
  · have h := sx_neg c13 h
    refine sx_iconst (pc := 12) (v := 0) dX12_sumOf_12 (by decide) ?_
    refine sx_istore (pc := 13) (lo' := [(6, .int (0 : Int32)), (0, .ref 146), (2, .int l2), (3, .int l3), (4, .int l4), (5, .int l5)]) dX12_sumOf_13 (by decide) rfl ?_
    refine sx_wk (sx_s1 sx_m1 (sx_s1 sx_m2 (sx_s1 sx_m3 (sx_s1 sx_m4 (sx_s1 sx_m5 (sx_s1 sx_m0 sx_s0)))))) ?_
    exact tL_X12_sumOf_15 hG hP hk6 N _ _ _ _ _ _ h
theorem tL_X12_sumOf_6 {g : sx_G} (hG : sx_Go g) {P : Option Value → sv_V → Prop} {r : Int32} {Vr : sv_V} (hP : P (some (.int r)) Vr) {N : Nat}   : ∀ (n : Nat) (l2 : Int32) (l3 : Int32) (l4 : Int32) (l5 : Int32) (V : sv_V), sx_lp5 (B_X12_sumOf_6 N ) n l2 l3 l4 l5 V = some (r, Vr) → sv_N g qX12_sumOf 1 6 [(0, .ref 146), (2, .int l2), (3, .int l3), (4, .int l4), (5, .int l5)] [] V P :=
  sx_lp5_ind (fun k0 ih _ _ _ _ V h => tB_X12_sumOf_6 hG hP ih h)
def F_X12_sumOf (N : Nat) (l1 : Int32) (l2 : Int32) (l3 : Int32) (V : sv_V) : Option (Int32 × sv_V) := sx_lp5 (B_X12_sumOf_6 N ) N l2 l3 (0 : Int32) l1 V
set_option maxRecDepth 20000 in
theorem t_X12_sumOf {g : sx_G} (hG : sx_Go g) {P : Option Value → sv_V → Prop} {r : Int32} {Vr : sv_V} (hP : P (some (.int r)) Vr) {N : Nat} {l1 : Int32} {l2 : Int32} {l3 : Int32} {V : sv_V} (h : F_X12_sumOf N l1 l2 l3 V = some (r, Vr)) : sv_N g qX12_sumOf 1 0 [(0, .ref 146), (1, .int l1), (2, .int l2), (3, .int l3)] [] V P := by
  unfold F_X12_sumOf at h
  refine sx_iconst (pc := 0) (v := 0) dX12_sumOf_0 (by decide) ?_
  refine sx_istore (pc := 1) (lo' := [(4, .int (0 : Int32)), (0, .ref 146), (1, .int l1), (2, .int l2), (3, .int l3)]) dX12_sumOf_1 (by decide) rfl ?_
  refine sx_iload_n (pc := 3) dX12_sumOf_3 sx_m2 ?_
  refine sx_istore (pc := 4) (lo' := [(5, .int l1), (4, .int (0 : Int32)), (0, .ref 146), (1, .int l1), (2, .int l2), (3, .int l3)]) dX12_sumOf_4 (by decide) rfl ?_
  refine sx_wk (sx_s1 sx_m2 (sx_s1 sx_m4 (sx_s1 sx_m5 (sx_s1 sx_m1 (sx_s1 sx_m0 sx_s0))))) ?_
  exact tL_X12_sumOf_6 hG hP  N _ _ _ _ _ h
def ncX12_directory : Nat := 116704628195165846881507189424708581890945734193596733244724538346616781165936682813973380337239209930080130365712076878126906537355934642348420285863398689493456710704854443942659192836181506324486768737372673666980086542876201849741190926039475759236748113460263402508996626182799390301473986184289887998065349640874994823721252866300492330836652672431784431982887330300235249207530308779983492185442312604533799037921380080458469052156843612838193205235762357659632575333140266
theorem kcX12_directory : CK cX12_directory ncX12_directory 199 := ⟨by decide +kernel, by decide +kernel⟩
theorem dX12_directory_0 : decode cX12_directory 0 = .ok (.aload_n 0, 1) := dl_o42 kcX12_directory (by decide +kernel)
theorem dX12_directory_1 : decode cX12_directory 1 = .ok (.iconst 4, 1) := dl_o7 kcX12_directory (by decide +kernel)
theorem dX12_directory_2 : decode cX12_directory 2 = .ok (.invokevirtual 213, 3) := dl_o182 kcX12_directory (by decide +kernel)
theorem dX12_directory_5 : decode cX12_directory 5 = .ok (.istore_n 1, 1) := dl_o60 kcX12_directory (by decide +kernel)
theorem dX12_directory_6 : decode cX12_directory 6 = .ok (.aload_n 0, 1) := dl_o42 kcX12_directory (by decide +kernel)
theorem dX12_directory_7 : decode cX12_directory 7 = .ok (.getfield 206, 3) := dl_o180 kcX12_directory (by decide +kernel)
theorem dX12_directory_10 : decode cX12_directory 10 = .ok (.bipush 12, 2) := dl_o16 kcX12_directory 12 (by decide +kernel) (by decide +kernel)
theorem dX12_directory_12 : decode cX12_directory 12 = .ok (.if_icmp .lt 41, 3) := dl_o161 kcX12_directory 41 (by decide +kernel) (by decide +kernel)
theorem dX12_directory_15 : decode cX12_directory 15 = .ok (.aload_n 0, 1) := dl_o42 kcX12_directory (by decide +kernel)
theorem dX12_directory_16 : decode cX12_directory 16 = .ok (.iconst 0, 1) := dl_o3 kcX12_directory (by decide +kernel)
theorem dX12_directory_17 : decode cX12_directory 17 = .ok (.invokevirtual 297, 3) := dl_o182 kcX12_directory (by decide +kernel)
theorem dX12_directory_20 : decode cX12_directory 20 = .ok (.ldc2_w 300, 3) := dl_o20 kcX12_directory (by decide +kernel)
theorem dX12_directory_23 : decode cX12_directory 23 = .ok (.lcmp, 1) := dl_o148 kcX12_directory (by decide +kernel)
theorem dX12_directory_24 : decode cX12_directory 24 = .ok (.ifCond .ne 29, 3) := dl_o154 kcX12_directory 29 (by decide +kernel) (by decide +kernel)
theorem dX12_directory_27 : decode cX12_directory 27 = .ok (.iload_n 1, 1) := dl_o27 kcX12_directory (by decide +kernel)
theorem dX12_directory_28 : decode cX12_directory 28 = .ok (.i2l, 1) := dl_o133 kcX12_directory (by decide +kernel)
theorem dX12_directory_29 : decode cX12_directory 29 = .ok (.lconst 1, 1) := dl_o10 kcX12_directory (by decide +kernel)
theorem dX12_directory_30 : decode cX12_directory 30 = .ok (.ldc2_w 232, 3) := dl_o20 kcX12_directory (by decide +kernel)
theorem dX12_directory_33 : decode cX12_directory 33 = .ok (.invokestatic 263, 3) := dl_o184 kcX12_directory (by decide +kernel)
theorem dX12_directory_36 : decode cX12_directory 36 = .ok (.ifCond .eq 17, 3) := dl_o153 kcX12_directory 17 (by decide +kernel) (by decide +kernel)
theorem dX12_directory_39 : decode cX12_directory 39 = .ok (.aload_n 0, 1) := dl_o42 kcX12_directory (by decide +kernel)
theorem dX12_directory_40 : decode cX12_directory 40 = .ok (.getfield 206, 3) := dl_o180 kcX12_directory (by decide +kernel)
theorem dX12_directory_43 : decode cX12_directory 43 = .ok (.bipush 12, 2) := dl_o16 kcX12_directory 12 (by decide +kernel) (by decide +kernel)
theorem dX12_directory_45 : decode cX12_directory 45 = .ok (.bipush 16, 2) := dl_o16 kcX12_directory 16 (by decide +kernel) (by decide +kernel)
theorem dX12_directory_47 : decode cX12_directory 47 = .ok (.iload_n 1, 1) := dl_o27 kcX12_directory (by decide +kernel)
theorem dX12_directory_48 : decode cX12_directory 48 = .ok (.imul, 1) := dl_o104 kcX12_directory (by decide +kernel)
theorem dX12_directory_49 : decode cX12_directory 49 = .ok (.iadd, 1) := dl_o96 kcX12_directory (by decide +kernel)
theorem dX12_directory_50 : decode cX12_directory 50 = .ok (.if_icmp .ge 5, 3) := dl_o162 kcX12_directory 5 (by decide +kernel) (by decide +kernel)
theorem dX12_directory_53 : decode cX12_directory 53 = .ok (.iconst 0, 1) := dl_o3 kcX12_directory (by decide +kernel)
theorem dX12_directory_54 : decode cX12_directory 54 = .ok (.ireturn, 1) := dl_o172 kcX12_directory (by decide +kernel)
theorem dX12_directory_55 : decode cX12_directory 55 = .ok (.iconst 0, 1) := dl_o3 kcX12_directory (by decide +kernel)
theorem dX12_directory_56 : decode cX12_directory 56 = .ok (.istore_n 2, 1) := dl_o61 kcX12_directory (by decide +kernel)
theorem dX12_directory_57 : decode cX12_directory 57 = .ok (.iconst 2, 1) := dl_o5 kcX12_directory (by decide +kernel)
theorem dX12_directory_58 : decode cX12_directory 58 = .ok (.iload_n 2, 1) := dl_o28 kcX12_directory (by decide +kernel)
theorem dX12_directory_59 : decode cX12_directory 59 = .ok (.ishl, 1) := dl_o120 kcX12_directory (by decide +kernel)
theorem dX12_directory_60 : decode cX12_directory 60 = .ok (.iload_n 1, 1) := dl_o27 kcX12_directory (by decide +kernel)
theorem dX12_directory_61 : decode cX12_directory 61 = .ok (.if_icmp .gt 9, 3) := dl_o163 kcX12_directory 9 (by decide +kernel) (by decide +kernel)
theorem dX12_directory_64 : decode cX12_directory 64 = .ok (.iinc 2 1, 3) := by decide +kernel
theorem dX12_directory_67 : decode cX12_directory 67 = .ok (.goto (-10), 3) := dl_o167 kcX12_directory 65526 (by decide +kernel) (by decide +kernel)
theorem dX12_directory_70 : decode cX12_directory 70 = .ok (.aload_n 0, 1) := dl_o42 kcX12_directory (by decide +kernel)
theorem dX12_directory_71 : decode cX12_directory 71 = .ok (.bipush 6, 2) := dl_o16 kcX12_directory 6 (by decide +kernel) (by decide +kernel)
theorem dX12_directory_73 : decode cX12_directory 73 = .ok (.invokevirtual 213, 3) := dl_o182 kcX12_directory (by decide +kernel)
theorem dX12_directory_76 : decode cX12_directory 76 = .ok (.bipush 16, 2) := dl_o16 kcX12_directory 16 (by decide +kernel) (by decide +kernel)
theorem dX12_directory_78 : decode cX12_directory 78 = .ok (.iload_n 2, 1) := dl_o28 kcX12_directory (by decide +kernel)
theorem dX12_directory_79 : decode cX12_directory 79 = .ok (.ishl, 1) := dl_o120 kcX12_directory (by decide +kernel)
theorem dX12_directory_80 : decode cX12_directory 80 = .ok (.if_icmp .ne 31, 3) := dl_o160 kcX12_directory 31 (by decide +kernel) (by decide +kernel)
theorem dX12_directory_83 : decode cX12_directory 83 = .ok (.aload_n 0, 1) := dl_o42 kcX12_directory (by decide +kernel)
theorem dX12_directory_84 : decode cX12_directory 84 = .ok (.bipush 8, 2) := dl_o16 kcX12_directory 8 (by decide +kernel) (by decide +kernel)
theorem dX12_directory_86 : decode cX12_directory 86 = .ok (.invokevirtual 213, 3) := dl_o182 kcX12_directory (by decide +kernel)
theorem dX12_directory_89 : decode cX12_directory 89 = .ok (.iload_n 2, 1) := dl_o28 kcX12_directory (by decide +kernel)
theorem dX12_directory_90 : decode cX12_directory 90 = .ok (.if_icmp .ne 21, 3) := dl_o160 kcX12_directory 21 (by decide +kernel) (by decide +kernel)
theorem dX12_directory_93 : decode cX12_directory 93 = .ok (.aload_n 0, 1) := dl_o42 kcX12_directory (by decide +kernel)
theorem dX12_directory_94 : decode cX12_directory 94 = .ok (.bipush 10, 2) := dl_o16 kcX12_directory 10 (by decide +kernel) (by decide +kernel)
theorem dX12_directory_96 : decode cX12_directory 96 = .ok (.invokevirtual 213, 3) := dl_o182 kcX12_directory (by decide +kernel)
theorem dX12_directory_99 : decode cX12_directory 99 = .ok (.bipush 16, 2) := dl_o16 kcX12_directory 16 (by decide +kernel) (by decide +kernel)
theorem dX12_directory_101 : decode cX12_directory 101 = .ok (.iload_n 1, 1) := dl_o27 kcX12_directory (by decide +kernel)
theorem dX12_directory_102 : decode cX12_directory 102 = .ok (.imul, 1) := dl_o104 kcX12_directory (by decide +kernel)
theorem dX12_directory_103 : decode cX12_directory 103 = .ok (.bipush 16, 2) := dl_o16 kcX12_directory 16 (by decide +kernel) (by decide +kernel)
theorem dX12_directory_105 : decode cX12_directory 105 = .ok (.iload_n 2, 1) := dl_o28 kcX12_directory (by decide +kernel)
theorem dX12_directory_106 : decode cX12_directory 106 = .ok (.ishl, 1) := dl_o120 kcX12_directory (by decide +kernel)
theorem dX12_directory_107 : decode cX12_directory 107 = .ok (.isub, 1) := dl_o100 kcX12_directory (by decide +kernel)
theorem dX12_directory_108 : decode cX12_directory 108 = .ok (.if_icmp .eq 5, 3) := dl_o159 kcX12_directory 5 (by decide +kernel) (by decide +kernel)
theorem dX12_directory_111 : decode cX12_directory 111 = .ok (.iconst 0, 1) := dl_o3 kcX12_directory (by decide +kernel)
theorem dX12_directory_112 : decode cX12_directory 112 = .ok (.ireturn, 1) := dl_o172 kcX12_directory (by decide +kernel)
theorem dX12_directory_113 : decode cX12_directory 113 = .ok (.aload_n 0, 1) := dl_o42 kcX12_directory (by decide +kernel)
theorem dX12_directory_114 : decode cX12_directory 114 = .ok (.iload_n 1, 1) := dl_o27 kcX12_directory (by decide +kernel)
theorem dX12_directory_115 : decode cX12_directory 115 = .ok (.putfield 216, 3) := dl_o181 kcX12_directory (by decide +kernel)
theorem dX12_directory_118 : decode cX12_directory 118 = .ok (.iconst 0, 1) := dl_o3 kcX12_directory (by decide +kernel)
theorem dX12_directory_119 : decode cX12_directory 119 = .ok (.istore_n 3, 1) := dl_o62 kcX12_directory (by decide +kernel)
theorem dX12_directory_120 : decode cX12_directory 120 = .ok (.iload_n 3, 1) := dl_o29 kcX12_directory (by decide +kernel)
theorem dX12_directory_121 : decode cX12_directory 121 = .ok (.iload_n 1, 1) := dl_o27 kcX12_directory (by decide +kernel)
theorem dX12_directory_122 : decode cX12_directory 122 = .ok (.if_icmp .ge 75, 3) := dl_o162 kcX12_directory 75 (by decide +kernel) (by decide +kernel)
theorem dX12_directory_125 : decode cX12_directory 125 = .ok (.bipush 12, 2) := dl_o16 kcX12_directory 12 (by decide +kernel) (by decide +kernel)
theorem dX12_directory_127 : decode cX12_directory 127 = .ok (.bipush 16, 2) := dl_o16 kcX12_directory 16 (by decide +kernel) (by decide +kernel)
theorem dX12_directory_129 : decode cX12_directory 129 = .ok (.iload_n 3, 1) := dl_o29 kcX12_directory (by decide +kernel)
theorem dX12_directory_130 : decode cX12_directory 130 = .ok (.imul, 1) := dl_o104 kcX12_directory (by decide +kernel)
theorem dX12_directory_131 : decode cX12_directory 131 = .ok (.iadd, 1) := dl_o96 kcX12_directory (by decide +kernel)
theorem dX12_directory_132 : decode cX12_directory 132 = .ok (.istore 4, 2) := dl_o54 kcX12_directory (by decide +kernel)
theorem dX12_directory_134 : decode cX12_directory 134 = .ok (.aload_n 0, 1) := dl_o42 kcX12_directory (by decide +kernel)
theorem dX12_directory_135 : decode cX12_directory 135 = .ok (.getfield 16, 3) := dl_o180 kcX12_directory (by decide +kernel)
theorem dX12_directory_138 : decode cX12_directory 138 = .ok (.iload_n 3, 1) := dl_o29 kcX12_directory (by decide +kernel)
theorem dX12_directory_139 : decode cX12_directory 139 = .ok (.aload_n 0, 1) := dl_o42 kcX12_directory (by decide +kernel)
theorem dX12_directory_140 : decode cX12_directory 140 = .ok (.iload 4, 2) := dl_o21 kcX12_directory (by decide +kernel)
theorem dX12_directory_142 : decode cX12_directory 142 = .ok (.invokevirtual 297, 3) := dl_o182 kcX12_directory (by decide +kernel)
theorem dX12_directory_145 : decode cX12_directory 145 = .ok (.l2i, 1) := dl_o136 kcX12_directory (by decide +kernel)
theorem dX12_directory_146 : decode cX12_directory 146 = .ok (.iastore, 1) := dl_o79 kcX12_directory (by decide +kernel)
theorem dX12_directory_147 : decode cX12_directory 147 = .ok (.aload_n 0, 1) := dl_o42 kcX12_directory (by decide +kernel)
theorem dX12_directory_148 : decode cX12_directory 148 = .ok (.getfield 20, 3) := dl_o180 kcX12_directory (by decide +kernel)
theorem dX12_directory_151 : decode cX12_directory 151 = .ok (.iload_n 3, 1) := dl_o29 kcX12_directory (by decide +kernel)
theorem dX12_directory_152 : decode cX12_directory 152 = .ok (.aload_n 0, 1) := dl_o42 kcX12_directory (by decide +kernel)
theorem dX12_directory_153 : decode cX12_directory 153 = .ok (.iload 4, 2) := dl_o21 kcX12_directory (by decide +kernel)
theorem dX12_directory_155 : decode cX12_directory 155 = .ok (.iconst 4, 1) := dl_o7 kcX12_directory (by decide +kernel)
theorem dX12_directory_156 : decode cX12_directory 156 = .ok (.iadd, 1) := dl_o96 kcX12_directory (by decide +kernel)
theorem dX12_directory_157 : decode cX12_directory 157 = .ok (.invokevirtual 297, 3) := dl_o182 kcX12_directory (by decide +kernel)
theorem dX12_directory_160 : decode cX12_directory 160 = .ok (.lastore, 1) := dl_o80 kcX12_directory (by decide +kernel)
theorem dX12_directory_161 : decode cX12_directory 161 = .ok (.aload_n 0, 1) := dl_o42 kcX12_directory (by decide +kernel)
theorem dX12_directory_162 : decode cX12_directory 162 = .ok (.getfield 24, 3) := dl_o180 kcX12_directory (by decide +kernel)
theorem dX12_directory_165 : decode cX12_directory 165 = .ok (.iload_n 3, 1) := dl_o29 kcX12_directory (by decide +kernel)
theorem dX12_directory_166 : decode cX12_directory 166 = .ok (.aload_n 0, 1) := dl_o42 kcX12_directory (by decide +kernel)
theorem dX12_directory_167 : decode cX12_directory 167 = .ok (.iload 4, 2) := dl_o21 kcX12_directory (by decide +kernel)
theorem dX12_directory_169 : decode cX12_directory 169 = .ok (.bipush 8, 2) := dl_o16 kcX12_directory 8 (by decide +kernel) (by decide +kernel)
theorem dX12_directory_171 : decode cX12_directory 171 = .ok (.iadd, 1) := dl_o96 kcX12_directory (by decide +kernel)
theorem dX12_directory_172 : decode cX12_directory 172 = .ok (.invokevirtual 297, 3) := dl_o182 kcX12_directory (by decide +kernel)
theorem dX12_directory_175 : decode cX12_directory 175 = .ok (.lastore, 1) := dl_o80 kcX12_directory (by decide +kernel)
theorem dX12_directory_176 : decode cX12_directory 176 = .ok (.aload_n 0, 1) := dl_o42 kcX12_directory (by decide +kernel)
theorem dX12_directory_177 : decode cX12_directory 177 = .ok (.getfield 27, 3) := dl_o180 kcX12_directory (by decide +kernel)
theorem dX12_directory_180 : decode cX12_directory 180 = .ok (.iload_n 3, 1) := dl_o29 kcX12_directory (by decide +kernel)
theorem dX12_directory_181 : decode cX12_directory 181 = .ok (.aload_n 0, 1) := dl_o42 kcX12_directory (by decide +kernel)
theorem dX12_directory_182 : decode cX12_directory 182 = .ok (.iload 4, 2) := dl_o21 kcX12_directory (by decide +kernel)
theorem dX12_directory_184 : decode cX12_directory 184 = .ok (.bipush 12, 2) := dl_o16 kcX12_directory 12 (by decide +kernel) (by decide +kernel)
theorem dX12_directory_186 : decode cX12_directory 186 = .ok (.iadd, 1) := dl_o96 kcX12_directory (by decide +kernel)
theorem dX12_directory_187 : decode cX12_directory 187 = .ok (.invokevirtual 297, 3) := dl_o182 kcX12_directory (by decide +kernel)
theorem dX12_directory_190 : decode cX12_directory 190 = .ok (.lastore, 1) := dl_o80 kcX12_directory (by decide +kernel)
theorem dX12_directory_191 : decode cX12_directory 191 = .ok (.iinc 3 1, 3) := by decide +kernel
theorem dX12_directory_194 : decode cX12_directory 194 = .ok (.goto (-74), 3) := dl_o167 kcX12_directory 65462 (by decide +kernel) (by decide +kernel)
theorem dX12_directory_197 : decode cX12_directory 197 = .ok (.iconst 1, 1) := dl_o4 kcX12_directory (by decide +kernel)
theorem dX12_directory_198 : decode cX12_directory 198 = .ok (.ireturn, 1) := dl_o172 kcX12_directory (by decide +kernel)
def B_X12_directory_120 (N : Nat) (k120 : Int32 → Int32 → sv_V → Option (Int32 × sv_V)) (l1 : Int32) (l3 : Int32) (V : sv_V) : Option (Int32 × sv_V) := if l1 ≤ l3 then (some ((1 : Int32), V)) else (sx_let ((12 : Int32) + ((16 : Int32) * l3)) (fun x2 => (F_X12_u4 x2 V).bind (fun (x5, V3) => if sx_in l3 16 = true then sx_let (sv_I V3 149 l3.toNatClampNeg x5.toInt32) (fun V7 => (F_X12_u4 (x2 + (4 : Int32)) V7).bind (fun (x10, V8) => if sx_in l3 16 = true then sx_let (sv_L V8 150 l3.toNatClampNeg x10) (fun V12 => (F_X12_u4 (x2 + (8 : Int32)) V12).bind (fun (x15, V13) => if sx_in l3 16 = true then sx_let (sv_L V13 151 l3.toNatClampNeg x15) (fun V17 => (F_X12_u4 (x2 + (12 : Int32)) V17).bind (fun (x20, V18) => if sx_in l3 16 = true then sx_let (sv_L V18 152 l3.toNatClampNeg x20) (fun V22 => sx_let (l3 + 1) (fun x23 => k120 l1 x23 V22)) else none)) else none)) else none)) else none)))
set_option maxRecDepth 20000 in
theorem tB_X12_directory_120 {g : sx_G} (hG : sx_Go g) {P : Option Value → sv_V → Prop} {r : Int32} {Vr : sv_V} (hP : P (some (.int r)) Vr) {N : Nat} {k120 : Int32 → Int32 → sv_V → Option (Int32 × sv_V)} (hk120 : ∀ (l1 : Int32) (l3 : Int32) (V : sv_V), k120 l1 l3 V = some (r, Vr) → sv_N g qX12_directory 3 120 [(0, .ref 146), (1, .int l1), (3, .int l3)] [] V P) {l1 : Int32} {l3 : Int32} {V : sv_V} (h : B_X12_directory_120 N k120 l1 l3 V = some (r, Vr)) : sv_N g qX12_directory 3 120 [(0, .ref 146), (1, .int l1), (3, .int l3)] [] V P := by
  unfold B_X12_directory_120 at h
  refine sx_iload_n (pc := 120) dX12_directory_120 sx_m2 ?_
  refine sx_iload_n (pc := 121) dX12_directory_121 sx_m1 ?_
  refine sx_icmp_ge (pc := 122) (tgt := 197) dX12_directory_122 (by decide) (fun c1 => ?_) (fun c1 => ?_)
  · have h := sx_pos c1 h
    refine sx_iconst (pc := 197) (v := 1) dX12_directory_197 (by decide) ?_
    exact sv_zret (pc := 198) dX12_directory_198 rfl rfl h hP
  · have h := sx_neg c1 h
    refine sx_bipush (pc := 125) (v := 12) dX12_directory_125 (by decide) ?_
    refine sx_bipush (pc := 127) (v := 16) dX12_directory_127 (by decide) ?_
    refine sx_iload_n (pc := 129) dX12_directory_129 sx_m2 ?_
    refine sx_imul (pc := 130) dX12_directory_130 ?_
    refine sx_iadd (pc := 131) dX12_directory_131 ?_
    refine sv_tI (fun x2 hx2 => ?_)
    have h := sx_letE hx2 h
    refine sx_istore (pc := 132) (lo' := [(4, .int x2), (0, .ref 146), (1, .int l1), (3, .int l3)]) dX12_directory_132 (by decide) rfl ?_
    refine sx_aload_n (pc := 134) dX12_directory_134 sx_m1 ?_
    refine sv_getA (pc := 135) hG dX12_directory_135 f_12_16 lay_146 rfl cr_146_6 ?_
    refine sx_iload_n (pc := 138) dX12_directory_138 sx_m3 ?_
    refine sx_aload_n (pc := 139) dX12_directory_139 sx_m1 ?_
    refine sx_iload (pc := 140) dX12_directory_140 sx_m0 ?_
    obtain ⟨⟨x5, V3⟩, g4, h⟩ := sx_bnd h
    refine sv_cV (pc := 142) (y := qX12_u4) (o := (some (.long x5))) (as := [.int x2]) (V1 := V3) hG dX12_directory_142 l_X12_297 y0X12_u4 yvX12_u4 rfl (Nat.le_of_ble_eq_true rfl) lay_146 kr_12 (by decide) (Nat.le_of_ble_eq_true rfl) rfl rfl rfl (t_X12_u4 hG ⟨rfl, rfl⟩ g4) ?_
    refine sx_l2i (pc := 145) dX12_directory_145 ?_
    obtain ⟨g6, h⟩ := sx_grd h
    obtain ⟨V7, hV7⟩ : ∃ z : sv_V, z = sv_I V3 149 l3.toNatClampNeg x5.toInt32 := ⟨_, rfl⟩
    have h := sx_letE hV7 h
    refine sv_iast (pc := 146) hG dX12_directory_146 lay_149 g6 hV7 ?_
    refine sx_aload_n (pc := 147) dX12_directory_147 sx_m1 ?_
    refine sv_getA (pc := 148) hG dX12_directory_148 f_12_20 lay_146 rfl cr_146_7 ?_
    refine sx_iload_n (pc := 151) dX12_directory_151 sx_m3 ?_
    refine sx_aload_n (pc := 152) dX12_directory_152 sx_m1 ?_
    refine sx_iload (pc := 153) dX12_directory_153 sx_m0 ?_
    refine sx_iconst (pc := 155) (v := 4) dX12_directory_155 (by decide) ?_
    refine sx_iadd (pc := 156) dX12_directory_156 ?_
    obtain ⟨⟨x10, V8⟩, g9, h⟩ := sx_bnd h
    refine sv_cV (pc := 157) (y := qX12_u4) (o := (some (.long x10))) (as := [.int (x2 + (4 : Int32))]) (V1 := V8) hG dX12_directory_157 l_X12_297 y0X12_u4 yvX12_u4 rfl (Nat.le_of_ble_eq_true rfl) lay_146 kr_12 (by decide) (Nat.le_of_ble_eq_true rfl) rfl rfl rfl (t_X12_u4 hG ⟨rfl, rfl⟩ g9) ?_
    obtain ⟨g11, h⟩ := sx_grd h
    obtain ⟨V12, hV12⟩ : ∃ z : sv_V, z = sv_L V8 150 l3.toNatClampNeg x10 := ⟨_, rfl⟩
    have h := sx_letE hV12 h
    refine sv_last (pc := 160) hG dX12_directory_160 lay_150 g11 hV12 ?_
    refine sx_aload_n (pc := 161) dX12_directory_161 sx_m1 ?_
    refine sv_getA (pc := 162) hG dX12_directory_162 f_12_24 lay_146 rfl cr_146_8 ?_
    refine sx_iload_n (pc := 165) dX12_directory_165 sx_m3 ?_
    refine sx_aload_n (pc := 166) dX12_directory_166 sx_m1 ?_
    refine sx_iload (pc := 167) dX12_directory_167 sx_m0 ?_
    refine sx_bipush (pc := 169) (v := 8) dX12_directory_169 (by decide) ?_
    refine sx_iadd (pc := 171) dX12_directory_171 ?_
    obtain ⟨⟨x15, V13⟩, g14, h⟩ := sx_bnd h
    refine sv_cV (pc := 172) (y := qX12_u4) (o := (some (.long x15))) (as := [.int (x2 + (8 : Int32))]) (V1 := V13) hG dX12_directory_172 l_X12_297 y0X12_u4 yvX12_u4 rfl (Nat.le_of_ble_eq_true rfl) lay_146 kr_12 (by decide) (Nat.le_of_ble_eq_true rfl) rfl rfl rfl (t_X12_u4 hG ⟨rfl, rfl⟩ g14) ?_
    obtain ⟨g16, h⟩ := sx_grd h
    obtain ⟨V17, hV17⟩ : ∃ z : sv_V, z = sv_L V13 151 l3.toNatClampNeg x15 := ⟨_, rfl⟩
    have h := sx_letE hV17 h
    refine sv_last (pc := 175) hG dX12_directory_175 lay_151 g16 hV17 ?_
    refine sx_aload_n (pc := 176) dX12_directory_176 sx_m1 ?_
    refine sv_getA (pc := 177) hG dX12_directory_177 f_12_27 lay_146 rfl cr_146_9 ?_
    refine sx_iload_n (pc := 180) dX12_directory_180 sx_m3 ?_
    refine sx_aload_n (pc := 181) dX12_directory_181 sx_m1 ?_
    refine sx_iload (pc := 182) dX12_directory_182 sx_m0 ?_
    refine sx_bipush (pc := 184) (v := 12) dX12_directory_184 (by decide) ?_
    refine sx_iadd (pc := 186) dX12_directory_186 ?_
    obtain ⟨⟨x20, V18⟩, g19, h⟩ := sx_bnd h
    refine sv_cV (pc := 187) (y := qX12_u4) (o := (some (.long x20))) (as := [.int (x2 + (12 : Int32))]) (V1 := V18) hG dX12_directory_187 l_X12_297 y0X12_u4 yvX12_u4 rfl (Nat.le_of_ble_eq_true rfl) lay_146 kr_12 (by decide) (Nat.le_of_ble_eq_true rfl) rfl rfl rfl (t_X12_u4 hG ⟨rfl, rfl⟩ g19) ?_
    obtain ⟨g21, h⟩ := sx_grd h
    obtain ⟨V22, hV22⟩ : ∃ z : sv_V, z = sv_L V18 152 l3.toNatClampNeg x20 := ⟨_, rfl⟩
    have h := sx_letE hV22 h
    refine sv_last (pc := 190) hG dX12_directory_190 lay_152 g21 hV22 ?_
    obtain ⟨x23, hx23⟩ : ∃ z : Int32, z = l3 + 1 := ⟨_, rfl⟩
    have h := sx_letE hx23 h
    refine sx_iinc (pc := 191) (v := x23) (lo' := [(3, .int x23), (4, .int x2), (0, .ref 146), (1, .int l1)]) dX12_directory_191 sx_m3 (by rw [hx23]; rfl) (by decide) rfl ?_
    refine sx_goto (pc := 194) (tgt := 120) dX12_directory_194 (by decide) ?_
    refine sx_wk (sx_s1 sx_m2 (sx_s1 sx_m3 (sx_s1 sx_m0 sx_s0))) ?_
    exact hk120 _ _ _ h
theorem tL_X12_directory_120 {g : sx_G} (hG : sx_Go g) {P : Option Value → sv_V → Prop} {r : Int32} {Vr : sv_V} (hP : P (some (.int r)) Vr) {N : Nat}   : ∀ (n : Nat) (l1 : Int32) (l3 : Int32) (V : sv_V), sx_lp3 (B_X12_directory_120 N ) n l1 l3 V = some (r, Vr) → sv_N g qX12_directory 3 120 [(0, .ref 146), (1, .int l1), (3, .int l3)] [] V P :=
  sx_lp3_ind (fun k0 ih _ _ V h => tB_X12_directory_120 hG hP ih h)
def B_X12_directory_57 (N : Nat) (k57 : Int32 → Int32 → sv_V → Option (Int32 × sv_V)) (l1 : Int32) (l2 : Int32) (V : sv_V) : Option (Int32 × sv_V) := if l1 < ((2 : Int32) <<< (l2 &&& 31)) then ((F_X12_u2 (6 : Int32) V).bind (fun (x27, V25) => if x27 = ((16 : Int32) <<< (l2 &&& 31)) then ((F_X12_u2 (8 : Int32) V25).bind (fun (x31, V29) => if x31 = l2 then ((F_X12_u2 (10 : Int32) V29).bind (fun (x35, V33) => if x35 = (((16 : Int32) * l1) - ((16 : Int32) <<< (l2 &&& 31))) then (sx_let (sv_I V33 146 5 l1) (fun V37 => sx_lp3 (B_X12_directory_120 N ) N l1 (0 : Int32) V37)) else (some ((0 : Int32), V33)))) else (some ((0 : Int32), V29)))) else (some ((0 : Int32), V25)))) else (sx_let (l2 + 1) (fun x38 => k57 l1 x38 V))
set_option maxRecDepth 20000 in
theorem tB_X12_directory_57 {g : sx_G} (hG : sx_Go g) {P : Option Value → sv_V → Prop} {r : Int32} {Vr : sv_V} (hP : P (some (.int r)) Vr) {N : Nat} {k57 : Int32 → Int32 → sv_V → Option (Int32 × sv_V)} (hk57 : ∀ (l1 : Int32) (l2 : Int32) (V : sv_V), k57 l1 l2 V = some (r, Vr) → sv_N g qX12_directory 3 57 [(0, .ref 146), (1, .int l1), (2, .int l2)] [] V P) {l1 : Int32} {l2 : Int32} {V : sv_V} (h : B_X12_directory_57 N k57 l1 l2 V = some (r, Vr)) : sv_N g qX12_directory 3 57 [(0, .ref 146), (1, .int l1), (2, .int l2)] [] V P := by
  unfold B_X12_directory_57 at h
  refine sx_iconst (pc := 57) (v := 2) dX12_directory_57 (by decide) ?_
  refine sx_iload_n (pc := 58) dX12_directory_58 sx_m2 ?_
  refine sx_ishl (pc := 59) dX12_directory_59 ?_
  refine sx_iload_n (pc := 60) dX12_directory_60 sx_m1 ?_
  refine sx_icmp_gt (pc := 61) (tgt := 70) dX12_directory_61 (by decide) (fun c24 => ?_) (fun c24 => ?_)
  · have h := sx_pos c24 h
    refine sx_aload_n (pc := 70) dX12_directory_70 sx_m0 ?_
    refine sx_bipush (pc := 71) (v := 6) dX12_directory_71 (by decide) ?_
    obtain ⟨⟨x27, V25⟩, g26, h⟩ := sx_bnd h
    refine sv_cV (pc := 73) (y := qX12_u2) (o := (some (.int x27))) (as := [.int (6 : Int32)]) (V1 := V25) hG dX12_directory_73 l_X12_213 y0X12_u2 yvX12_u2 rfl (Nat.le_of_ble_eq_true rfl) lay_146 kr_12 (by decide) (Nat.le_of_ble_eq_true rfl) rfl rfl rfl (t_X12_u2 hG ⟨rfl, rfl⟩ g26) ?_
    refine sx_bipush (pc := 76) (v := 16) dX12_directory_76 (by decide) ?_
    refine sx_iload_n (pc := 78) dX12_directory_78 sx_m2 ?_
    refine sx_ishl (pc := 79) dX12_directory_79 ?_
    refine sx_icmp_ne (pc := 80) (tgt := 111) dX12_directory_80 (by decide) (fun c28 => ?_) (fun c28 => ?_)
    · have h := sx_neg c28 h
      refine sx_iconst (pc := 111) (v := 0) dX12_directory_111 (by decide) ?_
      exact sv_zret (pc := 112) dX12_directory_112 rfl rfl h hP
    · have h := sx_pos c28 h
      refine sx_aload_n (pc := 83) dX12_directory_83 sx_m0 ?_
      refine sx_bipush (pc := 84) (v := 8) dX12_directory_84 (by decide) ?_
      obtain ⟨⟨x31, V29⟩, g30, h⟩ := sx_bnd h
      refine sv_cV (pc := 86) (y := qX12_u2) (o := (some (.int x31))) (as := [.int (8 : Int32)]) (V1 := V29) hG dX12_directory_86 l_X12_213 y0X12_u2 yvX12_u2 rfl (Nat.le_of_ble_eq_true rfl) lay_146 kr_12 (by decide) (Nat.le_of_ble_eq_true rfl) rfl rfl rfl (t_X12_u2 hG ⟨rfl, rfl⟩ g30) ?_
      refine sx_iload_n (pc := 89) dX12_directory_89 sx_m2 ?_
      refine sx_icmp_ne (pc := 90) (tgt := 111) dX12_directory_90 (by decide) (fun c32 => ?_) (fun c32 => ?_)
      · have h := sx_neg c32 h
        refine sx_iconst (pc := 111) (v := 0) dX12_directory_111 (by decide) ?_
        exact sv_zret (pc := 112) dX12_directory_112 rfl rfl h hP
      · have h := sx_pos c32 h
        refine sx_aload_n (pc := 93) dX12_directory_93 sx_m0 ?_
        refine sx_bipush (pc := 94) (v := 10) dX12_directory_94 (by decide) ?_
        obtain ⟨⟨x35, V33⟩, g34, h⟩ := sx_bnd h
        refine sv_cV (pc := 96) (y := qX12_u2) (o := (some (.int x35))) (as := [.int (10 : Int32)]) (V1 := V33) hG dX12_directory_96 l_X12_213 y0X12_u2 yvX12_u2 rfl (Nat.le_of_ble_eq_true rfl) lay_146 kr_12 (by decide) (Nat.le_of_ble_eq_true rfl) rfl rfl rfl (t_X12_u2 hG ⟨rfl, rfl⟩ g34) ?_
        refine sx_bipush (pc := 99) (v := 16) dX12_directory_99 (by decide) ?_
        refine sx_iload_n (pc := 101) dX12_directory_101 sx_m1 ?_
        refine sx_imul (pc := 102) dX12_directory_102 ?_
        refine sx_bipush (pc := 103) (v := 16) dX12_directory_103 (by decide) ?_
        refine sx_iload_n (pc := 105) dX12_directory_105 sx_m2 ?_
        refine sx_ishl (pc := 106) dX12_directory_106 ?_
        refine sx_isub (pc := 107) dX12_directory_107 ?_
        refine sx_icmp_eq (pc := 108) (tgt := 113) dX12_directory_108 (by decide) (fun c36 => ?_) (fun c36 => ?_)
        · have h := sx_pos c36 h
          refine sx_aload_n (pc := 113) dX12_directory_113 sx_m0 ?_
          refine sx_iload_n (pc := 114) dX12_directory_114 sx_m1 ?_
          obtain ⟨V37, hV37⟩ : ∃ z : sv_V, z = sv_I V33 146 5 l1 := ⟨_, rfl⟩
          have h := sx_letE hV37 h
          refine sv_putI (pc := 115) hG dX12_directory_115 f_12_216 lay_146 rfl hV37 ?_
          refine sx_iconst (pc := 118) (v := 0) dX12_directory_118 (by decide) ?_
          refine sx_istore_n (pc := 119) (lo' := [(3, .int (0 : Int32)), (0, .ref 146), (1, .int l1), (2, .int l2)]) dX12_directory_119 (by decide) rfl ?_
          refine sx_wk (sx_s1 sx_m1 (sx_s1 sx_m2 (sx_s1 sx_m0 sx_s0))) ?_
          exact tL_X12_directory_120 hG hP  N _ _ _ h
        · have h := sx_neg c36 h
          refine sx_iconst (pc := 111) (v := 0) dX12_directory_111 (by decide) ?_
          exact sv_zret (pc := 112) dX12_directory_112 rfl rfl h hP
  · have h := sx_neg c24 h
    obtain ⟨x38, hx38⟩ : ∃ z : Int32, z = l2 + 1 := ⟨_, rfl⟩
    have h := sx_letE hx38 h
    refine sx_iinc (pc := 64) (v := x38) (lo' := [(2, .int x38), (0, .ref 146), (1, .int l1)]) dX12_directory_64 sx_m2 (by rw [hx38]; rfl) (by decide) rfl ?_
    refine sx_goto (pc := 67) (tgt := 57) dX12_directory_67 (by decide) ?_
    refine sx_wk (sx_s1 sx_m1 (sx_s1 sx_m2 (sx_s1 sx_m0 sx_s0))) ?_
    exact hk57 _ _ _ h
theorem tL_X12_directory_57 {g : sx_G} (hG : sx_Go g) {P : Option Value → sv_V → Prop} {r : Int32} {Vr : sv_V} (hP : P (some (.int r)) Vr) {N : Nat}   : ∀ (n : Nat) (l1 : Int32) (l2 : Int32) (V : sv_V), sx_lp3 (B_X12_directory_57 N ) n l1 l2 V = some (r, Vr) → sv_N g qX12_directory 3 57 [(0, .ref 146), (1, .int l1), (2, .int l2)] [] V P :=
  sx_lp3_ind (fun k0 ih _ _ V h => tB_X12_directory_57 hG hP ih h)
def F_X12_directory (N : Nat)  (V : sv_V) : Option (Int32 × sv_V) := (F_X12_u2 (4 : Int32) V).bind (fun (x41, V39) => if (V39.1 146 3) < (12 : Int32) then (some ((0 : Int32), V39)) else ((F_X12_u4 (0 : Int32) V39).bind (fun (x45, V43) => if (lg_cmp x45 (65536 : Int64)) = 0 then ((F_X12_in x41.toInt64 (1 : Int64) (16 : Int64) V43).bind (fun (x49, V47) => if x49 = 0 then (some ((0 : Int32), V47)) else (if ((12 : Int32) + ((16 : Int32) * x41)) ≤ (V47.1 146 3) then (sx_lp3 (B_X12_directory_57 N ) N x41 (0 : Int32) V47) else (some ((0 : Int32), V47))))) else (some ((0 : Int32), V43)))))
set_option maxRecDepth 20000 in
theorem t_X12_directory {g : sx_G} (hG : sx_Go g) {P : Option Value → sv_V → Prop} {r : Int32} {Vr : sv_V} (hP : P (some (.int r)) Vr) {N : Nat}  {V : sv_V} (h : F_X12_directory N  V = some (r, Vr)) : sv_N g qX12_directory 3 0 [(0, .ref 146)] [] V P := by
  unfold F_X12_directory at h
  refine sx_aload_n (pc := 0) dX12_directory_0 sx_m0 ?_
  refine sx_iconst (pc := 1) (v := 4) dX12_directory_1 (by decide) ?_
  obtain ⟨⟨x41, V39⟩, g40, h⟩ := sx_bnd h
  refine sv_cV (pc := 2) (y := qX12_u2) (o := (some (.int x41))) (as := [.int (4 : Int32)]) (V1 := V39) hG dX12_directory_2 l_X12_213 y0X12_u2 yvX12_u2 rfl (Nat.le_of_ble_eq_true rfl) lay_146 kr_12 (by decide) (Nat.le_of_ble_eq_true rfl) rfl rfl rfl (t_X12_u2 hG ⟨rfl, rfl⟩ g40) ?_
  refine sx_istore_n (pc := 5) (lo' := [(1, .int x41), (0, .ref 146)]) dX12_directory_5 (by decide) rfl ?_
  refine sx_aload_n (pc := 6) dX12_directory_6 sx_m1 ?_
  refine sv_getI (pc := 7) hG dX12_directory_7 f_12_206 lay_146 rfl ?_
  refine sx_bipush (pc := 10) (v := 12) dX12_directory_10 (by decide) ?_
  refine sx_icmp_lt (pc := 12) (tgt := 53) dX12_directory_12 (by decide) (fun c42 => ?_) (fun c42 => ?_)
  · have h := sx_pos c42 h
    refine sx_iconst (pc := 53) (v := 0) dX12_directory_53 (by decide) ?_
    exact sv_zret (pc := 54) dX12_directory_54 rfl rfl h hP
  · have h := sx_neg c42 h
    refine sx_aload_n (pc := 15) dX12_directory_15 sx_m1 ?_
    refine sx_iconst (pc := 16) (v := 0) dX12_directory_16 (by decide) ?_
    obtain ⟨⟨x45, V43⟩, g44, h⟩ := sx_bnd h
    refine sv_cV (pc := 17) (y := qX12_u4) (o := (some (.long x45))) (as := [.int (0 : Int32)]) (V1 := V43) hG dX12_directory_17 l_X12_297 y0X12_u4 yvX12_u4 rfl (Nat.le_of_ble_eq_true rfl) lay_146 kr_12 (by decide) (Nat.le_of_ble_eq_true rfl) rfl rfl rfl (t_X12_u4 hG ⟨rfl, rfl⟩ g44) ?_
    refine sx_ldc2 (pc := 20) dX12_directory_20 k_X12_300 ?_
    refine sx_lcmp (pc := 23) dX12_directory_23 ?_
    refine sx_if_ne (pc := 24) (tgt := 53) dX12_directory_24 (by decide) (fun c46 => ?_) (fun c46 => ?_)
    · have h := sx_neg c46 h
      refine sx_iconst (pc := 53) (v := 0) dX12_directory_53 (by decide) ?_
      exact sv_zret (pc := 54) dX12_directory_54 rfl rfl h hP
    · have h := sx_pos c46 h
      refine sx_iload_n (pc := 27) dX12_directory_27 sx_m0 ?_
      refine sx_i2l (pc := 28) dX12_directory_28 ?_
      refine sx_lconst (pc := 29) (v := 1) dX12_directory_29 rfl ?_
      refine sx_ldc2 (pc := 30) dX12_directory_30 k_X12_232 ?_
      obtain ⟨⟨x49, V47⟩, g48, h⟩ := sx_bnd h
      refine sv_cS (pc := 33) (y := qX12_in) (o := (some (.int x49))) (as := [.long x41.toInt64, .long (1 : Int64), .long (16 : Int64)]) (V1 := V47) dX12_directory_33 l_X12_263 y0X12_in ysX12_in rfl (Nat.le_of_ble_eq_true rfl) (by decide) (Nat.le_of_ble_eq_true rfl) rfl rfl rfl (t_X12_in hG ⟨rfl, rfl⟩ g48) ?_
      refine sx_if_eq (pc := 36) (tgt := 53) dX12_directory_36 (by decide) (fun c50 => ?_) (fun c50 => ?_)
      · have h := sx_pos c50 h
        refine sx_iconst (pc := 53) (v := 0) dX12_directory_53 (by decide) ?_
        exact sv_zret (pc := 54) dX12_directory_54 rfl rfl h hP
      · have h := sx_neg c50 h
        refine sx_aload_n (pc := 39) dX12_directory_39 sx_m1 ?_
        refine sv_getI (pc := 40) hG dX12_directory_40 f_12_206 lay_146 rfl ?_
        refine sx_bipush (pc := 43) (v := 12) dX12_directory_43 (by decide) ?_
        refine sx_bipush (pc := 45) (v := 16) dX12_directory_45 (by decide) ?_
        refine sx_iload_n (pc := 47) dX12_directory_47 sx_m0 ?_
        refine sx_imul (pc := 48) dX12_directory_48 ?_
        refine sx_iadd (pc := 49) dX12_directory_49 ?_
        refine sx_icmp_ge (pc := 50) (tgt := 55) dX12_directory_50 (by decide) (fun c51 => ?_) (fun c51 => ?_)
        · have h := sx_pos c51 h
          refine sx_iconst (pc := 55) (v := 0) dX12_directory_55 (by decide) ?_
          refine sx_istore_n (pc := 56) (lo' := [(2, .int (0 : Int32)), (1, .int x41), (0, .ref 146)]) dX12_directory_56 (by decide) rfl ?_
          refine sx_wk (sx_s1 sx_m2 (sx_s1 sx_m1 (sx_s1 sx_m0 sx_s0))) ?_
          exact tL_X12_directory_57 hG hP  N _ _ _ h
        · have h := sx_neg c51 h
          refine sx_iconst (pc := 53) (v := 0) dX12_directory_53 (by decide) ?_
          exact sv_zret (pc := 54) dX12_directory_54 rfl rfl h hP
def ncX12_head : Nat := 12720753809192170651052720059592013570266500800892389198793939203871004224798550359722802234190686908562298496509971923191909293697056539534795220434228942392750220867913342946630948695839661048336440640217945719627408491627725840041566284623483775567185600651740477737548427154404193987392523871437531214710892635014291833593784163984924732627834841376517133697780164465194
theorem kcX12_head : CK cX12_head ncX12_head 155 := ⟨by decide +kernel, by decide +kernel⟩
theorem dX12_head_0 : decode cX12_head 0 = .ok (.aload_n 0, 1) := dl_o42 kcX12_head (by decide +kernel)
theorem dX12_head_1 : decode cX12_head 1 = .ok (.ldc 234, 2) := dl_o18 kcX12_head (by decide +kernel)
theorem dX12_head_3 : decode cX12_head 3 = .ok (.invokevirtual 251, 3) := dl_o182 kcX12_head (by decide +kernel)
theorem dX12_head_6 : decode cX12_head 6 = .ok (.istore_n 1, 1) := dl_o60 kcX12_head (by decide +kernel)
theorem dX12_head_7 : decode cX12_head 7 = .ok (.aload_n 0, 1) := dl_o42 kcX12_head (by decide +kernel)
theorem dX12_head_8 : decode cX12_head 8 = .ok (.aload_n 0, 1) := dl_o42 kcX12_head (by decide +kernel)
theorem dX12_head_9 : decode cX12_head 9 = .ok (.iload_n 1, 1) := dl_o27 kcX12_head (by decide +kernel)
theorem dX12_head_10 : decode cX12_head 10 = .ok (.bipush 18, 2) := dl_o16 kcX12_head 18 (by decide +kernel) (by decide +kernel)
theorem dX12_head_12 : decode cX12_head 12 = .ok (.iadd, 1) := dl_o96 kcX12_head (by decide +kernel)
theorem dX12_head_13 : decode cX12_head 13 = .ok (.invokevirtual 213, 3) := dl_o182 kcX12_head (by decide +kernel)
theorem dX12_head_16 : decode cX12_head 16 = .ok (.putfield 302, 3) := dl_o181 kcX12_head (by decide +kernel)
theorem dX12_head_19 : decode cX12_head 19 = .ok (.aload_n 0, 1) := dl_o42 kcX12_head (by decide +kernel)
theorem dX12_head_20 : decode cX12_head 20 = .ok (.aload_n 0, 1) := dl_o42 kcX12_head (by decide +kernel)
theorem dX12_head_21 : decode cX12_head 21 = .ok (.iload_n 1, 1) := dl_o27 kcX12_head (by decide +kernel)
theorem dX12_head_22 : decode cX12_head 22 = .ok (.bipush 50, 2) := dl_o16 kcX12_head 50 (by decide +kernel) (by decide +kernel)
theorem dX12_head_24 : decode cX12_head 24 = .ok (.iadd, 1) := dl_o96 kcX12_head (by decide +kernel)
theorem dX12_head_25 : decode cX12_head 25 = .ok (.invokevirtual 305, 3) := dl_o182 kcX12_head (by decide +kernel)
theorem dX12_head_28 : decode cX12_head 28 = .ok (.putfield 271, 3) := dl_o181 kcX12_head (by decide +kernel)
theorem dX12_head_31 : decode cX12_head 31 = .ok (.aload_n 0, 1) := dl_o42 kcX12_head (by decide +kernel)
theorem dX12_head_32 : decode cX12_head 32 = .ok (.ldc 234, 2) := dl_o18 kcX12_head (by decide +kernel)
theorem dX12_head_34 : decode cX12_head 34 = .ok (.invokevirtual 257, 3) := dl_o182 kcX12_head (by decide +kernel)
theorem dX12_head_37 : decode cX12_head 37 = .ok (.bipush 54, 2) := dl_o16 kcX12_head 54 (by decide +kernel) (by decide +kernel)
theorem dX12_head_39 : decode cX12_head 39 = .ok (.if_icmp .ne 75, 3) := dl_o160 kcX12_head 75 (by decide +kernel) (by decide +kernel)
theorem dX12_head_42 : decode cX12_head 42 = .ok (.aload_n 0, 1) := dl_o42 kcX12_head (by decide +kernel)
theorem dX12_head_43 : decode cX12_head 43 = .ok (.iload_n 1, 1) := dl_o27 kcX12_head (by decide +kernel)
theorem dX12_head_44 : decode cX12_head 44 = .ok (.invokevirtual 297, 3) := dl_o182 kcX12_head (by decide +kernel)
theorem dX12_head_47 : decode cX12_head 47 = .ok (.ldc2_w 300, 3) := dl_o20 kcX12_head (by decide +kernel)
theorem dX12_head_50 : decode cX12_head 50 = .ok (.lcmp, 1) := dl_o148 kcX12_head (by decide +kernel)
theorem dX12_head_51 : decode cX12_head 51 = .ok (.ifCond .ne 63, 3) := dl_o154 kcX12_head 63 (by decide +kernel) (by decide +kernel)
theorem dX12_head_54 : decode cX12_head 54 = .ok (.aload_n 0, 1) := dl_o42 kcX12_head (by decide +kernel)
theorem dX12_head_55 : decode cX12_head 55 = .ok (.iload_n 1, 1) := dl_o27 kcX12_head (by decide +kernel)
theorem dX12_head_56 : decode cX12_head 56 = .ok (.bipush 12, 2) := dl_o16 kcX12_head 12 (by decide +kernel) (by decide +kernel)
theorem dX12_head_58 : decode cX12_head 58 = .ok (.iadd, 1) := dl_o96 kcX12_head (by decide +kernel)
theorem dX12_head_59 : decode cX12_head 59 = .ok (.invokevirtual 297, 3) := dl_o182 kcX12_head (by decide +kernel)
theorem dX12_head_62 : decode cX12_head 62 = .ok (.ldc2_w 308, 3) := dl_o20 kcX12_head (by decide +kernel)
theorem dX12_head_65 : decode cX12_head 65 = .ok (.lcmp, 1) := dl_o148 kcX12_head (by decide +kernel)
theorem dX12_head_66 : decode cX12_head 66 = .ok (.ifCond .ne 48, 3) := dl_o154 kcX12_head 48 (by decide +kernel) (by decide +kernel)
theorem dX12_head_69 : decode cX12_head 69 = .ok (.aload_n 0, 1) := dl_o42 kcX12_head (by decide +kernel)
theorem dX12_head_70 : decode cX12_head 70 = .ok (.getfield 302, 3) := dl_o180 kcX12_head (by decide +kernel)
theorem dX12_head_73 : decode cX12_head 73 = .ok (.i2l, 1) := dl_o133 kcX12_head (by decide +kernel)
theorem dX12_head_74 : decode cX12_head 74 = .ok (.ldc2_w 232, 3) := dl_o20 kcX12_head (by decide +kernel)
theorem dX12_head_77 : decode cX12_head 77 = .ok (.ldc2_w 310, 3) := dl_o20 kcX12_head (by decide +kernel)
theorem dX12_head_80 : decode cX12_head 80 = .ok (.invokestatic 263, 3) := dl_o184 kcX12_head (by decide +kernel)
theorem dX12_head_83 : decode cX12_head 83 = .ok (.ifCond .eq 31, 3) := dl_o153 kcX12_head 31 (by decide +kernel) (by decide +kernel)
theorem dX12_head_86 : decode cX12_head 86 = .ok (.aload_n 0, 1) := dl_o42 kcX12_head (by decide +kernel)
theorem dX12_head_87 : decode cX12_head 87 = .ok (.getfield 271, 3) := dl_o180 kcX12_head (by decide +kernel)
theorem dX12_head_90 : decode cX12_head 90 = .ok (.i2l, 1) := dl_o133 kcX12_head (by decide +kernel)
theorem dX12_head_91 : decode cX12_head 91 = .ok (.lconst 0, 1) := dl_o9 kcX12_head (by decide +kernel)
theorem dX12_head_92 : decode cX12_head 92 = .ok (.lconst 1, 1) := dl_o10 kcX12_head (by decide +kernel)
theorem dX12_head_93 : decode cX12_head 93 = .ok (.invokestatic 263, 3) := dl_o184 kcX12_head (by decide +kernel)
theorem dX12_head_96 : decode cX12_head 96 = .ok (.ifCond .eq 18, 3) := dl_o153 kcX12_head 18 (by decide +kernel) (by decide +kernel)
theorem dX12_head_99 : decode cX12_head 99 = .ok (.aload_n 0, 1) := dl_o42 kcX12_head (by decide +kernel)
theorem dX12_head_100 : decode cX12_head 100 = .ok (.iload_n 1, 1) := dl_o27 kcX12_head (by decide +kernel)
theorem dX12_head_101 : decode cX12_head 101 = .ok (.bipush 52, 2) := dl_o16 kcX12_head 52 (by decide +kernel) (by decide +kernel)
theorem dX12_head_103 : decode cX12_head 103 = .ok (.iadd, 1) := dl_o96 kcX12_head (by decide +kernel)
theorem dX12_head_104 : decode cX12_head 104 = .ok (.invokevirtual 305, 3) := dl_o182 kcX12_head (by decide +kernel)
theorem dX12_head_107 : decode cX12_head 107 = .ok (.ifCond .ne 7, 3) := dl_o154 kcX12_head 7 (by decide +kernel) (by decide +kernel)
theorem dX12_head_110 : decode cX12_head 110 = .ok (.iconst 1, 1) := dl_o4 kcX12_head (by decide +kernel)
theorem dX12_head_111 : decode cX12_head 111 = .ok (.goto 4, 3) := dl_o167 kcX12_head 4 (by decide +kernel) (by decide +kernel)
theorem dX12_head_114 : decode cX12_head 114 = .ok (.iconst 0, 1) := dl_o3 kcX12_head (by decide +kernel)
theorem dX12_head_115 : decode cX12_head 115 = .ok (.istore_n 2, 1) := dl_o61 kcX12_head (by decide +kernel)
theorem dX12_head_116 : decode cX12_head 116 = .ok (.iload_n 2, 1) := dl_o28 kcX12_head (by decide +kernel)
theorem dX12_head_117 : decode cX12_head 117 = .ok (.ifCond .eq 36, 3) := dl_o153 kcX12_head 36 (by decide +kernel) (by decide +kernel)
theorem dX12_head_120 : decode cX12_head 120 = .ok (.aload_n 0, 1) := dl_o42 kcX12_head (by decide +kernel)
theorem dX12_head_121 : decode cX12_head 121 = .ok (.iconst 0, 1) := dl_o3 kcX12_head (by decide +kernel)
theorem dX12_head_122 : decode cX12_head 122 = .ok (.aload_n 0, 1) := dl_o42 kcX12_head (by decide +kernel)
theorem dX12_head_123 : decode cX12_head 123 = .ok (.getfield 206, 3) := dl_o180 kcX12_head (by decide +kernel)
theorem dX12_head_126 : decode cX12_head 126 = .ok (.iload_n 1, 1) := dl_o27 kcX12_head (by decide +kernel)
theorem dX12_head_127 : decode cX12_head 127 = .ok (.bipush 8, 2) := dl_o16 kcX12_head 8 (by decide +kernel) (by decide +kernel)
theorem dX12_head_129 : decode cX12_head 129 = .ok (.iadd, 1) := dl_o96 kcX12_head (by decide +kernel)
theorem dX12_head_130 : decode cX12_head 130 = .ok (.invokevirtual 235, 3) := dl_o182 kcX12_head (by decide +kernel)
theorem dX12_head_133 : decode cX12_head 133 = .ok (.aload_n 0, 1) := dl_o42 kcX12_head (by decide +kernel)
theorem dX12_head_134 : decode cX12_head 134 = .ok (.iload_n 1, 1) := dl_o27 kcX12_head (by decide +kernel)
theorem dX12_head_135 : decode cX12_head 135 = .ok (.bipush 8, 2) := dl_o16 kcX12_head 8 (by decide +kernel) (by decide +kernel)
theorem dX12_head_137 : decode cX12_head 137 = .ok (.iadd, 1) := dl_o96 kcX12_head (by decide +kernel)
theorem dX12_head_138 : decode cX12_head 138 = .ok (.invokevirtual 297, 3) := dl_o182 kcX12_head (by decide +kernel)
theorem dX12_head_141 : decode cX12_head 141 = .ok (.l2i, 1) := dl_o136 kcX12_head (by decide +kernel)
theorem dX12_head_142 : decode cX12_head 142 = .ok (.iadd, 1) := dl_o96 kcX12_head (by decide +kernel)
theorem dX12_head_143 : decode cX12_head 143 = .ok (.ldc_w 312, 3) := dl_o19 kcX12_head (by decide +kernel)
theorem dX12_head_146 : decode cX12_head 146 = .ok (.if_icmp .ne 7, 3) := dl_o160 kcX12_head 7 (by decide +kernel) (by decide +kernel)
theorem dX12_head_149 : decode cX12_head 149 = .ok (.iconst 1, 1) := dl_o4 kcX12_head (by decide +kernel)
theorem dX12_head_150 : decode cX12_head 150 = .ok (.goto 4, 3) := dl_o167 kcX12_head 4 (by decide +kernel) (by decide +kernel)
theorem dX12_head_153 : decode cX12_head 153 = .ok (.iconst 0, 1) := dl_o3 kcX12_head (by decide +kernel)
theorem dX12_head_154 : decode cX12_head 154 = .ok (.ireturn, 1) := dl_o172 kcX12_head (by decide +kernel)
def B_X12_head_115 (N : Nat)  (l1 : Int32) (s0 : Int32) (V : sv_V) : Option (Int32 × sv_V) := if s0 = 0 then (some ((0 : Int32), V)) else ((F_X12_sumOf N (0 : Int32) (V.1 146 3) (l1 + (8 : Int32)) V).bind (fun (x4, V2) => (F_X12_u4 (l1 + (8 : Int32)) V2).bind (fun (x7, V5) => if (x4 + x7.toInt32) = (-1313820742 : Int32) then (some ((1 : Int32), V5)) else (some ((0 : Int32), V5)))))
set_option maxRecDepth 20000 in
theorem tB_X12_head_115 {g : sx_G} (hG : sx_Go g) {P : Option Value → sv_V → Prop} {r : Int32} {Vr : sv_V} (hP : P (some (.int r)) Vr) {N : Nat}   {l1 : Int32} {s0 : Int32} {V : sv_V} (h : B_X12_head_115 N  l1 s0 V = some (r, Vr)) : sv_N g qX12_head 3 115 [(0, .ref 146), (1, .int l1)] [.int s0] V P := by
  unfold B_X12_head_115 at h
  refine sx_istore_n (pc := 115) (lo' := [(2, .int s0), (0, .ref 146), (1, .int l1)]) dX12_head_115 (by decide) rfl ?_
  refine sx_iload_n (pc := 116) dX12_head_116 sx_m0 ?_
  refine sx_if_eq (pc := 117) (tgt := 153) dX12_head_117 (by decide) (fun c1 => ?_) (fun c1 => ?_)
  · have h := sx_pos c1 h
    refine sx_iconst (pc := 153) (v := 0) dX12_head_153 (by decide) ?_
    exact sv_zret (pc := 154) dX12_head_154 rfl rfl h hP
  · have h := sx_neg c1 h
    refine sx_aload_n (pc := 120) dX12_head_120 sx_m1 ?_
    refine sx_iconst (pc := 121) (v := 0) dX12_head_121 (by decide) ?_
    refine sx_aload_n (pc := 122) dX12_head_122 sx_m1 ?_
    refine sv_getI (pc := 123) hG dX12_head_123 f_12_206 lay_146 rfl ?_
    refine sx_iload_n (pc := 126) dX12_head_126 sx_m2 ?_
    refine sx_bipush (pc := 127) (v := 8) dX12_head_127 (by decide) ?_
    refine sx_iadd (pc := 129) dX12_head_129 ?_
    obtain ⟨⟨x4, V2⟩, g3, h⟩ := sx_bnd h
    refine sv_cV (pc := 130) (y := qX12_sumOf) (o := (some (.int x4))) (as := [.int (0 : Int32), .int (V.1 146 3), .int (l1 + (8 : Int32))]) (V1 := V2) hG dX12_head_130 l_X12_235 y0X12_sumOf yvX12_sumOf rfl (Nat.le_of_ble_eq_true rfl) lay_146 kr_12 (by decide) (Nat.le_of_ble_eq_true rfl) rfl rfl rfl (t_X12_sumOf hG ⟨rfl, rfl⟩ g3) ?_
    refine sx_aload_n (pc := 133) dX12_head_133 sx_m1 ?_
    refine sx_iload_n (pc := 134) dX12_head_134 sx_m2 ?_
    refine sx_bipush (pc := 135) (v := 8) dX12_head_135 (by decide) ?_
    refine sx_iadd (pc := 137) dX12_head_137 ?_
    obtain ⟨⟨x7, V5⟩, g6, h⟩ := sx_bnd h
    refine sv_cV (pc := 138) (y := qX12_u4) (o := (some (.long x7))) (as := [.int (l1 + (8 : Int32))]) (V1 := V5) hG dX12_head_138 l_X12_297 y0X12_u4 yvX12_u4 rfl (Nat.le_of_ble_eq_true rfl) lay_146 kr_12 (by decide) (Nat.le_of_ble_eq_true rfl) rfl rfl rfl (t_X12_u4 hG ⟨rfl, rfl⟩ g6) ?_
    refine sx_l2i (pc := 141) dX12_head_141 ?_
    refine sx_iadd (pc := 142) dX12_head_142 ?_
    refine sx_ldcw (pc := 143) dX12_head_143 k_X12_312 ?_
    refine sx_icmp_ne (pc := 146) (tgt := 153) dX12_head_146 (by decide) (fun c8 => ?_) (fun c8 => ?_)
    · have h := sx_neg c8 h
      refine sx_iconst (pc := 153) (v := 0) dX12_head_153 (by decide) ?_
      exact sv_zret (pc := 154) dX12_head_154 rfl rfl h hP
    · have h := sx_pos c8 h
      refine sx_iconst (pc := 149) (v := 1) dX12_head_149 (by decide) ?_
      refine sx_goto (pc := 150) (tgt := 154) dX12_head_150 (by decide) ?_
      exact sv_zret (pc := 154) dX12_head_154 rfl rfl h hP
def B_X12_head_114 (N : Nat)  (l1 : Int32) (V : sv_V) : Option (Int32 × sv_V) := B_X12_head_115 N  l1 (0 : Int32) V
set_option maxRecDepth 20000 in
theorem tB_X12_head_114 {g : sx_G} (hG : sx_Go g) {P : Option Value → sv_V → Prop} {r : Int32} {Vr : sv_V} (hP : P (some (.int r)) Vr) {N : Nat}   {l1 : Int32} {V : sv_V} (h : B_X12_head_114 N  l1 V = some (r, Vr)) : sv_N g qX12_head 3 114 [(0, .ref 146), (1, .int l1)] [] V P := by
  unfold B_X12_head_114 at h
  refine sx_iconst (pc := 114) (v := 0) dX12_head_114 (by decide) ?_
  refine sx_wk (sx_s1 sx_m0 (sx_s1 sx_m1 sx_s0)) ?_
  exact tB_X12_head_115 hG hP  h
def F_X12_head (N : Nat)  (V : sv_V) : Option (Int32 × sv_V) := (F_X12_beginOf N (1751474532 : Int32) V).bind (fun (x11, V9) => (F_X12_u2 (x11 + (18 : Int32)) V9).bind (fun (x14, V12) => sx_let (sv_I V12 146 10 x14) (fun V15 => (F_X12_s2 (x11 + (50 : Int32)) V15).bind (fun (x18, V16) => sx_let (sv_I V16 146 11 x18) (fun V19 => (F_X12_lengthOf N (1751474532 : Int32) V19).bind (fun (x22, V20) => if x22 = (54 : Int32) then ((F_X12_u4 x11 V20).bind (fun (x26, V24) => if (lg_cmp x26 (65536 : Int64)) = 0 then ((F_X12_u4 (x11 + (12 : Int32)) V24).bind (fun (x30, V28) => if (lg_cmp x30 (1594834165 : Int64)) = 0 then ((F_X12_in ((V28.1 146 10).toInt64) (16 : Int64) (16384 : Int64) V28).bind (fun (x34, V32) => if x34 = 0 then (B_X12_head_114 N  x11 V32) else ((F_X12_in ((V32.1 146 11).toInt64) (0 : Int64) (1 : Int64) V32).bind (fun (x38, V36) => if x38 = 0 then (B_X12_head_114 N  x11 V36) else ((F_X12_s2 (x11 + (52 : Int32)) V36).bind (fun (x42, V40) => if x42 = 0 then (B_X12_head_115 N  x11 (1 : Int32) V40) else (B_X12_head_114 N  x11 V40))))))) else (B_X12_head_114 N  x11 V28))) else (B_X12_head_114 N  x11 V24))) else (B_X12_head_114 N  x11 V20)))))))
set_option maxRecDepth 20000 in
theorem t_X12_head {g : sx_G} (hG : sx_Go g) {P : Option Value → sv_V → Prop} {r : Int32} {Vr : sv_V} (hP : P (some (.int r)) Vr) {N : Nat}  {V : sv_V} (h : F_X12_head N  V = some (r, Vr)) : sv_N g qX12_head 3 0 [(0, .ref 146)] [] V P := by
  unfold F_X12_head at h
  refine sx_aload_n (pc := 0) dX12_head_0 sx_m0 ?_
  refine sx_ldc (pc := 1) dX12_head_1 k_X12_234 ?_
  obtain ⟨⟨x11, V9⟩, g10, h⟩ := sx_bnd h
  refine sv_cV (pc := 3) (y := qX12_beginOf) (o := (some (.int x11))) (as := [.int (1751474532 : Int32)]) (V1 := V9) hG dX12_head_3 l_X12_251 y0X12_beginOf yvX12_beginOf rfl (Nat.le_of_ble_eq_true rfl) lay_146 kr_12 (by decide) (Nat.le_of_ble_eq_true rfl) rfl rfl rfl (t_X12_beginOf hG ⟨rfl, rfl⟩ g10) ?_
  refine sx_istore_n (pc := 6) (lo' := [(1, .int x11), (0, .ref 146)]) dX12_head_6 (by decide) rfl ?_
  refine sx_aload_n (pc := 7) dX12_head_7 sx_m1 ?_
  refine sx_aload_n (pc := 8) dX12_head_8 sx_m1 ?_
  refine sx_iload_n (pc := 9) dX12_head_9 sx_m0 ?_
  refine sx_bipush (pc := 10) (v := 18) dX12_head_10 (by decide) ?_
  refine sx_iadd (pc := 12) dX12_head_12 ?_
  obtain ⟨⟨x14, V12⟩, g13, h⟩ := sx_bnd h
  refine sv_cV (pc := 13) (y := qX12_u2) (o := (some (.int x14))) (as := [.int (x11 + (18 : Int32))]) (V1 := V12) hG dX12_head_13 l_X12_213 y0X12_u2 yvX12_u2 rfl (Nat.le_of_ble_eq_true rfl) lay_146 kr_12 (by decide) (Nat.le_of_ble_eq_true rfl) rfl rfl rfl (t_X12_u2 hG ⟨rfl, rfl⟩ g13) ?_
  obtain ⟨V15, hV15⟩ : ∃ z : sv_V, z = sv_I V12 146 10 x14 := ⟨_, rfl⟩
  have h := sx_letE hV15 h
  refine sv_putI (pc := 16) hG dX12_head_16 f_12_302 lay_146 rfl hV15 ?_
  refine sx_aload_n (pc := 19) dX12_head_19 sx_m1 ?_
  refine sx_aload_n (pc := 20) dX12_head_20 sx_m1 ?_
  refine sx_iload_n (pc := 21) dX12_head_21 sx_m0 ?_
  refine sx_bipush (pc := 22) (v := 50) dX12_head_22 (by decide) ?_
  refine sx_iadd (pc := 24) dX12_head_24 ?_
  obtain ⟨⟨x18, V16⟩, g17, h⟩ := sx_bnd h
  refine sv_cV (pc := 25) (y := qX12_s2) (o := (some (.int x18))) (as := [.int (x11 + (50 : Int32))]) (V1 := V16) hG dX12_head_25 l_X12_305 y0X12_s2 yvX12_s2 rfl (Nat.le_of_ble_eq_true rfl) lay_146 kr_12 (by decide) (Nat.le_of_ble_eq_true rfl) rfl rfl rfl (t_X12_s2 hG ⟨rfl, rfl⟩ g17) ?_
  obtain ⟨V19, hV19⟩ : ∃ z : sv_V, z = sv_I V16 146 11 x18 := ⟨_, rfl⟩
  have h := sx_letE hV19 h
  refine sv_putI (pc := 28) hG dX12_head_28 f_12_271 lay_146 rfl hV19 ?_
  refine sx_aload_n (pc := 31) dX12_head_31 sx_m1 ?_
  refine sx_ldc (pc := 32) dX12_head_32 k_X12_234 ?_
  obtain ⟨⟨x22, V20⟩, g21, h⟩ := sx_bnd h
  refine sv_cV (pc := 34) (y := qX12_lengthOf) (o := (some (.int x22))) (as := [.int (1751474532 : Int32)]) (V1 := V20) hG dX12_head_34 l_X12_257 y0X12_lengthOf yvX12_lengthOf rfl (Nat.le_of_ble_eq_true rfl) lay_146 kr_12 (by decide) (Nat.le_of_ble_eq_true rfl) rfl rfl rfl (t_X12_lengthOf hG ⟨rfl, rfl⟩ g21) ?_
  refine sx_bipush (pc := 37) (v := 54) dX12_head_37 (by decide) ?_
  refine sx_icmp_ne (pc := 39) (tgt := 114) dX12_head_39 (by decide) (fun c23 => ?_) (fun c23 => ?_)
  · have h := sx_neg c23 h
    refine sx_wk (sx_s1 sx_m1 (sx_s1 sx_m0 sx_s0)) ?_
    exact tB_X12_head_114 hG hP  h
  · have h := sx_pos c23 h
    refine sx_aload_n (pc := 42) dX12_head_42 sx_m1 ?_
    refine sx_iload_n (pc := 43) dX12_head_43 sx_m0 ?_
    obtain ⟨⟨x26, V24⟩, g25, h⟩ := sx_bnd h
    refine sv_cV (pc := 44) (y := qX12_u4) (o := (some (.long x26))) (as := [.int x11]) (V1 := V24) hG dX12_head_44 l_X12_297 y0X12_u4 yvX12_u4 rfl (Nat.le_of_ble_eq_true rfl) lay_146 kr_12 (by decide) (Nat.le_of_ble_eq_true rfl) rfl rfl rfl (t_X12_u4 hG ⟨rfl, rfl⟩ g25) ?_
    refine sx_ldc2 (pc := 47) dX12_head_47 k_X12_300 ?_
    refine sx_lcmp (pc := 50) dX12_head_50 ?_
    refine sx_if_ne (pc := 51) (tgt := 114) dX12_head_51 (by decide) (fun c27 => ?_) (fun c27 => ?_)
    · have h := sx_neg c27 h
      refine sx_wk (sx_s1 sx_m1 (sx_s1 sx_m0 sx_s0)) ?_
      exact tB_X12_head_114 hG hP  h
    · have h := sx_pos c27 h
      refine sx_aload_n (pc := 54) dX12_head_54 sx_m1 ?_
      refine sx_iload_n (pc := 55) dX12_head_55 sx_m0 ?_
      refine sx_bipush (pc := 56) (v := 12) dX12_head_56 (by decide) ?_
      refine sx_iadd (pc := 58) dX12_head_58 ?_
      obtain ⟨⟨x30, V28⟩, g29, h⟩ := sx_bnd h
      refine sv_cV (pc := 59) (y := qX12_u4) (o := (some (.long x30))) (as := [.int (x11 + (12 : Int32))]) (V1 := V28) hG dX12_head_59 l_X12_297 y0X12_u4 yvX12_u4 rfl (Nat.le_of_ble_eq_true rfl) lay_146 kr_12 (by decide) (Nat.le_of_ble_eq_true rfl) rfl rfl rfl (t_X12_u4 hG ⟨rfl, rfl⟩ g29) ?_
      refine sx_ldc2 (pc := 62) dX12_head_62 k_X12_308 ?_
      refine sx_lcmp (pc := 65) dX12_head_65 ?_
      refine sx_if_ne (pc := 66) (tgt := 114) dX12_head_66 (by decide) (fun c31 => ?_) (fun c31 => ?_)
      · have h := sx_neg c31 h
        refine sx_wk (sx_s1 sx_m1 (sx_s1 sx_m0 sx_s0)) ?_
        exact tB_X12_head_114 hG hP  h
      · have h := sx_pos c31 h
        refine sx_aload_n (pc := 69) dX12_head_69 sx_m1 ?_
        refine sv_getI (pc := 70) hG dX12_head_70 f_12_302 lay_146 rfl ?_
        refine sx_i2l (pc := 73) dX12_head_73 ?_
        refine sx_ldc2 (pc := 74) dX12_head_74 k_X12_232 ?_
        refine sx_ldc2 (pc := 77) dX12_head_77 k_X12_310 ?_
        obtain ⟨⟨x34, V32⟩, g33, h⟩ := sx_bnd h
        refine sv_cS (pc := 80) (y := qX12_in) (o := (some (.int x34))) (as := [.long ((V28.1 146 10).toInt64), .long (16 : Int64), .long (16384 : Int64)]) (V1 := V32) dX12_head_80 l_X12_263 y0X12_in ysX12_in rfl (Nat.le_of_ble_eq_true rfl) (by decide) (Nat.le_of_ble_eq_true rfl) rfl rfl rfl (t_X12_in hG ⟨rfl, rfl⟩ g33) ?_
        refine sx_if_eq (pc := 83) (tgt := 114) dX12_head_83 (by decide) (fun c35 => ?_) (fun c35 => ?_)
        · have h := sx_pos c35 h
          refine sx_wk (sx_s1 sx_m1 (sx_s1 sx_m0 sx_s0)) ?_
          exact tB_X12_head_114 hG hP  h
        · have h := sx_neg c35 h
          refine sx_aload_n (pc := 86) dX12_head_86 sx_m1 ?_
          refine sv_getI (pc := 87) hG dX12_head_87 f_12_271 lay_146 rfl ?_
          refine sx_i2l (pc := 90) dX12_head_90 ?_
          refine sx_lconst (pc := 91) (v := 0) dX12_head_91 rfl ?_
          refine sx_lconst (pc := 92) (v := 1) dX12_head_92 rfl ?_
          obtain ⟨⟨x38, V36⟩, g37, h⟩ := sx_bnd h
          refine sv_cS (pc := 93) (y := qX12_in) (o := (some (.int x38))) (as := [.long ((V32.1 146 11).toInt64), .long (0 : Int64), .long (1 : Int64)]) (V1 := V36) dX12_head_93 l_X12_263 y0X12_in ysX12_in rfl (Nat.le_of_ble_eq_true rfl) (by decide) (Nat.le_of_ble_eq_true rfl) rfl rfl rfl (t_X12_in hG ⟨rfl, rfl⟩ g37) ?_
          refine sx_if_eq (pc := 96) (tgt := 114) dX12_head_96 (by decide) (fun c39 => ?_) (fun c39 => ?_)
          · have h := sx_pos c39 h
            refine sx_wk (sx_s1 sx_m1 (sx_s1 sx_m0 sx_s0)) ?_
            exact tB_X12_head_114 hG hP  h
          · have h := sx_neg c39 h
            refine sx_aload_n (pc := 99) dX12_head_99 sx_m1 ?_
            refine sx_iload_n (pc := 100) dX12_head_100 sx_m0 ?_
            refine sx_bipush (pc := 101) (v := 52) dX12_head_101 (by decide) ?_
            refine sx_iadd (pc := 103) dX12_head_103 ?_
            obtain ⟨⟨x42, V40⟩, g41, h⟩ := sx_bnd h
            refine sv_cV (pc := 104) (y := qX12_s2) (o := (some (.int x42))) (as := [.int (x11 + (52 : Int32))]) (V1 := V40) hG dX12_head_104 l_X12_305 y0X12_s2 yvX12_s2 rfl (Nat.le_of_ble_eq_true rfl) lay_146 kr_12 (by decide) (Nat.le_of_ble_eq_true rfl) rfl rfl rfl (t_X12_s2 hG ⟨rfl, rfl⟩ g41) ?_
            refine sx_if_ne (pc := 107) (tgt := 114) dX12_head_107 (by decide) (fun c43 => ?_) (fun c43 => ?_)
            · have h := sx_neg c43 h
              refine sx_wk (sx_s1 sx_m1 (sx_s1 sx_m0 sx_s0)) ?_
              exact tB_X12_head_114 hG hP  h
            · have h := sx_pos c43 h
              refine sx_iconst (pc := 110) (v := 1) dX12_head_110 (by decide) ?_
              refine sx_goto (pc := 111) (tgt := 115) dX12_head_111 (by decide) ?_
              refine sx_wk (sx_s1 sx_m1 (sx_s1 sx_m0 sx_s0)) ?_
              exact tB_X12_head_115 hG hP  h
end
section
/-! methods: X12_maxp, X12_loca, X12_bytesOf, X12_coordinates, X12_composed, X12_setMany, X12_segments, X12_groups -/
def ncX12_maxp : Nat := 31735741525066334991885290624969220330846291560920818756815655653394600168556580386552968839576386056968096216494538989686693737051831945181011627555590582884026125471784480661549254650585062714369150211561925091523144039910397087420935081294243135931611370360221706233616958837422824542745828153576137551484184750285250584578357596075071266558869353062871705995794821061250772926922867088758502447435704335502388162677771234147210435933972127114007087803357354102469394406277045277372582792223317313443314562291396558551943753900482928134121739606036830722618008351196248635503653063606858715050171188816355894244349641144889672582738543364873505239241901043094058
theorem kcX12_maxp : CK cX12_maxp ncX12_maxp 276 := ⟨by decide +kernel, by decide +kernel⟩
theorem dX12_maxp_0 : decode cX12_maxp 0 = .ok (.aload_n 0, 1) := dl_o42 kcX12_maxp (by decide +kernel)
theorem dX12_maxp_1 : decode cX12_maxp 1 = .ok (.ldc 244, 2) := dl_o18 kcX12_maxp (by decide +kernel)
theorem dX12_maxp_3 : decode cX12_maxp 3 = .ok (.invokevirtual 251, 3) := dl_o182 kcX12_maxp (by decide +kernel)
theorem dX12_maxp_6 : decode cX12_maxp 6 = .ok (.istore_n 1, 1) := dl_o60 kcX12_maxp (by decide +kernel)
theorem dX12_maxp_7 : decode cX12_maxp 7 = .ok (.aload_n 0, 1) := dl_o42 kcX12_maxp (by decide +kernel)
theorem dX12_maxp_8 : decode cX12_maxp 8 = .ok (.aload_n 0, 1) := dl_o42 kcX12_maxp (by decide +kernel)
theorem dX12_maxp_9 : decode cX12_maxp 9 = .ok (.iload_n 1, 1) := dl_o27 kcX12_maxp (by decide +kernel)
theorem dX12_maxp_10 : decode cX12_maxp 10 = .ok (.iconst 4, 1) := dl_o7 kcX12_maxp (by decide +kernel)
theorem dX12_maxp_11 : decode cX12_maxp 11 = .ok (.iadd, 1) := dl_o96 kcX12_maxp (by decide +kernel)
theorem dX12_maxp_12 : decode cX12_maxp 12 = .ok (.invokevirtual 213, 3) := dl_o182 kcX12_maxp (by decide +kernel)
theorem dX12_maxp_15 : decode cX12_maxp 15 = .ok (.putfield 260, 3) := dl_o181 kcX12_maxp (by decide +kernel)
theorem dX12_maxp_18 : decode cX12_maxp 18 = .ok (.aload_n 0, 1) := dl_o42 kcX12_maxp (by decide +kernel)
theorem dX12_maxp_19 : decode cX12_maxp 19 = .ok (.aload_n 0, 1) := dl_o42 kcX12_maxp (by decide +kernel)
theorem dX12_maxp_20 : decode cX12_maxp 20 = .ok (.iload_n 1, 1) := dl_o27 kcX12_maxp (by decide +kernel)
theorem dX12_maxp_21 : decode cX12_maxp 21 = .ok (.bipush 14, 2) := dl_o16 kcX12_maxp 14 (by decide +kernel) (by decide +kernel)
theorem dX12_maxp_23 : decode cX12_maxp 23 = .ok (.iadd, 1) := dl_o96 kcX12_maxp (by decide +kernel)
theorem dX12_maxp_24 : decode cX12_maxp 24 = .ok (.invokevirtual 213, 3) := dl_o182 kcX12_maxp (by decide +kernel)
theorem dX12_maxp_27 : decode cX12_maxp 27 = .ok (.putfield 313, 3) := dl_o181 kcX12_maxp (by decide +kernel)
theorem dX12_maxp_30 : decode cX12_maxp 30 = .ok (.aload_n 0, 1) := dl_o42 kcX12_maxp (by decide +kernel)
theorem dX12_maxp_31 : decode cX12_maxp 31 = .ok (.aload_n 0, 1) := dl_o42 kcX12_maxp (by decide +kernel)
theorem dX12_maxp_32 : decode cX12_maxp 32 = .ok (.iload_n 1, 1) := dl_o27 kcX12_maxp (by decide +kernel)
theorem dX12_maxp_33 : decode cX12_maxp 33 = .ok (.bipush 16, 2) := dl_o16 kcX12_maxp 16 (by decide +kernel) (by decide +kernel)
theorem dX12_maxp_35 : decode cX12_maxp 35 = .ok (.iadd, 1) := dl_o96 kcX12_maxp (by decide +kernel)
theorem dX12_maxp_36 : decode cX12_maxp 36 = .ok (.invokevirtual 213, 3) := dl_o182 kcX12_maxp (by decide +kernel)
theorem dX12_maxp_39 : decode cX12_maxp 39 = .ok (.putfield 316, 3) := dl_o181 kcX12_maxp (by decide +kernel)
theorem dX12_maxp_42 : decode cX12_maxp 42 = .ok (.aload_n 0, 1) := dl_o42 kcX12_maxp (by decide +kernel)
theorem dX12_maxp_43 : decode cX12_maxp 43 = .ok (.aload_n 0, 1) := dl_o42 kcX12_maxp (by decide +kernel)
theorem dX12_maxp_44 : decode cX12_maxp 44 = .ok (.iload_n 1, 1) := dl_o27 kcX12_maxp (by decide +kernel)
theorem dX12_maxp_45 : decode cX12_maxp 45 = .ok (.bipush 18, 2) := dl_o16 kcX12_maxp 18 (by decide +kernel) (by decide +kernel)
theorem dX12_maxp_47 : decode cX12_maxp 47 = .ok (.iadd, 1) := dl_o96 kcX12_maxp (by decide +kernel)
theorem dX12_maxp_48 : decode cX12_maxp 48 = .ok (.invokevirtual 213, 3) := dl_o182 kcX12_maxp (by decide +kernel)
theorem dX12_maxp_51 : decode cX12_maxp 51 = .ok (.putfield 319, 3) := dl_o181 kcX12_maxp (by decide +kernel)
theorem dX12_maxp_54 : decode cX12_maxp 54 = .ok (.aload_n 0, 1) := dl_o42 kcX12_maxp (by decide +kernel)
theorem dX12_maxp_55 : decode cX12_maxp 55 = .ok (.aload_n 0, 1) := dl_o42 kcX12_maxp (by decide +kernel)
theorem dX12_maxp_56 : decode cX12_maxp 56 = .ok (.iload_n 1, 1) := dl_o27 kcX12_maxp (by decide +kernel)
theorem dX12_maxp_57 : decode cX12_maxp 57 = .ok (.bipush 20, 2) := dl_o16 kcX12_maxp 20 (by decide +kernel) (by decide +kernel)
theorem dX12_maxp_59 : decode cX12_maxp 59 = .ok (.iadd, 1) := dl_o96 kcX12_maxp (by decide +kernel)
theorem dX12_maxp_60 : decode cX12_maxp 60 = .ok (.invokevirtual 213, 3) := dl_o182 kcX12_maxp (by decide +kernel)
theorem dX12_maxp_63 : decode cX12_maxp 63 = .ok (.putfield 322, 3) := dl_o181 kcX12_maxp (by decide +kernel)
theorem dX12_maxp_66 : decode cX12_maxp 66 = .ok (.aload_n 0, 1) := dl_o42 kcX12_maxp (by decide +kernel)
theorem dX12_maxp_67 : decode cX12_maxp 67 = .ok (.aload_n 0, 1) := dl_o42 kcX12_maxp (by decide +kernel)
theorem dX12_maxp_68 : decode cX12_maxp 68 = .ok (.iload_n 1, 1) := dl_o27 kcX12_maxp (by decide +kernel)
theorem dX12_maxp_69 : decode cX12_maxp 69 = .ok (.bipush 22, 2) := dl_o16 kcX12_maxp 22 (by decide +kernel) (by decide +kernel)
theorem dX12_maxp_71 : decode cX12_maxp 71 = .ok (.iadd, 1) := dl_o96 kcX12_maxp (by decide +kernel)
theorem dX12_maxp_72 : decode cX12_maxp 72 = .ok (.invokevirtual 213, 3) := dl_o182 kcX12_maxp (by decide +kernel)
theorem dX12_maxp_75 : decode cX12_maxp 75 = .ok (.putfield 325, 3) := dl_o181 kcX12_maxp (by decide +kernel)
theorem dX12_maxp_78 : decode cX12_maxp 78 = .ok (.aload_n 0, 1) := dl_o42 kcX12_maxp (by decide +kernel)
theorem dX12_maxp_79 : decode cX12_maxp 79 = .ok (.aload_n 0, 1) := dl_o42 kcX12_maxp (by decide +kernel)
theorem dX12_maxp_80 : decode cX12_maxp 80 = .ok (.iload_n 1, 1) := dl_o27 kcX12_maxp (by decide +kernel)
theorem dX12_maxp_81 : decode cX12_maxp 81 = .ok (.bipush 24, 2) := dl_o16 kcX12_maxp 24 (by decide +kernel) (by decide +kernel)
theorem dX12_maxp_83 : decode cX12_maxp 83 = .ok (.iadd, 1) := dl_o96 kcX12_maxp (by decide +kernel)
theorem dX12_maxp_84 : decode cX12_maxp 84 = .ok (.invokevirtual 213, 3) := dl_o182 kcX12_maxp (by decide +kernel)
theorem dX12_maxp_87 : decode cX12_maxp 87 = .ok (.putfield 328, 3) := dl_o181 kcX12_maxp (by decide +kernel)
theorem dX12_maxp_90 : decode cX12_maxp 90 = .ok (.aload_n 0, 1) := dl_o42 kcX12_maxp (by decide +kernel)
theorem dX12_maxp_91 : decode cX12_maxp 91 = .ok (.aload_n 0, 1) := dl_o42 kcX12_maxp (by decide +kernel)
theorem dX12_maxp_92 : decode cX12_maxp 92 = .ok (.iload_n 1, 1) := dl_o27 kcX12_maxp (by decide +kernel)
theorem dX12_maxp_93 : decode cX12_maxp 93 = .ok (.bipush 30, 2) := dl_o16 kcX12_maxp 30 (by decide +kernel) (by decide +kernel)
theorem dX12_maxp_95 : decode cX12_maxp 95 = .ok (.iadd, 1) := dl_o96 kcX12_maxp (by decide +kernel)
theorem dX12_maxp_96 : decode cX12_maxp 96 = .ok (.invokevirtual 213, 3) := dl_o182 kcX12_maxp (by decide +kernel)
theorem dX12_maxp_99 : decode cX12_maxp 99 = .ok (.putfield 331, 3) := dl_o181 kcX12_maxp (by decide +kernel)
theorem dX12_maxp_102 : decode cX12_maxp 102 = .ok (.aload_n 0, 1) := dl_o42 kcX12_maxp (by decide +kernel)
theorem dX12_maxp_103 : decode cX12_maxp 103 = .ok (.ldc 244, 2) := dl_o18 kcX12_maxp (by decide +kernel)
theorem dX12_maxp_105 : decode cX12_maxp 105 = .ok (.invokevirtual 257, 3) := dl_o182 kcX12_maxp (by decide +kernel)
theorem dX12_maxp_108 : decode cX12_maxp 108 = .ok (.bipush 32, 2) := dl_o16 kcX12_maxp 32 (by decide +kernel) (by decide +kernel)
theorem dX12_maxp_110 : decode cX12_maxp 110 = .ok (.if_icmp .ne 139, 3) := dl_o160 kcX12_maxp 139 (by decide +kernel) (by decide +kernel)
theorem dX12_maxp_113 : decode cX12_maxp 113 = .ok (.aload_n 0, 1) := dl_o42 kcX12_maxp (by decide +kernel)
theorem dX12_maxp_114 : decode cX12_maxp 114 = .ok (.iload_n 1, 1) := dl_o27 kcX12_maxp (by decide +kernel)
theorem dX12_maxp_115 : decode cX12_maxp 115 = .ok (.invokevirtual 297, 3) := dl_o182 kcX12_maxp (by decide +kernel)
theorem dX12_maxp_118 : decode cX12_maxp 118 = .ok (.ldc2_w 300, 3) := dl_o20 kcX12_maxp (by decide +kernel)
theorem dX12_maxp_121 : decode cX12_maxp 121 = .ok (.lcmp, 1) := dl_o148 kcX12_maxp (by decide +kernel)
theorem dX12_maxp_122 : decode cX12_maxp 122 = .ok (.ifCond .ne 127, 3) := dl_o154 kcX12_maxp 127 (by decide +kernel) (by decide +kernel)
theorem dX12_maxp_125 : decode cX12_maxp 125 = .ok (.aload_n 0, 1) := dl_o42 kcX12_maxp (by decide +kernel)
theorem dX12_maxp_126 : decode cX12_maxp 126 = .ok (.getfield 260, 3) := dl_o180 kcX12_maxp (by decide +kernel)
theorem dX12_maxp_129 : decode cX12_maxp 129 = .ok (.i2l, 1) := dl_o133 kcX12_maxp (by decide +kernel)
theorem dX12_maxp_130 : decode cX12_maxp 130 = .ok (.lconst 1, 1) := dl_o10 kcX12_maxp (by decide +kernel)
theorem dX12_maxp_131 : decode cX12_maxp 131 = .ok (.ldc2_w 334, 3) := dl_o20 kcX12_maxp (by decide +kernel)
theorem dX12_maxp_134 : decode cX12_maxp 134 = .ok (.invokestatic 263, 3) := dl_o184 kcX12_maxp (by decide +kernel)
theorem dX12_maxp_137 : decode cX12_maxp 137 = .ok (.ifCond .eq 112, 3) := dl_o153 kcX12_maxp 112 (by decide +kernel) (by decide +kernel)
theorem dX12_maxp_140 : decode cX12_maxp 140 = .ok (.aload_n 0, 1) := dl_o42 kcX12_maxp (by decide +kernel)
theorem dX12_maxp_141 : decode cX12_maxp 141 = .ok (.getfield 313, 3) := dl_o180 kcX12_maxp (by decide +kernel)
theorem dX12_maxp_144 : decode cX12_maxp 144 = .ok (.i2l, 1) := dl_o133 kcX12_maxp (by decide +kernel)
theorem dX12_maxp_145 : decode cX12_maxp 145 = .ok (.lconst 1, 1) := dl_o10 kcX12_maxp (by decide +kernel)
theorem dX12_maxp_146 : decode cX12_maxp 146 = .ok (.ldc2_w 336, 3) := dl_o20 kcX12_maxp (by decide +kernel)
theorem dX12_maxp_149 : decode cX12_maxp 149 = .ok (.invokestatic 263, 3) := dl_o184 kcX12_maxp (by decide +kernel)
theorem dX12_maxp_152 : decode cX12_maxp 152 = .ok (.ifCond .eq 97, 3) := dl_o153 kcX12_maxp 97 (by decide +kernel) (by decide +kernel)
theorem dX12_maxp_155 : decode cX12_maxp 155 = .ok (.aload_n 0, 1) := dl_o42 kcX12_maxp (by decide +kernel)
theorem dX12_maxp_156 : decode cX12_maxp 156 = .ok (.getfield 316, 3) := dl_o180 kcX12_maxp (by decide +kernel)
theorem dX12_maxp_159 : decode cX12_maxp 159 = .ok (.i2l, 1) := dl_o133 kcX12_maxp (by decide +kernel)
theorem dX12_maxp_160 : decode cX12_maxp 160 = .ok (.lconst 0, 1) := dl_o9 kcX12_maxp (by decide +kernel)
theorem dX12_maxp_161 : decode cX12_maxp 161 = .ok (.ldc2_w 338, 3) := dl_o20 kcX12_maxp (by decide +kernel)
theorem dX12_maxp_164 : decode cX12_maxp 164 = .ok (.invokestatic 263, 3) := dl_o184 kcX12_maxp (by decide +kernel)
theorem dX12_maxp_167 : decode cX12_maxp 167 = .ok (.ifCond .eq 82, 3) := dl_o153 kcX12_maxp 82 (by decide +kernel) (by decide +kernel)
theorem dX12_maxp_170 : decode cX12_maxp 170 = .ok (.aload_n 0, 1) := dl_o42 kcX12_maxp (by decide +kernel)
theorem dX12_maxp_171 : decode cX12_maxp 171 = .ok (.getfield 319, 3) := dl_o180 kcX12_maxp (by decide +kernel)
theorem dX12_maxp_174 : decode cX12_maxp 174 = .ok (.i2l, 1) := dl_o133 kcX12_maxp (by decide +kernel)
theorem dX12_maxp_175 : decode cX12_maxp 175 = .ok (.lconst 0, 1) := dl_o9 kcX12_maxp (by decide +kernel)
theorem dX12_maxp_176 : decode cX12_maxp 176 = .ok (.ldc2_w 338, 3) := dl_o20 kcX12_maxp (by decide +kernel)
theorem dX12_maxp_179 : decode cX12_maxp 179 = .ok (.invokestatic 263, 3) := dl_o184 kcX12_maxp (by decide +kernel)
theorem dX12_maxp_182 : decode cX12_maxp 182 = .ok (.ifCond .eq 67, 3) := dl_o153 kcX12_maxp 67 (by decide +kernel) (by decide +kernel)
theorem dX12_maxp_185 : decode cX12_maxp 185 = .ok (.aload_n 0, 1) := dl_o42 kcX12_maxp (by decide +kernel)
theorem dX12_maxp_186 : decode cX12_maxp 186 = .ok (.getfield 322, 3) := dl_o180 kcX12_maxp (by decide +kernel)
theorem dX12_maxp_189 : decode cX12_maxp 189 = .ok (.i2l, 1) := dl_o133 kcX12_maxp (by decide +kernel)
theorem dX12_maxp_190 : decode cX12_maxp 190 = .ok (.lconst 0, 1) := dl_o9 kcX12_maxp (by decide +kernel)
theorem dX12_maxp_191 : decode cX12_maxp 191 = .ok (.ldc2_w 338, 3) := dl_o20 kcX12_maxp (by decide +kernel)
theorem dX12_maxp_194 : decode cX12_maxp 194 = .ok (.invokestatic 263, 3) := dl_o184 kcX12_maxp (by decide +kernel)
theorem dX12_maxp_197 : decode cX12_maxp 197 = .ok (.ifCond .eq 52, 3) := dl_o153 kcX12_maxp 52 (by decide +kernel) (by decide +kernel)
theorem dX12_maxp_200 : decode cX12_maxp 200 = .ok (.aload_n 0, 1) := dl_o42 kcX12_maxp (by decide +kernel)
theorem dX12_maxp_201 : decode cX12_maxp 201 = .ok (.getfield 325, 3) := dl_o180 kcX12_maxp (by decide +kernel)
theorem dX12_maxp_204 : decode cX12_maxp 204 = .ok (.i2l, 1) := dl_o133 kcX12_maxp (by decide +kernel)
theorem dX12_maxp_205 : decode cX12_maxp 205 = .ok (.lconst 0, 1) := dl_o9 kcX12_maxp (by decide +kernel)
theorem dX12_maxp_206 : decode cX12_maxp 206 = .ok (.ldc2_w 232, 3) := dl_o20 kcX12_maxp (by decide +kernel)
theorem dX12_maxp_209 : decode cX12_maxp 209 = .ok (.invokestatic 263, 3) := dl_o184 kcX12_maxp (by decide +kernel)
theorem dX12_maxp_212 : decode cX12_maxp 212 = .ok (.ifCond .eq 37, 3) := dl_o153 kcX12_maxp 37 (by decide +kernel) (by decide +kernel)
theorem dX12_maxp_215 : decode cX12_maxp 215 = .ok (.aload_n 0, 1) := dl_o42 kcX12_maxp (by decide +kernel)
theorem dX12_maxp_216 : decode cX12_maxp 216 = .ok (.getfield 328, 3) := dl_o180 kcX12_maxp (by decide +kernel)
theorem dX12_maxp_219 : decode cX12_maxp 219 = .ok (.i2l, 1) := dl_o133 kcX12_maxp (by decide +kernel)
theorem dX12_maxp_220 : decode cX12_maxp 220 = .ok (.lconst 0, 1) := dl_o9 kcX12_maxp (by decide +kernel)
theorem dX12_maxp_221 : decode cX12_maxp 221 = .ok (.ldc2_w 340, 3) := dl_o20 kcX12_maxp (by decide +kernel)
theorem dX12_maxp_224 : decode cX12_maxp 224 = .ok (.invokestatic 263, 3) := dl_o184 kcX12_maxp (by decide +kernel)
theorem dX12_maxp_227 : decode cX12_maxp 227 = .ok (.ifCond .eq 22, 3) := dl_o153 kcX12_maxp 22 (by decide +kernel) (by decide +kernel)
theorem dX12_maxp_230 : decode cX12_maxp 230 = .ok (.aload_n 0, 1) := dl_o42 kcX12_maxp (by decide +kernel)
theorem dX12_maxp_231 : decode cX12_maxp 231 = .ok (.getfield 331, 3) := dl_o180 kcX12_maxp (by decide +kernel)
theorem dX12_maxp_234 : decode cX12_maxp 234 = .ok (.i2l, 1) := dl_o133 kcX12_maxp (by decide +kernel)
theorem dX12_maxp_235 : decode cX12_maxp 235 = .ok (.lconst 0, 1) := dl_o9 kcX12_maxp (by decide +kernel)
theorem dX12_maxp_236 : decode cX12_maxp 236 = .ok (.ldc2_w 228, 3) := dl_o20 kcX12_maxp (by decide +kernel)
theorem dX12_maxp_239 : decode cX12_maxp 239 = .ok (.invokestatic 263, 3) := dl_o184 kcX12_maxp (by decide +kernel)
theorem dX12_maxp_242 : decode cX12_maxp 242 = .ok (.ifCond .eq 7, 3) := dl_o153 kcX12_maxp 7 (by decide +kernel) (by decide +kernel)
theorem dX12_maxp_245 : decode cX12_maxp 245 = .ok (.iconst 1, 1) := dl_o4 kcX12_maxp (by decide +kernel)
theorem dX12_maxp_246 : decode cX12_maxp 246 = .ok (.goto 4, 3) := dl_o167 kcX12_maxp 4 (by decide +kernel) (by decide +kernel)
theorem dX12_maxp_249 : decode cX12_maxp 249 = .ok (.iconst 0, 1) := dl_o3 kcX12_maxp (by decide +kernel)
theorem dX12_maxp_250 : decode cX12_maxp 250 = .ok (.istore_n 2, 1) := dl_o61 kcX12_maxp (by decide +kernel)
theorem dX12_maxp_251 : decode cX12_maxp 251 = .ok (.iload_n 2, 1) := dl_o28 kcX12_maxp (by decide +kernel)
theorem dX12_maxp_252 : decode cX12_maxp 252 = .ok (.ifCond .eq 22, 3) := dl_o153 kcX12_maxp 22 (by decide +kernel) (by decide +kernel)
theorem dX12_maxp_255 : decode cX12_maxp 255 = .ok (.aload_n 0, 1) := dl_o42 kcX12_maxp (by decide +kernel)
theorem dX12_maxp_256 : decode cX12_maxp 256 = .ok (.getfield 313, 3) := dl_o180 kcX12_maxp (by decide +kernel)
theorem dX12_maxp_259 : decode cX12_maxp 259 = .ok (.iconst 2, 1) := dl_o5 kcX12_maxp (by decide +kernel)
theorem dX12_maxp_260 : decode cX12_maxp 260 = .ok (.if_icmp .eq 10, 3) := dl_o159 kcX12_maxp 10 (by decide +kernel) (by decide +kernel)
theorem dX12_maxp_263 : decode cX12_maxp 263 = .ok (.aload_n 0, 1) := dl_o42 kcX12_maxp (by decide +kernel)
theorem dX12_maxp_264 : decode cX12_maxp 264 = .ok (.getfield 316, 3) := dl_o180 kcX12_maxp (by decide +kernel)
theorem dX12_maxp_267 : decode cX12_maxp 267 = .ok (.ifCond .ne 7, 3) := dl_o154 kcX12_maxp 7 (by decide +kernel) (by decide +kernel)
theorem dX12_maxp_270 : decode cX12_maxp 270 = .ok (.iconst 1, 1) := dl_o4 kcX12_maxp (by decide +kernel)
theorem dX12_maxp_271 : decode cX12_maxp 271 = .ok (.goto 4, 3) := dl_o167 kcX12_maxp 4 (by decide +kernel) (by decide +kernel)
theorem dX12_maxp_274 : decode cX12_maxp 274 = .ok (.iconst 0, 1) := dl_o3 kcX12_maxp (by decide +kernel)
theorem dX12_maxp_275 : decode cX12_maxp 275 = .ok (.ireturn, 1) := dl_o172 kcX12_maxp (by decide +kernel)
def B_X12_maxp_270 (N : Nat)   (V : sv_V) : Option (Int32 × sv_V) := some ((1 : Int32), V)
set_option maxRecDepth 20000 in
theorem tB_X12_maxp_270 {g : sx_G} (hG : sx_Go g) {P : Option Value → sv_V → Prop} {r : Int32} {Vr : sv_V} (hP : P (some (.int r)) Vr) {N : Nat}    {V : sv_V} (h : B_X12_maxp_270 N   V = some (r, Vr)) : sv_N g qX12_maxp 3 270 [] [] V P := by
  unfold B_X12_maxp_270 at h
  refine sx_iconst (pc := 270) (v := 1) dX12_maxp_270 (by decide) ?_
  refine sx_goto (pc := 271) (tgt := 275) dX12_maxp_271 (by decide) ?_
  exact sv_zret (pc := 275) dX12_maxp_275 rfl rfl h hP
def B_X12_maxp_250 (N : Nat)  (s0 : Int32) (V : sv_V) : Option (Int32 × sv_V) := if s0 = 0 then (some ((0 : Int32), V)) else (if (V.1 146 13) = (2 : Int32) then (B_X12_maxp_270 N   V) else (if (V.1 146 14) = 0 then (B_X12_maxp_270 N   V) else (some ((0 : Int32), V))))
set_option maxRecDepth 20000 in
theorem tB_X12_maxp_250 {g : sx_G} (hG : sx_Go g) {P : Option Value → sv_V → Prop} {r : Int32} {Vr : sv_V} (hP : P (some (.int r)) Vr) {N : Nat}   {s0 : Int32} {V : sv_V} (h : B_X12_maxp_250 N  s0 V = some (r, Vr)) : sv_N g qX12_maxp 3 250 [(0, .ref 146)] [.int s0] V P := by
  unfold B_X12_maxp_250 at h
  refine sx_istore_n (pc := 250) (lo' := [(2, .int s0), (0, .ref 146)]) dX12_maxp_250 (by decide) rfl ?_
  refine sx_iload_n (pc := 251) dX12_maxp_251 sx_m0 ?_
  refine sx_if_eq (pc := 252) (tgt := 274) dX12_maxp_252 (by decide) (fun c1 => ?_) (fun c1 => ?_)
  · have h := sx_pos c1 h
    refine sx_iconst (pc := 274) (v := 0) dX12_maxp_274 (by decide) ?_
    exact sv_zret (pc := 275) dX12_maxp_275 rfl rfl h hP
  · have h := sx_neg c1 h
    refine sx_aload_n (pc := 255) dX12_maxp_255 sx_m1 ?_
    refine sv_getI (pc := 256) hG dX12_maxp_256 f_12_313 lay_146 rfl ?_
    refine sx_iconst (pc := 259) (v := 2) dX12_maxp_259 (by decide) ?_
    refine sx_icmp_eq (pc := 260) (tgt := 270) dX12_maxp_260 (by decide) (fun c2 => ?_) (fun c2 => ?_)
    · have h := sx_pos c2 h
      refine sx_wk sx_s0 ?_
      exact tB_X12_maxp_270 hG hP  h
    · have h := sx_neg c2 h
      refine sx_aload_n (pc := 263) dX12_maxp_263 sx_m1 ?_
      refine sv_getI (pc := 264) hG dX12_maxp_264 f_12_316 lay_146 rfl ?_
      refine sx_if_ne (pc := 267) (tgt := 274) dX12_maxp_267 (by decide) (fun c3 => ?_) (fun c3 => ?_)
      · have h := sx_neg c3 h
        refine sx_iconst (pc := 274) (v := 0) dX12_maxp_274 (by decide) ?_
        exact sv_zret (pc := 275) dX12_maxp_275 rfl rfl h hP
      · have h := sx_pos c3 h
        refine sx_wk sx_s0 ?_
        exact tB_X12_maxp_270 hG hP  h
def B_X12_maxp_249 (N : Nat)   (V : sv_V) : Option (Int32 × sv_V) := B_X12_maxp_250 N  (0 : Int32) V
set_option maxRecDepth 20000 in
theorem tB_X12_maxp_249 {g : sx_G} (hG : sx_Go g) {P : Option Value → sv_V → Prop} {r : Int32} {Vr : sv_V} (hP : P (some (.int r)) Vr) {N : Nat}    {V : sv_V} (h : B_X12_maxp_249 N   V = some (r, Vr)) : sv_N g qX12_maxp 3 249 [(0, .ref 146)] [] V P := by
  unfold B_X12_maxp_249 at h
  refine sx_iconst (pc := 249) (v := 0) dX12_maxp_249 (by decide) ?_
  refine sx_wk (sx_s1 sx_m0 sx_s0) ?_
  exact tB_X12_maxp_250 hG hP  h
def F_X12_maxp (N : Nat)  (V : sv_V) : Option (Int32 × sv_V) := (F_X12_beginOf N (1835104368 : Int32) V).bind (fun (x6, V4) => (F_X12_u2 (x6 + (4 : Int32)) V4).bind (fun (x9, V7) => sx_let (sv_I V7 146 12 x9) (fun V10 => (F_X12_u2 (x6 + (14 : Int32)) V10).bind (fun (x13, V11) => sx_let (sv_I V11 146 13 x13) (fun V14 => (F_X12_u2 (x6 + (16 : Int32)) V14).bind (fun (x17, V15) => sx_let (sv_I V15 146 14 x17) (fun V18 => (F_X12_u2 (x6 + (18 : Int32)) V18).bind (fun (x21, V19) => sx_let (sv_I V19 146 15 x21) (fun V22 => (F_X12_u2 (x6 + (20 : Int32)) V22).bind (fun (x25, V23) => sx_let (sv_I V23 146 16 x25) (fun V26 => (F_X12_u2 (x6 + (22 : Int32)) V26).bind (fun (x29, V27) => sx_let (sv_I V27 146 17 x29) (fun V30 => (F_X12_u2 (x6 + (24 : Int32)) V30).bind (fun (x33, V31) => sx_let (sv_I V31 146 18 x33) (fun V34 => (F_X12_u2 (x6 + (30 : Int32)) V34).bind (fun (x37, V35) => sx_let (sv_I V35 146 19 x37) (fun V38 => (F_X12_lengthOf N (1835104368 : Int32) V38).bind (fun (x41, V39) => if x41 = (32 : Int32) then ((F_X12_u4 x6 V39).bind (fun (x45, V43) => if (lg_cmp x45 (65536 : Int64)) = 0 then ((F_X12_in ((V43.1 146 12).toInt64) (1 : Int64) (200 : Int64) V43).bind (fun (x49, V47) => if x49 = 0 then (B_X12_maxp_249 N   V47) else ((F_X12_in ((V47.1 146 13).toInt64) (1 : Int64) (2 : Int64) V47).bind (fun (x53, V51) => if x53 = 0 then (B_X12_maxp_249 N   V51) else ((F_X12_in ((V51.1 146 14).toInt64) (0 : Int64) (64 : Int64) V51).bind (fun (x57, V55) => if x57 = 0 then (B_X12_maxp_249 N   V55) else ((F_X12_in ((V55.1 146 15).toInt64) (0 : Int64) (64 : Int64) V55).bind (fun (x61, V59) => if x61 = 0 then (B_X12_maxp_249 N   V59) else ((F_X12_in ((V59.1 146 16).toInt64) (0 : Int64) (64 : Int64) V59).bind (fun (x65, V63) => if x65 = 0 then (B_X12_maxp_249 N   V63) else ((F_X12_in ((V63.1 146 17).toInt64) (0 : Int64) (16 : Int64) V63).bind (fun (x69, V67) => if x69 = 0 then (B_X12_maxp_249 N   V67) else ((F_X12_in ((V67.1 146 18).toInt64) (0 : Int64) (256 : Int64) V67).bind (fun (x73, V71) => if x73 = 0 then (B_X12_maxp_249 N   V71) else ((F_X12_in ((V71.1 146 19).toInt64) (0 : Int64) (4 : Int64) V71).bind (fun (x77, V75) => if x77 = 0 then (B_X12_maxp_249 N   V75) else (B_X12_maxp_250 N  (1 : Int32) V75))))))))))))))))) else (B_X12_maxp_249 N   V43))) else (B_X12_maxp_249 N   V39)))))))))))))))))))
set_option maxRecDepth 20000 in
theorem t_X12_maxp {g : sx_G} (hG : sx_Go g) {P : Option Value → sv_V → Prop} {r : Int32} {Vr : sv_V} (hP : P (some (.int r)) Vr) {N : Nat}  {V : sv_V} (h : F_X12_maxp N  V = some (r, Vr)) : sv_N g qX12_maxp 3 0 [(0, .ref 146)] [] V P := by
  unfold F_X12_maxp at h
  refine sx_aload_n (pc := 0) dX12_maxp_0 sx_m0 ?_
  refine sx_ldc (pc := 1) dX12_maxp_1 k_X12_244 ?_
  obtain ⟨⟨x6, V4⟩, g5, h⟩ := sx_bnd h
  refine sv_cV (pc := 3) (y := qX12_beginOf) (o := (some (.int x6))) (as := [.int (1835104368 : Int32)]) (V1 := V4) hG dX12_maxp_3 l_X12_251 y0X12_beginOf yvX12_beginOf rfl (Nat.le_of_ble_eq_true rfl) lay_146 kr_12 (by decide) (Nat.le_of_ble_eq_true rfl) rfl rfl rfl (t_X12_beginOf hG ⟨rfl, rfl⟩ g5) ?_
  refine sx_istore_n (pc := 6) (lo' := [(1, .int x6), (0, .ref 146)]) dX12_maxp_6 (by decide) rfl ?_
  refine sx_aload_n (pc := 7) dX12_maxp_7 sx_m1 ?_
  refine sx_aload_n (pc := 8) dX12_maxp_8 sx_m1 ?_
  refine sx_iload_n (pc := 9) dX12_maxp_9 sx_m0 ?_
  refine sx_iconst (pc := 10) (v := 4) dX12_maxp_10 (by decide) ?_
  refine sx_iadd (pc := 11) dX12_maxp_11 ?_
  obtain ⟨⟨x9, V7⟩, g8, h⟩ := sx_bnd h
  refine sv_cV (pc := 12) (y := qX12_u2) (o := (some (.int x9))) (as := [.int (x6 + (4 : Int32))]) (V1 := V7) hG dX12_maxp_12 l_X12_213 y0X12_u2 yvX12_u2 rfl (Nat.le_of_ble_eq_true rfl) lay_146 kr_12 (by decide) (Nat.le_of_ble_eq_true rfl) rfl rfl rfl (t_X12_u2 hG ⟨rfl, rfl⟩ g8) ?_
  obtain ⟨V10, hV10⟩ : ∃ z : sv_V, z = sv_I V7 146 12 x9 := ⟨_, rfl⟩
  have h := sx_letE hV10 h
  refine sv_putI (pc := 15) hG dX12_maxp_15 f_12_260 lay_146 rfl hV10 ?_
  refine sx_aload_n (pc := 18) dX12_maxp_18 sx_m1 ?_
  refine sx_aload_n (pc := 19) dX12_maxp_19 sx_m1 ?_
  refine sx_iload_n (pc := 20) dX12_maxp_20 sx_m0 ?_
  refine sx_bipush (pc := 21) (v := 14) dX12_maxp_21 (by decide) ?_
  refine sx_iadd (pc := 23) dX12_maxp_23 ?_
  obtain ⟨⟨x13, V11⟩, g12, h⟩ := sx_bnd h
  refine sv_cV (pc := 24) (y := qX12_u2) (o := (some (.int x13))) (as := [.int (x6 + (14 : Int32))]) (V1 := V11) hG dX12_maxp_24 l_X12_213 y0X12_u2 yvX12_u2 rfl (Nat.le_of_ble_eq_true rfl) lay_146 kr_12 (by decide) (Nat.le_of_ble_eq_true rfl) rfl rfl rfl (t_X12_u2 hG ⟨rfl, rfl⟩ g12) ?_
  obtain ⟨V14, hV14⟩ : ∃ z : sv_V, z = sv_I V11 146 13 x13 := ⟨_, rfl⟩
  have h := sx_letE hV14 h
  refine sv_putI (pc := 27) hG dX12_maxp_27 f_12_313 lay_146 rfl hV14 ?_
  refine sx_aload_n (pc := 30) dX12_maxp_30 sx_m1 ?_
  refine sx_aload_n (pc := 31) dX12_maxp_31 sx_m1 ?_
  refine sx_iload_n (pc := 32) dX12_maxp_32 sx_m0 ?_
  refine sx_bipush (pc := 33) (v := 16) dX12_maxp_33 (by decide) ?_
  refine sx_iadd (pc := 35) dX12_maxp_35 ?_
  obtain ⟨⟨x17, V15⟩, g16, h⟩ := sx_bnd h
  refine sv_cV (pc := 36) (y := qX12_u2) (o := (some (.int x17))) (as := [.int (x6 + (16 : Int32))]) (V1 := V15) hG dX12_maxp_36 l_X12_213 y0X12_u2 yvX12_u2 rfl (Nat.le_of_ble_eq_true rfl) lay_146 kr_12 (by decide) (Nat.le_of_ble_eq_true rfl) rfl rfl rfl (t_X12_u2 hG ⟨rfl, rfl⟩ g16) ?_
  obtain ⟨V18, hV18⟩ : ∃ z : sv_V, z = sv_I V15 146 14 x17 := ⟨_, rfl⟩
  have h := sx_letE hV18 h
  refine sv_putI (pc := 39) hG dX12_maxp_39 f_12_316 lay_146 rfl hV18 ?_
  refine sx_aload_n (pc := 42) dX12_maxp_42 sx_m1 ?_
  refine sx_aload_n (pc := 43) dX12_maxp_43 sx_m1 ?_
  refine sx_iload_n (pc := 44) dX12_maxp_44 sx_m0 ?_
  refine sx_bipush (pc := 45) (v := 18) dX12_maxp_45 (by decide) ?_
  refine sx_iadd (pc := 47) dX12_maxp_47 ?_
  obtain ⟨⟨x21, V19⟩, g20, h⟩ := sx_bnd h
  refine sv_cV (pc := 48) (y := qX12_u2) (o := (some (.int x21))) (as := [.int (x6 + (18 : Int32))]) (V1 := V19) hG dX12_maxp_48 l_X12_213 y0X12_u2 yvX12_u2 rfl (Nat.le_of_ble_eq_true rfl) lay_146 kr_12 (by decide) (Nat.le_of_ble_eq_true rfl) rfl rfl rfl (t_X12_u2 hG ⟨rfl, rfl⟩ g20) ?_
  obtain ⟨V22, hV22⟩ : ∃ z : sv_V, z = sv_I V19 146 15 x21 := ⟨_, rfl⟩
  have h := sx_letE hV22 h
  refine sv_putI (pc := 51) hG dX12_maxp_51 f_12_319 lay_146 rfl hV22 ?_
  refine sx_aload_n (pc := 54) dX12_maxp_54 sx_m1 ?_
  refine sx_aload_n (pc := 55) dX12_maxp_55 sx_m1 ?_
  refine sx_iload_n (pc := 56) dX12_maxp_56 sx_m0 ?_
  refine sx_bipush (pc := 57) (v := 20) dX12_maxp_57 (by decide) ?_
  refine sx_iadd (pc := 59) dX12_maxp_59 ?_
  obtain ⟨⟨x25, V23⟩, g24, h⟩ := sx_bnd h
  refine sv_cV (pc := 60) (y := qX12_u2) (o := (some (.int x25))) (as := [.int (x6 + (20 : Int32))]) (V1 := V23) hG dX12_maxp_60 l_X12_213 y0X12_u2 yvX12_u2 rfl (Nat.le_of_ble_eq_true rfl) lay_146 kr_12 (by decide) (Nat.le_of_ble_eq_true rfl) rfl rfl rfl (t_X12_u2 hG ⟨rfl, rfl⟩ g24) ?_
  obtain ⟨V26, hV26⟩ : ∃ z : sv_V, z = sv_I V23 146 16 x25 := ⟨_, rfl⟩
  have h := sx_letE hV26 h
  refine sv_putI (pc := 63) hG dX12_maxp_63 f_12_322 lay_146 rfl hV26 ?_
  refine sx_aload_n (pc := 66) dX12_maxp_66 sx_m1 ?_
  refine sx_aload_n (pc := 67) dX12_maxp_67 sx_m1 ?_
  refine sx_iload_n (pc := 68) dX12_maxp_68 sx_m0 ?_
  refine sx_bipush (pc := 69) (v := 22) dX12_maxp_69 (by decide) ?_
  refine sx_iadd (pc := 71) dX12_maxp_71 ?_
  obtain ⟨⟨x29, V27⟩, g28, h⟩ := sx_bnd h
  refine sv_cV (pc := 72) (y := qX12_u2) (o := (some (.int x29))) (as := [.int (x6 + (22 : Int32))]) (V1 := V27) hG dX12_maxp_72 l_X12_213 y0X12_u2 yvX12_u2 rfl (Nat.le_of_ble_eq_true rfl) lay_146 kr_12 (by decide) (Nat.le_of_ble_eq_true rfl) rfl rfl rfl (t_X12_u2 hG ⟨rfl, rfl⟩ g28) ?_
  obtain ⟨V30, hV30⟩ : ∃ z : sv_V, z = sv_I V27 146 17 x29 := ⟨_, rfl⟩
  have h := sx_letE hV30 h
  refine sv_putI (pc := 75) hG dX12_maxp_75 f_12_325 lay_146 rfl hV30 ?_
  refine sx_aload_n (pc := 78) dX12_maxp_78 sx_m1 ?_
  refine sx_aload_n (pc := 79) dX12_maxp_79 sx_m1 ?_
  refine sx_iload_n (pc := 80) dX12_maxp_80 sx_m0 ?_
  refine sx_bipush (pc := 81) (v := 24) dX12_maxp_81 (by decide) ?_
  refine sx_iadd (pc := 83) dX12_maxp_83 ?_
  obtain ⟨⟨x33, V31⟩, g32, h⟩ := sx_bnd h
  refine sv_cV (pc := 84) (y := qX12_u2) (o := (some (.int x33))) (as := [.int (x6 + (24 : Int32))]) (V1 := V31) hG dX12_maxp_84 l_X12_213 y0X12_u2 yvX12_u2 rfl (Nat.le_of_ble_eq_true rfl) lay_146 kr_12 (by decide) (Nat.le_of_ble_eq_true rfl) rfl rfl rfl (t_X12_u2 hG ⟨rfl, rfl⟩ g32) ?_
  obtain ⟨V34, hV34⟩ : ∃ z : sv_V, z = sv_I V31 146 18 x33 := ⟨_, rfl⟩
  have h := sx_letE hV34 h
  refine sv_putI (pc := 87) hG dX12_maxp_87 f_12_328 lay_146 rfl hV34 ?_
  refine sx_aload_n (pc := 90) dX12_maxp_90 sx_m1 ?_
  refine sx_aload_n (pc := 91) dX12_maxp_91 sx_m1 ?_
  refine sx_iload_n (pc := 92) dX12_maxp_92 sx_m0 ?_
  refine sx_bipush (pc := 93) (v := 30) dX12_maxp_93 (by decide) ?_
  refine sx_iadd (pc := 95) dX12_maxp_95 ?_
  obtain ⟨⟨x37, V35⟩, g36, h⟩ := sx_bnd h
  refine sv_cV (pc := 96) (y := qX12_u2) (o := (some (.int x37))) (as := [.int (x6 + (30 : Int32))]) (V1 := V35) hG dX12_maxp_96 l_X12_213 y0X12_u2 yvX12_u2 rfl (Nat.le_of_ble_eq_true rfl) lay_146 kr_12 (by decide) (Nat.le_of_ble_eq_true rfl) rfl rfl rfl (t_X12_u2 hG ⟨rfl, rfl⟩ g36) ?_
  obtain ⟨V38, hV38⟩ : ∃ z : sv_V, z = sv_I V35 146 19 x37 := ⟨_, rfl⟩
  have h := sx_letE hV38 h
  refine sv_putI (pc := 99) hG dX12_maxp_99 f_12_331 lay_146 rfl hV38 ?_
  refine sx_aload_n (pc := 102) dX12_maxp_102 sx_m1 ?_
  refine sx_ldc (pc := 103) dX12_maxp_103 k_X12_244 ?_
  obtain ⟨⟨x41, V39⟩, g40, h⟩ := sx_bnd h
  refine sv_cV (pc := 105) (y := qX12_lengthOf) (o := (some (.int x41))) (as := [.int (1835104368 : Int32)]) (V1 := V39) hG dX12_maxp_105 l_X12_257 y0X12_lengthOf yvX12_lengthOf rfl (Nat.le_of_ble_eq_true rfl) lay_146 kr_12 (by decide) (Nat.le_of_ble_eq_true rfl) rfl rfl rfl (t_X12_lengthOf hG ⟨rfl, rfl⟩ g40) ?_
  refine sx_bipush (pc := 108) (v := 32) dX12_maxp_108 (by decide) ?_
  refine sx_icmp_ne (pc := 110) (tgt := 249) dX12_maxp_110 (by decide) (fun c42 => ?_) (fun c42 => ?_)
  · have h := sx_neg c42 h
    refine sx_wk (sx_s1 sx_m1 sx_s0) ?_
    exact tB_X12_maxp_249 hG hP  h
  · have h := sx_pos c42 h
    refine sx_aload_n (pc := 113) dX12_maxp_113 sx_m1 ?_
    refine sx_iload_n (pc := 114) dX12_maxp_114 sx_m0 ?_
    obtain ⟨⟨x45, V43⟩, g44, h⟩ := sx_bnd h
    refine sv_cV (pc := 115) (y := qX12_u4) (o := (some (.long x45))) (as := [.int x6]) (V1 := V43) hG dX12_maxp_115 l_X12_297 y0X12_u4 yvX12_u4 rfl (Nat.le_of_ble_eq_true rfl) lay_146 kr_12 (by decide) (Nat.le_of_ble_eq_true rfl) rfl rfl rfl (t_X12_u4 hG ⟨rfl, rfl⟩ g44) ?_
    refine sx_ldc2 (pc := 118) dX12_maxp_118 k_X12_300 ?_
    refine sx_lcmp (pc := 121) dX12_maxp_121 ?_
    refine sx_if_ne (pc := 122) (tgt := 249) dX12_maxp_122 (by decide) (fun c46 => ?_) (fun c46 => ?_)
    · have h := sx_neg c46 h
      refine sx_wk (sx_s1 sx_m1 sx_s0) ?_
      exact tB_X12_maxp_249 hG hP  h
    · have h := sx_pos c46 h
      refine sx_aload_n (pc := 125) dX12_maxp_125 sx_m1 ?_
      refine sv_getI (pc := 126) hG dX12_maxp_126 f_12_260 lay_146 rfl ?_
      refine sx_i2l (pc := 129) dX12_maxp_129 ?_
      refine sx_lconst (pc := 130) (v := 1) dX12_maxp_130 rfl ?_
      refine sx_ldc2 (pc := 131) dX12_maxp_131 k_X12_334 ?_
      obtain ⟨⟨x49, V47⟩, g48, h⟩ := sx_bnd h
      refine sv_cS (pc := 134) (y := qX12_in) (o := (some (.int x49))) (as := [.long ((V43.1 146 12).toInt64), .long (1 : Int64), .long (200 : Int64)]) (V1 := V47) dX12_maxp_134 l_X12_263 y0X12_in ysX12_in rfl (Nat.le_of_ble_eq_true rfl) (by decide) (Nat.le_of_ble_eq_true rfl) rfl rfl rfl (t_X12_in hG ⟨rfl, rfl⟩ g48) ?_
      refine sx_if_eq (pc := 137) (tgt := 249) dX12_maxp_137 (by decide) (fun c50 => ?_) (fun c50 => ?_)
      · have h := sx_pos c50 h
        refine sx_wk (sx_s1 sx_m1 sx_s0) ?_
        exact tB_X12_maxp_249 hG hP  h
      · have h := sx_neg c50 h
        refine sx_aload_n (pc := 140) dX12_maxp_140 sx_m1 ?_
        refine sv_getI (pc := 141) hG dX12_maxp_141 f_12_313 lay_146 rfl ?_
        refine sx_i2l (pc := 144) dX12_maxp_144 ?_
        refine sx_lconst (pc := 145) (v := 1) dX12_maxp_145 rfl ?_
        refine sx_ldc2 (pc := 146) dX12_maxp_146 k_X12_336 ?_
        obtain ⟨⟨x53, V51⟩, g52, h⟩ := sx_bnd h
        refine sv_cS (pc := 149) (y := qX12_in) (o := (some (.int x53))) (as := [.long ((V47.1 146 13).toInt64), .long (1 : Int64), .long (2 : Int64)]) (V1 := V51) dX12_maxp_149 l_X12_263 y0X12_in ysX12_in rfl (Nat.le_of_ble_eq_true rfl) (by decide) (Nat.le_of_ble_eq_true rfl) rfl rfl rfl (t_X12_in hG ⟨rfl, rfl⟩ g52) ?_
        refine sx_if_eq (pc := 152) (tgt := 249) dX12_maxp_152 (by decide) (fun c54 => ?_) (fun c54 => ?_)
        · have h := sx_pos c54 h
          refine sx_wk (sx_s1 sx_m1 sx_s0) ?_
          exact tB_X12_maxp_249 hG hP  h
        · have h := sx_neg c54 h
          refine sx_aload_n (pc := 155) dX12_maxp_155 sx_m1 ?_
          refine sv_getI (pc := 156) hG dX12_maxp_156 f_12_316 lay_146 rfl ?_
          refine sx_i2l (pc := 159) dX12_maxp_159 ?_
          refine sx_lconst (pc := 160) (v := 0) dX12_maxp_160 rfl ?_
          refine sx_ldc2 (pc := 161) dX12_maxp_161 k_X12_338 ?_
          obtain ⟨⟨x57, V55⟩, g56, h⟩ := sx_bnd h
          refine sv_cS (pc := 164) (y := qX12_in) (o := (some (.int x57))) (as := [.long ((V51.1 146 14).toInt64), .long (0 : Int64), .long (64 : Int64)]) (V1 := V55) dX12_maxp_164 l_X12_263 y0X12_in ysX12_in rfl (Nat.le_of_ble_eq_true rfl) (by decide) (Nat.le_of_ble_eq_true rfl) rfl rfl rfl (t_X12_in hG ⟨rfl, rfl⟩ g56) ?_
          refine sx_if_eq (pc := 167) (tgt := 249) dX12_maxp_167 (by decide) (fun c58 => ?_) (fun c58 => ?_)
          · have h := sx_pos c58 h
            refine sx_wk (sx_s1 sx_m1 sx_s0) ?_
            exact tB_X12_maxp_249 hG hP  h
          · have h := sx_neg c58 h
            refine sx_aload_n (pc := 170) dX12_maxp_170 sx_m1 ?_
            refine sv_getI (pc := 171) hG dX12_maxp_171 f_12_319 lay_146 rfl ?_
            refine sx_i2l (pc := 174) dX12_maxp_174 ?_
            refine sx_lconst (pc := 175) (v := 0) dX12_maxp_175 rfl ?_
            refine sx_ldc2 (pc := 176) dX12_maxp_176 k_X12_338 ?_
            obtain ⟨⟨x61, V59⟩, g60, h⟩ := sx_bnd h
            refine sv_cS (pc := 179) (y := qX12_in) (o := (some (.int x61))) (as := [.long ((V55.1 146 15).toInt64), .long (0 : Int64), .long (64 : Int64)]) (V1 := V59) dX12_maxp_179 l_X12_263 y0X12_in ysX12_in rfl (Nat.le_of_ble_eq_true rfl) (by decide) (Nat.le_of_ble_eq_true rfl) rfl rfl rfl (t_X12_in hG ⟨rfl, rfl⟩ g60) ?_
            refine sx_if_eq (pc := 182) (tgt := 249) dX12_maxp_182 (by decide) (fun c62 => ?_) (fun c62 => ?_)
            · have h := sx_pos c62 h
              refine sx_wk (sx_s1 sx_m1 sx_s0) ?_
              exact tB_X12_maxp_249 hG hP  h
            · have h := sx_neg c62 h
              refine sx_aload_n (pc := 185) dX12_maxp_185 sx_m1 ?_
              refine sv_getI (pc := 186) hG dX12_maxp_186 f_12_322 lay_146 rfl ?_
              refine sx_i2l (pc := 189) dX12_maxp_189 ?_
              refine sx_lconst (pc := 190) (v := 0) dX12_maxp_190 rfl ?_
              refine sx_ldc2 (pc := 191) dX12_maxp_191 k_X12_338 ?_
              obtain ⟨⟨x65, V63⟩, g64, h⟩ := sx_bnd h
              refine sv_cS (pc := 194) (y := qX12_in) (o := (some (.int x65))) (as := [.long ((V59.1 146 16).toInt64), .long (0 : Int64), .long (64 : Int64)]) (V1 := V63) dX12_maxp_194 l_X12_263 y0X12_in ysX12_in rfl (Nat.le_of_ble_eq_true rfl) (by decide) (Nat.le_of_ble_eq_true rfl) rfl rfl rfl (t_X12_in hG ⟨rfl, rfl⟩ g64) ?_
              refine sx_if_eq (pc := 197) (tgt := 249) dX12_maxp_197 (by decide) (fun c66 => ?_) (fun c66 => ?_)
              · have h := sx_pos c66 h
                refine sx_wk (sx_s1 sx_m1 sx_s0) ?_
                exact tB_X12_maxp_249 hG hP  h
              · have h := sx_neg c66 h
                refine sx_aload_n (pc := 200) dX12_maxp_200 sx_m1 ?_
                refine sv_getI (pc := 201) hG dX12_maxp_201 f_12_325 lay_146 rfl ?_
                refine sx_i2l (pc := 204) dX12_maxp_204 ?_
                refine sx_lconst (pc := 205) (v := 0) dX12_maxp_205 rfl ?_
                refine sx_ldc2 (pc := 206) dX12_maxp_206 k_X12_232 ?_
                obtain ⟨⟨x69, V67⟩, g68, h⟩ := sx_bnd h
                refine sv_cS (pc := 209) (y := qX12_in) (o := (some (.int x69))) (as := [.long ((V63.1 146 17).toInt64), .long (0 : Int64), .long (16 : Int64)]) (V1 := V67) dX12_maxp_209 l_X12_263 y0X12_in ysX12_in rfl (Nat.le_of_ble_eq_true rfl) (by decide) (Nat.le_of_ble_eq_true rfl) rfl rfl rfl (t_X12_in hG ⟨rfl, rfl⟩ g68) ?_
                refine sx_if_eq (pc := 212) (tgt := 249) dX12_maxp_212 (by decide) (fun c70 => ?_) (fun c70 => ?_)
                · have h := sx_pos c70 h
                  refine sx_wk (sx_s1 sx_m1 sx_s0) ?_
                  exact tB_X12_maxp_249 hG hP  h
                · have h := sx_neg c70 h
                  refine sx_aload_n (pc := 215) dX12_maxp_215 sx_m1 ?_
                  refine sv_getI (pc := 216) hG dX12_maxp_216 f_12_328 lay_146 rfl ?_
                  refine sx_i2l (pc := 219) dX12_maxp_219 ?_
                  refine sx_lconst (pc := 220) (v := 0) dX12_maxp_220 rfl ?_
                  refine sx_ldc2 (pc := 221) dX12_maxp_221 k_X12_340 ?_
                  obtain ⟨⟨x73, V71⟩, g72, h⟩ := sx_bnd h
                  refine sv_cS (pc := 224) (y := qX12_in) (o := (some (.int x73))) (as := [.long ((V67.1 146 18).toInt64), .long (0 : Int64), .long (256 : Int64)]) (V1 := V71) dX12_maxp_224 l_X12_263 y0X12_in ysX12_in rfl (Nat.le_of_ble_eq_true rfl) (by decide) (Nat.le_of_ble_eq_true rfl) rfl rfl rfl (t_X12_in hG ⟨rfl, rfl⟩ g72) ?_
                  refine sx_if_eq (pc := 227) (tgt := 249) dX12_maxp_227 (by decide) (fun c74 => ?_) (fun c74 => ?_)
                  · have h := sx_pos c74 h
                    refine sx_wk (sx_s1 sx_m1 sx_s0) ?_
                    exact tB_X12_maxp_249 hG hP  h
                  · have h := sx_neg c74 h
                    refine sx_aload_n (pc := 230) dX12_maxp_230 sx_m1 ?_
                    refine sv_getI (pc := 231) hG dX12_maxp_231 f_12_331 lay_146 rfl ?_
                    refine sx_i2l (pc := 234) dX12_maxp_234 ?_
                    refine sx_lconst (pc := 235) (v := 0) dX12_maxp_235 rfl ?_
                    refine sx_ldc2 (pc := 236) dX12_maxp_236 k_X12_228 ?_
                    obtain ⟨⟨x77, V75⟩, g76, h⟩ := sx_bnd h
                    refine sv_cS (pc := 239) (y := qX12_in) (o := (some (.int x77))) (as := [.long ((V71.1 146 19).toInt64), .long (0 : Int64), .long (4 : Int64)]) (V1 := V75) dX12_maxp_239 l_X12_263 y0X12_in ysX12_in rfl (Nat.le_of_ble_eq_true rfl) (by decide) (Nat.le_of_ble_eq_true rfl) rfl rfl rfl (t_X12_in hG ⟨rfl, rfl⟩ g76) ?_
                    refine sx_if_eq (pc := 242) (tgt := 249) dX12_maxp_242 (by decide) (fun c78 => ?_) (fun c78 => ?_)
                    · have h := sx_pos c78 h
                      refine sx_wk (sx_s1 sx_m1 sx_s0) ?_
                      exact tB_X12_maxp_249 hG hP  h
                    · have h := sx_neg c78 h
                      refine sx_iconst (pc := 245) (v := 1) dX12_maxp_245 (by decide) ?_
                      refine sx_goto (pc := 246) (tgt := 250) dX12_maxp_246 (by decide) ?_
                      refine sx_wk (sx_s1 sx_m1 sx_s0) ?_
                      exact tB_X12_maxp_250 hG hP  h
def ncX12_loca : Nat := 369867904699844278028030285622051395900422801355378422501896291451214993615091463512077756527743530
theorem kcX12_loca : CK cX12_loca ncX12_loca 41 := ⟨by decide +kernel, by decide +kernel⟩
theorem dX12_loca_0 : decode cX12_loca 0 = .ok (.aload_n 0, 1) := dl_o42 kcX12_loca (by decide +kernel)
theorem dX12_loca_1 : decode cX12_loca 1 = .ok (.ldc 243, 2) := dl_o18 kcX12_loca (by decide +kernel)
theorem dX12_loca_3 : decode cX12_loca 3 = .ok (.invokevirtual 251, 3) := dl_o182 kcX12_loca (by decide +kernel)
theorem dX12_loca_6 : decode cX12_loca 6 = .ok (.istore_n 2, 1) := dl_o61 kcX12_loca (by decide +kernel)
theorem dX12_loca_7 : decode cX12_loca 7 = .ok (.aload_n 0, 1) := dl_o42 kcX12_loca (by decide +kernel)
theorem dX12_loca_8 : decode cX12_loca 8 = .ok (.getfield 271, 3) := dl_o180 kcX12_loca (by decide +kernel)
theorem dX12_loca_11 : decode cX12_loca 11 = .ok (.ifCond .ne 20, 3) := dl_o154 kcX12_loca 20 (by decide +kernel) (by decide +kernel)
theorem dX12_loca_14 : decode cX12_loca 14 = .ok (.ldc2_w 336, 3) := dl_o20 kcX12_loca (by decide +kernel)
theorem dX12_loca_17 : decode cX12_loca 17 = .ok (.aload_n 0, 1) := dl_o42 kcX12_loca (by decide +kernel)
theorem dX12_loca_18 : decode cX12_loca 18 = .ok (.iload_n 2, 1) := dl_o28 kcX12_loca (by decide +kernel)
theorem dX12_loca_19 : decode cX12_loca 19 = .ok (.iconst 2, 1) := dl_o5 kcX12_loca (by decide +kernel)
theorem dX12_loca_20 : decode cX12_loca 20 = .ok (.iload_n 1, 1) := dl_o27 kcX12_loca (by decide +kernel)
theorem dX12_loca_21 : decode cX12_loca 21 = .ok (.imul, 1) := dl_o104 kcX12_loca (by decide +kernel)
theorem dX12_loca_22 : decode cX12_loca 22 = .ok (.iadd, 1) := dl_o96 kcX12_loca (by decide +kernel)
theorem dX12_loca_23 : decode cX12_loca 23 = .ok (.invokevirtual 213, 3) := dl_o182 kcX12_loca (by decide +kernel)
theorem dX12_loca_26 : decode cX12_loca 26 = .ok (.i2l, 1) := dl_o133 kcX12_loca (by decide +kernel)
theorem dX12_loca_27 : decode cX12_loca 27 = .ok (.lmul, 1) := dl_o105 kcX12_loca (by decide +kernel)
theorem dX12_loca_28 : decode cX12_loca 28 = .ok (.goto 12, 3) := dl_o167 kcX12_loca 12 (by decide +kernel) (by decide +kernel)
theorem dX12_loca_31 : decode cX12_loca 31 = .ok (.aload_n 0, 1) := dl_o42 kcX12_loca (by decide +kernel)
theorem dX12_loca_32 : decode cX12_loca 32 = .ok (.iload_n 2, 1) := dl_o28 kcX12_loca (by decide +kernel)
theorem dX12_loca_33 : decode cX12_loca 33 = .ok (.iconst 4, 1) := dl_o7 kcX12_loca (by decide +kernel)
theorem dX12_loca_34 : decode cX12_loca 34 = .ok (.iload_n 1, 1) := dl_o27 kcX12_loca (by decide +kernel)
theorem dX12_loca_35 : decode cX12_loca 35 = .ok (.imul, 1) := dl_o104 kcX12_loca (by decide +kernel)
theorem dX12_loca_36 : decode cX12_loca 36 = .ok (.iadd, 1) := dl_o96 kcX12_loca (by decide +kernel)
theorem dX12_loca_37 : decode cX12_loca 37 = .ok (.invokevirtual 297, 3) := dl_o182 kcX12_loca (by decide +kernel)
theorem dX12_loca_40 : decode cX12_loca 40 = .ok (.lreturn, 1) := dl_o173 kcX12_loca (by decide +kernel)
def F_X12_loca (N : Nat) (l1 : Int32) (V : sv_V) : Option (Int64 × sv_V) := (F_X12_beginOf N (1819239265 : Int32) V).bind (fun (x3, V1) => if (V1.1 146 11) = 0 then ((F_X12_u2 (x3 + ((2 : Int32) * l1)) V1).bind (fun (x10, V8) => some ((2 : Int64) * x10.toInt64, V8))) else ((F_X12_u4 (x3 + ((4 : Int32) * l1)) V1).bind (fun (x7, V5) => some (x7, V5))))
set_option maxRecDepth 20000 in
theorem t_X12_loca {g : sx_G} (hG : sx_Go g) {P : Option Value → sv_V → Prop} {r : Int64} {Vr : sv_V} (hP : P (some (.long r)) Vr) {N : Nat} {l1 : Int32} {V : sv_V} (h : F_X12_loca N l1 V = some (r, Vr)) : sv_N g qX12_loca 3 0 [(0, .ref 146), (1, .int l1)] [] V P := by
  unfold F_X12_loca at h
  refine sx_aload_n (pc := 0) dX12_loca_0 sx_m0 ?_
  refine sx_ldc (pc := 1) dX12_loca_1 k_X12_243 ?_
  obtain ⟨⟨x3, V1⟩, g2, h⟩ := sx_bnd h
  refine sv_cV (pc := 3) (y := qX12_beginOf) (o := (some (.int x3))) (as := [.int (1819239265 : Int32)]) (V1 := V1) hG dX12_loca_3 l_X12_251 y0X12_beginOf yvX12_beginOf rfl (Nat.le_of_ble_eq_true rfl) lay_146 kr_12 (by decide) (Nat.le_of_ble_eq_true rfl) rfl rfl rfl (t_X12_beginOf hG ⟨rfl, rfl⟩ g2) ?_
  refine sx_istore_n (pc := 6) (lo' := [(2, .int x3), (0, .ref 146), (1, .int l1)]) dX12_loca_6 (by decide) rfl ?_
  refine sx_aload_n (pc := 7) dX12_loca_7 sx_m1 ?_
  refine sv_getI (pc := 8) hG dX12_loca_8 f_12_271 lay_146 rfl ?_
  refine sx_if_ne (pc := 11) (tgt := 31) dX12_loca_11 (by decide) (fun c4 => ?_) (fun c4 => ?_)
  · have h := sx_neg c4 h
    refine sx_aload_n (pc := 31) dX12_loca_31 sx_m1 ?_
    refine sx_iload_n (pc := 32) dX12_loca_32 sx_m0 ?_
    refine sx_iconst (pc := 33) (v := 4) dX12_loca_33 (by decide) ?_
    refine sx_iload_n (pc := 34) dX12_loca_34 sx_m2 ?_
    refine sx_imul (pc := 35) dX12_loca_35 ?_
    refine sx_iadd (pc := 36) dX12_loca_36 ?_
    obtain ⟨⟨x7, V5⟩, g6, h⟩ := sx_bnd h
    refine sv_cV (pc := 37) (y := qX12_u4) (o := (some (.long x7))) (as := [.int (x3 + ((4 : Int32) * l1))]) (V1 := V5) hG dX12_loca_37 l_X12_297 y0X12_u4 yvX12_u4 rfl (Nat.le_of_ble_eq_true rfl) lay_146 kr_12 (by decide) (Nat.le_of_ble_eq_true rfl) rfl rfl rfl (t_X12_u4 hG ⟨rfl, rfl⟩ g6) ?_
    exact sv_lret (pc := 40) dX12_loca_40 rfl h hP
  · have h := sx_pos c4 h
    refine sx_ldc2 (pc := 14) dX12_loca_14 k_X12_336 ?_
    refine sx_aload_n (pc := 17) dX12_loca_17 sx_m1 ?_
    refine sx_iload_n (pc := 18) dX12_loca_18 sx_m0 ?_
    refine sx_iconst (pc := 19) (v := 2) dX12_loca_19 (by decide) ?_
    refine sx_iload_n (pc := 20) dX12_loca_20 sx_m2 ?_
    refine sx_imul (pc := 21) dX12_loca_21 ?_
    refine sx_iadd (pc := 22) dX12_loca_22 ?_
    obtain ⟨⟨x10, V8⟩, g9, h⟩ := sx_bnd h
    refine sv_cV (pc := 23) (y := qX12_u2) (o := (some (.int x10))) (as := [.int (x3 + ((2 : Int32) * l1))]) (V1 := V8) hG dX12_loca_23 l_X12_213 y0X12_u2 yvX12_u2 rfl (Nat.le_of_ble_eq_true rfl) lay_146 kr_12 (by decide) (Nat.le_of_ble_eq_true rfl) rfl rfl rfl (t_X12_u2 hG ⟨rfl, rfl⟩ g9) ?_
    refine sx_i2l (pc := 26) dX12_loca_26 ?_
    refine sx_lmul (pc := 27) dX12_loca_27 ?_
    refine sx_goto (pc := 28) (tgt := 40) dX12_loca_28 (by decide) ?_
    exact sv_lret (pc := 40) dX12_loca_40 rfl h hP
def ncX12_bytesOf : Nat := 227827422314431530960803558235290145963204683361674765366011023795586818963714122680973043267073359240078693061735971097836028979398712105441588905310273013883983016821919768999824079410165266748840669502122538
theorem kcX12_bytesOf : CK cX12_bytesOf ncX12_bytesOf 87 := ⟨by decide +kernel, by decide +kernel⟩
theorem dX12_bytesOf_0 : decode cX12_bytesOf 0 = .ok (.aload_n 0, 1) := dl_o42 kcX12_bytesOf (by decide +kernel)
theorem dX12_bytesOf_1 : decode cX12_bytesOf 1 = .ok (.aload_n 0, 1) := dl_o42 kcX12_bytesOf (by decide +kernel)
theorem dX12_bytesOf_2 : decode cX12_bytesOf 2 = .ok (.ldc 240, 2) := dl_o18 kcX12_bytesOf (by decide +kernel)
theorem dX12_bytesOf_4 : decode cX12_bytesOf 4 = .ok (.invokevirtual 251, 3) := dl_o182 kcX12_bytesOf (by decide +kernel)
theorem dX12_bytesOf_7 : decode cX12_bytesOf 7 = .ok (.aload_n 0, 1) := dl_o42 kcX12_bytesOf (by decide +kernel)
theorem dX12_bytesOf_8 : decode cX12_bytesOf 8 = .ok (.iload_n 1, 1) := dl_o27 kcX12_bytesOf (by decide +kernel)
theorem dX12_bytesOf_9 : decode cX12_bytesOf 9 = .ok (.invokevirtual 274, 3) := dl_o182 kcX12_bytesOf (by decide +kernel)
theorem dX12_bytesOf_12 : decode cX12_bytesOf 12 = .ok (.l2i, 1) := dl_o136 kcX12_bytesOf (by decide +kernel)
theorem dX12_bytesOf_13 : decode cX12_bytesOf 13 = .ok (.iadd, 1) := dl_o96 kcX12_bytesOf (by decide +kernel)
theorem dX12_bytesOf_14 : decode cX12_bytesOf 14 = .ok (.putfield 342, 3) := dl_o181 kcX12_bytesOf (by decide +kernel)
theorem dX12_bytesOf_17 : decode cX12_bytesOf 17 = .ok (.aload_n 0, 1) := dl_o42 kcX12_bytesOf (by decide +kernel)
theorem dX12_bytesOf_18 : decode cX12_bytesOf 18 = .ok (.aload_n 0, 1) := dl_o42 kcX12_bytesOf (by decide +kernel)
theorem dX12_bytesOf_19 : decode cX12_bytesOf 19 = .ok (.ldc 240, 2) := dl_o18 kcX12_bytesOf (by decide +kernel)
theorem dX12_bytesOf_21 : decode cX12_bytesOf 21 = .ok (.invokevirtual 251, 3) := dl_o182 kcX12_bytesOf (by decide +kernel)
theorem dX12_bytesOf_24 : decode cX12_bytesOf 24 = .ok (.aload_n 0, 1) := dl_o42 kcX12_bytesOf (by decide +kernel)
theorem dX12_bytesOf_25 : decode cX12_bytesOf 25 = .ok (.iload_n 1, 1) := dl_o27 kcX12_bytesOf (by decide +kernel)
theorem dX12_bytesOf_26 : decode cX12_bytesOf 26 = .ok (.iconst 1, 1) := dl_o4 kcX12_bytesOf (by decide +kernel)
theorem dX12_bytesOf_27 : decode cX12_bytesOf 27 = .ok (.iadd, 1) := dl_o96 kcX12_bytesOf (by decide +kernel)
theorem dX12_bytesOf_28 : decode cX12_bytesOf 28 = .ok (.invokevirtual 274, 3) := dl_o182 kcX12_bytesOf (by decide +kernel)
theorem dX12_bytesOf_31 : decode cX12_bytesOf 31 = .ok (.l2i, 1) := dl_o136 kcX12_bytesOf (by decide +kernel)
theorem dX12_bytesOf_32 : decode cX12_bytesOf 32 = .ok (.iadd, 1) := dl_o96 kcX12_bytesOf (by decide +kernel)
theorem dX12_bytesOf_33 : decode cX12_bytesOf 33 = .ok (.putfield 345, 3) := dl_o181 kcX12_bytesOf (by decide +kernel)
theorem dX12_bytesOf_36 : decode cX12_bytesOf 36 = .ok (.aload_n 0, 1) := dl_o42 kcX12_bytesOf (by decide +kernel)
theorem dX12_bytesOf_37 : decode cX12_bytesOf 37 = .ok (.aload_n 0, 1) := dl_o42 kcX12_bytesOf (by decide +kernel)
theorem dX12_bytesOf_38 : decode cX12_bytesOf 38 = .ok (.getfield 342, 3) := dl_o180 kcX12_bytesOf (by decide +kernel)
theorem dX12_bytesOf_41 : decode cX12_bytesOf 41 = .ok (.aload_n 0, 1) := dl_o42 kcX12_bytesOf (by decide +kernel)
theorem dX12_bytesOf_42 : decode cX12_bytesOf 42 = .ok (.getfield 345, 3) := dl_o180 kcX12_bytesOf (by decide +kernel)
theorem dX12_bytesOf_45 : decode cX12_bytesOf 45 = .ok (.if_icmp .ne 7, 3) := dl_o160 kcX12_bytesOf 7 (by decide +kernel) (by decide +kernel)
theorem dX12_bytesOf_48 : decode cX12_bytesOf 48 = .ok (.iconst 0, 1) := dl_o3 kcX12_bytesOf (by decide +kernel)
theorem dX12_bytesOf_49 : decode cX12_bytesOf 49 = .ok (.goto 11, 3) := dl_o167 kcX12_bytesOf 11 (by decide +kernel) (by decide +kernel)
theorem dX12_bytesOf_52 : decode cX12_bytesOf 52 = .ok (.aload_n 0, 1) := dl_o42 kcX12_bytesOf (by decide +kernel)
theorem dX12_bytesOf_53 : decode cX12_bytesOf 53 = .ok (.aload_n 0, 1) := dl_o42 kcX12_bytesOf (by decide +kernel)
theorem dX12_bytesOf_54 : decode cX12_bytesOf 54 = .ok (.getfield 342, 3) := dl_o180 kcX12_bytesOf (by decide +kernel)
theorem dX12_bytesOf_57 : decode cX12_bytesOf 57 = .ok (.invokevirtual 305, 3) := dl_o182 kcX12_bytesOf (by decide +kernel)
theorem dX12_bytesOf_60 : decode cX12_bytesOf 60 = .ok (.putfield 348, 3) := dl_o181 kcX12_bytesOf (by decide +kernel)
theorem dX12_bytesOf_63 : decode cX12_bytesOf 63 = .ok (.aload_n 0, 1) := dl_o42 kcX12_bytesOf (by decide +kernel)
theorem dX12_bytesOf_64 : decode cX12_bytesOf 64 = .ok (.iconst 0, 1) := dl_o3 kcX12_bytesOf (by decide +kernel)
theorem dX12_bytesOf_65 : decode cX12_bytesOf 65 = .ok (.putfield 351, 3) := dl_o181 kcX12_bytesOf (by decide +kernel)
theorem dX12_bytesOf_68 : decode cX12_bytesOf 68 = .ok (.aload_n 0, 1) := dl_o42 kcX12_bytesOf (by decide +kernel)
theorem dX12_bytesOf_69 : decode cX12_bytesOf 69 = .ok (.iconst 0, 1) := dl_o3 kcX12_bytesOf (by decide +kernel)
theorem dX12_bytesOf_70 : decode cX12_bytesOf 70 = .ok (.putfield 354, 3) := dl_o181 kcX12_bytesOf (by decide +kernel)
theorem dX12_bytesOf_73 : decode cX12_bytesOf 73 = .ok (.aload_n 0, 1) := dl_o42 kcX12_bytesOf (by decide +kernel)
theorem dX12_bytesOf_74 : decode cX12_bytesOf 74 = .ok (.aload_n 0, 1) := dl_o42 kcX12_bytesOf (by decide +kernel)
theorem dX12_bytesOf_75 : decode cX12_bytesOf 75 = .ok (.getfield 345, 3) := dl_o180 kcX12_bytesOf (by decide +kernel)
theorem dX12_bytesOf_78 : decode cX12_bytesOf 78 = .ok (.putfield 357, 3) := dl_o181 kcX12_bytesOf (by decide +kernel)
theorem dX12_bytesOf_81 : decode cX12_bytesOf 81 = .ok (.aload_n 0, 1) := dl_o42 kcX12_bytesOf (by decide +kernel)
theorem dX12_bytesOf_82 : decode cX12_bytesOf 82 = .ok (.iconst 0, 1) := dl_o3 kcX12_bytesOf (by decide +kernel)
theorem dX12_bytesOf_83 : decode cX12_bytesOf 83 = .ok (.putfield 360, 3) := dl_o181 kcX12_bytesOf (by decide +kernel)
theorem dX12_bytesOf_86 : decode cX12_bytesOf 86 = .ok (.return_, 1) := dl_o177 kcX12_bytesOf (by decide +kernel)
def B_X12_bytesOf_60 (N : Nat)  (s1 : Int32) (V : sv_V) : Option sv_V := sx_let (sv_I V 146 28 s1) (fun V1 => sx_let (sv_I V1 146 29 (0 : Int32)) (fun V2 => sx_let (sv_I V2 146 30 (0 : Int32)) (fun V3 => sx_let (sv_I V3 146 31 (V3.1 146 27)) (fun V4 => sx_let (sv_I V4 146 32 (0 : Int32)) (fun V5 => some V5)))))
set_option maxRecDepth 20000 in
theorem tB_X12_bytesOf_60 {g : sx_G} (hG : sx_Go g) {P : Option Value → sv_V → Prop} {Vr : sv_V} (hP : P none Vr) {N : Nat}   {s1 : Int32} {V : sv_V} (h : B_X12_bytesOf_60 N  s1 V = some Vr) : sv_N g qX12_bytesOf 4 60 [(0, .ref 146)] [.int s1, .ref 146] V P := by
  unfold B_X12_bytesOf_60 at h
  obtain ⟨V1, hV1⟩ : ∃ z : sv_V, z = sv_I V 146 28 s1 := ⟨_, rfl⟩
  have h := sx_letE hV1 h
  refine sv_putI (pc := 60) hG dX12_bytesOf_60 f_12_348 lay_146 rfl hV1 ?_
  refine sx_aload_n (pc := 63) dX12_bytesOf_63 sx_m0 ?_
  refine sx_iconst (pc := 64) (v := 0) dX12_bytesOf_64 (by decide) ?_
  obtain ⟨V2, hV2⟩ : ∃ z : sv_V, z = sv_I V1 146 29 (0 : Int32) := ⟨_, rfl⟩
  have h := sx_letE hV2 h
  refine sv_putI (pc := 65) hG dX12_bytesOf_65 f_12_351 lay_146 rfl hV2 ?_
  refine sx_aload_n (pc := 68) dX12_bytesOf_68 sx_m0 ?_
  refine sx_iconst (pc := 69) (v := 0) dX12_bytesOf_69 (by decide) ?_
  obtain ⟨V3, hV3⟩ : ∃ z : sv_V, z = sv_I V2 146 30 (0 : Int32) := ⟨_, rfl⟩
  have h := sx_letE hV3 h
  refine sv_putI (pc := 70) hG dX12_bytesOf_70 f_12_354 lay_146 rfl hV3 ?_
  refine sx_aload_n (pc := 73) dX12_bytesOf_73 sx_m0 ?_
  refine sx_aload_n (pc := 74) dX12_bytesOf_74 sx_m0 ?_
  refine sv_getI (pc := 75) hG dX12_bytesOf_75 f_12_345 lay_146 rfl ?_
  obtain ⟨V4, hV4⟩ : ∃ z : sv_V, z = sv_I V3 146 31 (V3.1 146 27) := ⟨_, rfl⟩
  have h := sx_letE hV4 h
  refine sv_putI (pc := 78) hG dX12_bytesOf_78 f_12_357 lay_146 rfl hV4 ?_
  refine sx_aload_n (pc := 81) dX12_bytesOf_81 sx_m0 ?_
  refine sx_iconst (pc := 82) (v := 0) dX12_bytesOf_82 (by decide) ?_
  obtain ⟨V5, hV5⟩ : ∃ z : sv_V, z = sv_I V4 146 32 (0 : Int32) := ⟨_, rfl⟩
  have h := sx_letE hV5 h
  refine sv_putI (pc := 83) hG dX12_bytesOf_83 f_12_360 lay_146 rfl hV5 ?_
  exact sv_vret (pc := 86) dX12_bytesOf_86 rfl h hP
def F_X12_bytesOf (N : Nat) (l1 : Int32) (V : sv_V) : Option sv_V := (F_X12_beginOf N (1735162214 : Int32) V).bind (fun (x8, V6) => (F_X12_loca N l1 V6).bind (fun (x11, V9) => sx_let (sv_I V9 146 26 (x8 + x11.toInt32)) (fun V12 => (F_X12_beginOf N (1735162214 : Int32) V12).bind (fun (x15, V13) => (F_X12_loca N (l1 + (1 : Int32)) V13).bind (fun (x18, V16) => sx_let (sv_I V16 146 27 (x15 + x18.toInt32)) (fun V19 => if (V19.1 146 26) = (V19.1 146 27) then (B_X12_bytesOf_60 N  (0 : Int32) V19) else ((F_X12_s2 (V19.1 146 26) V19).bind (fun (x23, V21) => B_X12_bytesOf_60 N  x23 V21))))))))
set_option maxRecDepth 20000 in
theorem t_X12_bytesOf {g : sx_G} (hG : sx_Go g) {P : Option Value → sv_V → Prop} {Vr : sv_V} (hP : P none Vr) {N : Nat} {l1 : Int32} {V : sv_V} (h : F_X12_bytesOf N l1 V = some Vr) : sv_N g qX12_bytesOf 4 0 [(0, .ref 146), (1, .int l1)] [] V P := by
  unfold F_X12_bytesOf at h
  refine sx_aload_n (pc := 0) dX12_bytesOf_0 sx_m0 ?_
  refine sx_aload_n (pc := 1) dX12_bytesOf_1 sx_m0 ?_
  refine sx_ldc (pc := 2) dX12_bytesOf_2 k_X12_240 ?_
  obtain ⟨⟨x8, V6⟩, g7, h⟩ := sx_bnd h
  refine sv_cV (pc := 4) (y := qX12_beginOf) (o := (some (.int x8))) (as := [.int (1735162214 : Int32)]) (V1 := V6) hG dX12_bytesOf_4 l_X12_251 y0X12_beginOf yvX12_beginOf rfl (Nat.le_of_ble_eq_true rfl) lay_146 kr_12 (by decide) (Nat.le_of_ble_eq_true rfl) rfl rfl rfl (t_X12_beginOf hG ⟨rfl, rfl⟩ g7) ?_
  refine sx_aload_n (pc := 7) dX12_bytesOf_7 sx_m0 ?_
  refine sx_iload_n (pc := 8) dX12_bytesOf_8 sx_m1 ?_
  obtain ⟨⟨x11, V9⟩, g10, h⟩ := sx_bnd h
  refine sv_cV (pc := 9) (y := qX12_loca) (o := (some (.long x11))) (as := [.int l1]) (V1 := V9) hG dX12_bytesOf_9 l_X12_274 y0X12_loca yvX12_loca rfl (Nat.le_of_ble_eq_true rfl) lay_146 kr_12 (by decide) (Nat.le_of_ble_eq_true rfl) rfl rfl rfl (t_X12_loca hG ⟨rfl, rfl⟩ g10) ?_
  refine sx_l2i (pc := 12) dX12_bytesOf_12 ?_
  refine sx_iadd (pc := 13) dX12_bytesOf_13 ?_
  obtain ⟨V12, hV12⟩ : ∃ z : sv_V, z = sv_I V9 146 26 (x8 + x11.toInt32) := ⟨_, rfl⟩
  have h := sx_letE hV12 h
  refine sv_putI (pc := 14) hG dX12_bytesOf_14 f_12_342 lay_146 rfl hV12 ?_
  refine sx_aload_n (pc := 17) dX12_bytesOf_17 sx_m0 ?_
  refine sx_aload_n (pc := 18) dX12_bytesOf_18 sx_m0 ?_
  refine sx_ldc (pc := 19) dX12_bytesOf_19 k_X12_240 ?_
  obtain ⟨⟨x15, V13⟩, g14, h⟩ := sx_bnd h
  refine sv_cV (pc := 21) (y := qX12_beginOf) (o := (some (.int x15))) (as := [.int (1735162214 : Int32)]) (V1 := V13) hG dX12_bytesOf_21 l_X12_251 y0X12_beginOf yvX12_beginOf rfl (Nat.le_of_ble_eq_true rfl) lay_146 kr_12 (by decide) (Nat.le_of_ble_eq_true rfl) rfl rfl rfl (t_X12_beginOf hG ⟨rfl, rfl⟩ g14) ?_
  refine sx_aload_n (pc := 24) dX12_bytesOf_24 sx_m0 ?_
  refine sx_iload_n (pc := 25) dX12_bytesOf_25 sx_m1 ?_
  refine sx_iconst (pc := 26) (v := 1) dX12_bytesOf_26 (by decide) ?_
  refine sx_iadd (pc := 27) dX12_bytesOf_27 ?_
  obtain ⟨⟨x18, V16⟩, g17, h⟩ := sx_bnd h
  refine sv_cV (pc := 28) (y := qX12_loca) (o := (some (.long x18))) (as := [.int (l1 + (1 : Int32))]) (V1 := V16) hG dX12_bytesOf_28 l_X12_274 y0X12_loca yvX12_loca rfl (Nat.le_of_ble_eq_true rfl) lay_146 kr_12 (by decide) (Nat.le_of_ble_eq_true rfl) rfl rfl rfl (t_X12_loca hG ⟨rfl, rfl⟩ g17) ?_
  refine sx_l2i (pc := 31) dX12_bytesOf_31 ?_
  refine sx_iadd (pc := 32) dX12_bytesOf_32 ?_
  obtain ⟨V19, hV19⟩ : ∃ z : sv_V, z = sv_I V16 146 27 (x15 + x18.toInt32) := ⟨_, rfl⟩
  have h := sx_letE hV19 h
  refine sv_putI (pc := 33) hG dX12_bytesOf_33 f_12_345 lay_146 rfl hV19 ?_
  refine sx_aload_n (pc := 36) dX12_bytesOf_36 sx_m0 ?_
  refine sx_aload_n (pc := 37) dX12_bytesOf_37 sx_m0 ?_
  refine sv_getI (pc := 38) hG dX12_bytesOf_38 f_12_342 lay_146 rfl ?_
  refine sx_aload_n (pc := 41) dX12_bytesOf_41 sx_m0 ?_
  refine sv_getI (pc := 42) hG dX12_bytesOf_42 f_12_345 lay_146 rfl ?_
  refine sx_icmp_ne (pc := 45) (tgt := 52) dX12_bytesOf_45 (by decide) (fun c20 => ?_) (fun c20 => ?_)
  · have h := sx_neg c20 h
    refine sx_aload_n (pc := 52) dX12_bytesOf_52 sx_m0 ?_
    refine sx_aload_n (pc := 53) dX12_bytesOf_53 sx_m0 ?_
    refine sv_getI (pc := 54) hG dX12_bytesOf_54 f_12_342 lay_146 rfl ?_
    obtain ⟨⟨x23, V21⟩, g22, h⟩ := sx_bnd h
    refine sv_cV (pc := 57) (y := qX12_s2) (o := (some (.int x23))) (as := [.int (V19.1 146 26)]) (V1 := V21) hG dX12_bytesOf_57 l_X12_305 y0X12_s2 yvX12_s2 rfl (Nat.le_of_ble_eq_true rfl) lay_146 kr_12 (by decide) (Nat.le_of_ble_eq_true rfl) rfl rfl rfl (t_X12_s2 hG ⟨rfl, rfl⟩ g22) ?_
    refine sx_wk (sx_s1 sx_m0 sx_s0) ?_
    exact tB_X12_bytesOf_60 hG hP  h
  · have h := sx_pos c20 h
    refine sx_iconst (pc := 48) (v := 0) dX12_bytesOf_48 (by decide) ?_
    refine sx_goto (pc := 49) (tgt := 60) dX12_bytesOf_49 (by decide) ?_
    refine sx_wk (sx_s1 sx_m0 sx_s0) ?_
    exact tB_X12_bytesOf_60 hG hP  h
def ncX12_coordinates : Nat := 194112415626019788003238727243337199489463572191551011939211687517311628827202567527575814078751091024533583734643615470237206290109321525294950973871192097770262438508618052837096441646697103440355569541201568481140055542218131177390684790905505581754425996278708127808515540395230963023100355867079500388608539823802776437844716886261531365240137822757413307610904091
theorem kcX12_coordinates : CK cX12_coordinates ncX12_coordinates 153 := ⟨by decide +kernel, by decide +kernel⟩
theorem dX12_coordinates_0 : decode cX12_coordinates 0 = .ok (.iload_n 1, 1) := dl_o27 kcX12_coordinates (by decide +kernel)
theorem dX12_coordinates_1 : decode cX12_coordinates 1 = .ok (.istore 5, 2) := dl_o54 kcX12_coordinates (by decide +kernel)
theorem dX12_coordinates_3 : decode cX12_coordinates 3 = .ok (.iconst 0, 1) := dl_o3 kcX12_coordinates (by decide +kernel)
theorem dX12_coordinates_4 : decode cX12_coordinates 4 = .ok (.istore 6, 2) := dl_o54 kcX12_coordinates (by decide +kernel)
theorem dX12_coordinates_6 : decode cX12_coordinates 6 = .ok (.iconst 0, 1) := dl_o3 kcX12_coordinates (by decide +kernel)
theorem dX12_coordinates_7 : decode cX12_coordinates 7 = .ok (.istore 7, 2) := dl_o54 kcX12_coordinates (by decide +kernel)
theorem dX12_coordinates_9 : decode cX12_coordinates 9 = .ok (.iload 7, 2) := dl_o21 kcX12_coordinates (by decide +kernel)
theorem dX12_coordinates_11 : decode cX12_coordinates 11 = .ok (.aload_n 0, 1) := dl_o42 kcX12_coordinates (by decide +kernel)
theorem dX12_coordinates_12 : decode cX12_coordinates 12 = .ok (.getfield 351, 3) := dl_o180 kcX12_coordinates (by decide +kernel)
theorem dX12_coordinates_15 : decode cX12_coordinates 15 = .ok (.if_icmp .ge 135, 3) := dl_o162 kcX12_coordinates 135 (by decide +kernel) (by decide +kernel)
theorem dX12_coordinates_18 : decode cX12_coordinates 18 = .ok (.aload_n 0, 1) := dl_o42 kcX12_coordinates (by decide +kernel)
theorem dX12_coordinates_19 : decode cX12_coordinates 19 = .ok (.getfield 39, 3) := dl_o180 kcX12_coordinates (by decide +kernel)
theorem dX12_coordinates_22 : decode cX12_coordinates 22 = .ok (.iload 7, 2) := dl_o21 kcX12_coordinates (by decide +kernel)
theorem dX12_coordinates_24 : decode cX12_coordinates 24 = .ok (.iaload, 1) := dl_o46 kcX12_coordinates (by decide +kernel)
theorem dX12_coordinates_25 : decode cX12_coordinates 25 = .ok (.iload 4, 2) := dl_o21 kcX12_coordinates (by decide +kernel)
theorem dX12_coordinates_27 : decode cX12_coordinates 27 = .ok (.iand, 1) := dl_o126 kcX12_coordinates (by decide +kernel)
theorem dX12_coordinates_28 : decode cX12_coordinates 28 = .ok (.ifCond .eq 7, 3) := dl_o153 kcX12_coordinates 7 (by decide +kernel) (by decide +kernel)
theorem dX12_coordinates_31 : decode cX12_coordinates 31 = .ok (.iconst 1, 1) := dl_o4 kcX12_coordinates (by decide +kernel)
theorem dX12_coordinates_32 : decode cX12_coordinates 32 = .ok (.goto 4, 3) := dl_o167 kcX12_coordinates 4 (by decide +kernel) (by decide +kernel)
theorem dX12_coordinates_35 : decode cX12_coordinates 35 = .ok (.iconst 0, 1) := dl_o3 kcX12_coordinates (by decide +kernel)
theorem dX12_coordinates_36 : decode cX12_coordinates 36 = .ok (.istore 8, 2) := dl_o54 kcX12_coordinates (by decide +kernel)
theorem dX12_coordinates_38 : decode cX12_coordinates 38 = .ok (.aload_n 0, 1) := dl_o42 kcX12_coordinates (by decide +kernel)
theorem dX12_coordinates_39 : decode cX12_coordinates 39 = .ok (.getfield 39, 3) := dl_o180 kcX12_coordinates (by decide +kernel)
theorem dX12_coordinates_42 : decode cX12_coordinates 42 = .ok (.iload 7, 2) := dl_o21 kcX12_coordinates (by decide +kernel)
theorem dX12_coordinates_44 : decode cX12_coordinates 44 = .ok (.iaload, 1) := dl_o46 kcX12_coordinates (by decide +kernel)
theorem dX12_coordinates_45 : decode cX12_coordinates 45 = .ok (.iload_n 3, 1) := dl_o29 kcX12_coordinates (by decide +kernel)
theorem dX12_coordinates_46 : decode cX12_coordinates 46 = .ok (.iand, 1) := dl_o126 kcX12_coordinates (by decide +kernel)
theorem dX12_coordinates_47 : decode cX12_coordinates 47 = .ok (.ifCond .eq 7, 3) := dl_o153 kcX12_coordinates 7 (by decide +kernel) (by decide +kernel)
theorem dX12_coordinates_50 : decode cX12_coordinates 50 = .ok (.iconst 1, 1) := dl_o4 kcX12_coordinates (by decide +kernel)
theorem dX12_coordinates_51 : decode cX12_coordinates 51 = .ok (.goto 13, 3) := dl_o167 kcX12_coordinates 13 (by decide +kernel) (by decide +kernel)
theorem dX12_coordinates_54 : decode cX12_coordinates 54 = .ok (.iload 8, 2) := dl_o21 kcX12_coordinates (by decide +kernel)
theorem dX12_coordinates_56 : decode cX12_coordinates 56 = .ok (.ifCond .eq 7, 3) := dl_o153 kcX12_coordinates 7 (by decide +kernel) (by decide +kernel)
theorem dX12_coordinates_59 : decode cX12_coordinates 59 = .ok (.iconst 0, 1) := dl_o3 kcX12_coordinates (by decide +kernel)
theorem dX12_coordinates_60 : decode cX12_coordinates 60 = .ok (.goto 4, 3) := dl_o167 kcX12_coordinates 4 (by decide +kernel) (by decide +kernel)
theorem dX12_coordinates_63 : decode cX12_coordinates 63 = .ok (.iconst 2, 1) := dl_o5 kcX12_coordinates (by decide +kernel)
theorem dX12_coordinates_64 : decode cX12_coordinates 64 = .ok (.istore 9, 2) := dl_o54 kcX12_coordinates (by decide +kernel)
theorem dX12_coordinates_66 : decode cX12_coordinates 66 = .ok (.iload 5, 2) := dl_o21 kcX12_coordinates (by decide +kernel)
theorem dX12_coordinates_68 : decode cX12_coordinates 68 = .ok (.iload 9, 2) := dl_o21 kcX12_coordinates (by decide +kernel)
theorem dX12_coordinates_70 : decode cX12_coordinates 70 = .ok (.iadd, 1) := dl_o96 kcX12_coordinates (by decide +kernel)
theorem dX12_coordinates_71 : decode cX12_coordinates 71 = .ok (.aload_n 0, 1) := dl_o42 kcX12_coordinates (by decide +kernel)
theorem dX12_coordinates_72 : decode cX12_coordinates 72 = .ok (.getfield 345, 3) := dl_o180 kcX12_coordinates (by decide +kernel)
theorem dX12_coordinates_75 : decode cX12_coordinates 75 = .ok (.if_icmp .le 5, 3) := dl_o164 kcX12_coordinates 5 (by decide +kernel) (by decide +kernel)
theorem dX12_coordinates_78 : decode cX12_coordinates 78 = .ok (.iconst (-1), 1) := dl_o2 kcX12_coordinates (by decide +kernel)
theorem dX12_coordinates_79 : decode cX12_coordinates 79 = .ok (.ireturn, 1) := dl_o172 kcX12_coordinates (by decide +kernel)
theorem dX12_coordinates_80 : decode cX12_coordinates 80 = .ok (.iload 6, 2) := dl_o21 kcX12_coordinates (by decide +kernel)
theorem dX12_coordinates_82 : decode cX12_coordinates 82 = .ok (.iload 9, 2) := dl_o21 kcX12_coordinates (by decide +kernel)
theorem dX12_coordinates_84 : decode cX12_coordinates 84 = .ok (.iconst 1, 1) := dl_o4 kcX12_coordinates (by decide +kernel)
theorem dX12_coordinates_85 : decode cX12_coordinates 85 = .ok (.if_icmp .ne 27, 3) := dl_o160 kcX12_coordinates 27 (by decide +kernel) (by decide +kernel)
theorem dX12_coordinates_88 : decode cX12_coordinates 88 = .ok (.iload 8, 2) := dl_o21 kcX12_coordinates (by decide +kernel)
theorem dX12_coordinates_90 : decode cX12_coordinates 90 = .ok (.ifCond .eq 12, 3) := dl_o153 kcX12_coordinates 12 (by decide +kernel) (by decide +kernel)
theorem dX12_coordinates_93 : decode cX12_coordinates 93 = .ok (.aload_n 0, 1) := dl_o42 kcX12_coordinates (by decide +kernel)
theorem dX12_coordinates_94 : decode cX12_coordinates 94 = .ok (.iload 5, 2) := dl_o21 kcX12_coordinates (by decide +kernel)
theorem dX12_coordinates_96 : decode cX12_coordinates 96 = .ok (.invokevirtual 209, 3) := dl_o182 kcX12_coordinates (by decide +kernel)
theorem dX12_coordinates_99 : decode cX12_coordinates 99 = .ok (.goto 29, 3) := dl_o167 kcX12_coordinates 29 (by decide +kernel) (by decide +kernel)
theorem dX12_coordinates_102 : decode cX12_coordinates 102 = .ok (.aload_n 0, 1) := dl_o42 kcX12_coordinates (by decide +kernel)
theorem dX12_coordinates_103 : decode cX12_coordinates 103 = .ok (.iload 5, 2) := dl_o21 kcX12_coordinates (by decide +kernel)
theorem dX12_coordinates_105 : decode cX12_coordinates 105 = .ok (.invokevirtual 209, 3) := dl_o182 kcX12_coordinates (by decide +kernel)
theorem dX12_coordinates_108 : decode cX12_coordinates 108 = .ok (.ineg, 1) := dl_o116 kcX12_coordinates (by decide +kernel)
theorem dX12_coordinates_109 : decode cX12_coordinates 109 = .ok (.goto 19, 3) := dl_o167 kcX12_coordinates 19 (by decide +kernel) (by decide +kernel)
theorem dX12_coordinates_112 : decode cX12_coordinates 112 = .ok (.iload 9, 2) := dl_o21 kcX12_coordinates (by decide +kernel)
theorem dX12_coordinates_114 : decode cX12_coordinates 114 = .ok (.iconst 2, 1) := dl_o5 kcX12_coordinates (by decide +kernel)
theorem dX12_coordinates_115 : decode cX12_coordinates 115 = .ok (.if_icmp .ne 12, 3) := dl_o160 kcX12_coordinates 12 (by decide +kernel) (by decide +kernel)
theorem dX12_coordinates_118 : decode cX12_coordinates 118 = .ok (.aload_n 0, 1) := dl_o42 kcX12_coordinates (by decide +kernel)
theorem dX12_coordinates_119 : decode cX12_coordinates 119 = .ok (.iload 5, 2) := dl_o21 kcX12_coordinates (by decide +kernel)
theorem dX12_coordinates_121 : decode cX12_coordinates 121 = .ok (.invokevirtual 305, 3) := dl_o182 kcX12_coordinates (by decide +kernel)
theorem dX12_coordinates_124 : decode cX12_coordinates 124 = .ok (.goto 4, 3) := dl_o167 kcX12_coordinates 4 (by decide +kernel) (by decide +kernel)
theorem dX12_coordinates_127 : decode cX12_coordinates 127 = .ok (.iconst 0, 1) := dl_o3 kcX12_coordinates (by decide +kernel)
theorem dX12_coordinates_128 : decode cX12_coordinates 128 = .ok (.iadd, 1) := dl_o96 kcX12_coordinates (by decide +kernel)
theorem dX12_coordinates_129 : decode cX12_coordinates 129 = .ok (.istore 6, 2) := dl_o54 kcX12_coordinates (by decide +kernel)
theorem dX12_coordinates_131 : decode cX12_coordinates 131 = .ok (.aload_n 2, 1) := dl_o44 kcX12_coordinates (by decide +kernel)
theorem dX12_coordinates_132 : decode cX12_coordinates 132 = .ok (.iload 7, 2) := dl_o21 kcX12_coordinates (by decide +kernel)
theorem dX12_coordinates_134 : decode cX12_coordinates 134 = .ok (.iload 6, 2) := dl_o21 kcX12_coordinates (by decide +kernel)
theorem dX12_coordinates_136 : decode cX12_coordinates 136 = .ok (.iastore, 1) := dl_o79 kcX12_coordinates (by decide +kernel)
theorem dX12_coordinates_137 : decode cX12_coordinates 137 = .ok (.iload 5, 2) := dl_o21 kcX12_coordinates (by decide +kernel)
theorem dX12_coordinates_139 : decode cX12_coordinates 139 = .ok (.iload 9, 2) := dl_o21 kcX12_coordinates (by decide +kernel)
theorem dX12_coordinates_141 : decode cX12_coordinates 141 = .ok (.iadd, 1) := dl_o96 kcX12_coordinates (by decide +kernel)
theorem dX12_coordinates_142 : decode cX12_coordinates 142 = .ok (.istore 5, 2) := dl_o54 kcX12_coordinates (by decide +kernel)
theorem dX12_coordinates_144 : decode cX12_coordinates 144 = .ok (.iinc 7 1, 3) := by decide +kernel
theorem dX12_coordinates_147 : decode cX12_coordinates 147 = .ok (.goto (-138), 3) := dl_o167 kcX12_coordinates 65398 (by decide +kernel) (by decide +kernel)
theorem dX12_coordinates_150 : decode cX12_coordinates 150 = .ok (.iload 5, 2) := dl_o21 kcX12_coordinates (by decide +kernel)
theorem dX12_coordinates_152 : decode cX12_coordinates 152 = .ok (.ireturn, 1) := dl_o172 kcX12_coordinates (by decide +kernel)
def B_X12_coordinates_128 (N : Nat) (k9 : Nat → Int32 → Int32 → Int32 → Int32 → Int32 → sv_V → Option (Int32 × sv_V)) (l2 : Nat) (l3 : Int32) (l4 : Int32) (l5 : Int32) (l7 : Int32) (l9 : Int32) (s0 : Int32) (s1 : Int32) (V : sv_V) : Option (Int32 × sv_V) := sx_let (s0 + s1) (fun x1 => (sv_len 0 l2).bind (fun n2 => if sx_in l7 n2 = true then sx_let (sv_I V l2 l7.toNatClampNeg x1) (fun V5 => sx_let (l5 + l9) (fun x6 => sx_let (l7 + 1) (fun x7 => k9 l2 l3 l4 x6 x1 x7 V5))) else none))
set_option maxRecDepth 20000 in
theorem tB_X12_coordinates_128 {g : sx_G} (hG : sx_Go g) {P : Option Value → sv_V → Prop} {r : Int32} {Vr : sv_V} (hP : P (some (.int r)) Vr) {N : Nat} {k9 : Nat → Int32 → Int32 → Int32 → Int32 → Int32 → sv_V → Option (Int32 × sv_V)} (hk9 : ∀ (l2 : Nat) (l3 : Int32) (l4 : Int32) (l5 : Int32) (l6 : Int32) (l7 : Int32) (V : sv_V), k9 l2 l3 l4 l5 l6 l7 V = some (r, Vr) → sv_N g qX12_coordinates 3 9 [(0, .ref 146), (2, .ref l2), (3, .int l3), (4, .int l4), (5, .int l5), (6, .int l6), (7, .int l7)] [] V P) {l2 : Nat} {l3 : Int32} {l4 : Int32} {l5 : Int32} {l7 : Int32} {l9 : Int32} {s0 : Int32} {s1 : Int32} {V : sv_V} (h : B_X12_coordinates_128 N k9 l2 l3 l4 l5 l7 l9 s0 s1 V = some (r, Vr)) : sv_N g qX12_coordinates 3 128 [(0, .ref 146), (2, .ref l2), (3, .int l3), (4, .int l4), (5, .int l5), (7, .int l7), (9, .int l9)] [.int s1, .int s0] V P := by
  unfold B_X12_coordinates_128 at h
  refine sx_iadd (pc := 128) dX12_coordinates_128 ?_
  refine sv_tI (fun x1 hx1 => ?_)
  have h := sx_letE hx1 h
  refine sx_istore (pc := 129) (lo' := [(6, .int x1), (0, .ref 146), (2, .ref l2), (3, .int l3), (4, .int l4), (5, .int l5), (7, .int l7), (9, .int l9)]) dX12_coordinates_129 (by decide) rfl ?_
  refine sx_aload_n (pc := 131) dX12_coordinates_131 sx_m2 ?_
  refine sx_iload (pc := 132) dX12_coordinates_132 sx_m6 ?_
  refine sx_iload (pc := 134) dX12_coordinates_134 sx_m0 ?_
  obtain ⟨n2, g3, h⟩ := sx_bnd h
  obtain ⟨g4, h⟩ := sx_grd h
  obtain ⟨V5, hV5⟩ : ∃ z : sv_V, z = sv_I V l2 l7.toNatClampNeg x1 := ⟨_, rfl⟩
  have h := sx_letE hV5 h
  refine sv_iast (pc := 136) hG dX12_coordinates_136 (sv_len_e g3) g4 hV5 ?_
  refine sx_iload (pc := 137) dX12_coordinates_137 sx_m5 ?_
  refine sx_iload (pc := 139) dX12_coordinates_139 sx_m7 ?_
  refine sx_iadd (pc := 141) dX12_coordinates_141 ?_
  refine sv_tI (fun x6 hx6 => ?_)
  have h := sx_letE hx6 h
  refine sx_istore (pc := 142) (lo' := [(5, .int x6), (6, .int x1), (0, .ref 146), (2, .ref l2), (3, .int l3), (4, .int l4), (7, .int l7), (9, .int l9)]) dX12_coordinates_142 (by decide) rfl ?_
  obtain ⟨x7, hx7⟩ : ∃ z : Int32, z = l7 + 1 := ⟨_, rfl⟩
  have h := sx_letE hx7 h
  refine sx_iinc (pc := 144) (v := x7) (lo' := [(7, .int x7), (5, .int x6), (6, .int x1), (0, .ref 146), (2, .ref l2), (3, .int l3), (4, .int l4), (9, .int l9)]) dX12_coordinates_144 sx_m6 (by rw [hx7]; rfl) (by decide) rfl ?_
  refine sx_goto (pc := 147) (tgt := 9) dX12_coordinates_147 (by decide) ?_
  refine sx_wk (sx_s1 sx_m3 (sx_s1 sx_m4 (sx_s1 sx_m5 (sx_s1 sx_m6 (sx_s1 sx_m1 (sx_s1 sx_m2 (sx_s1 sx_m0 sx_s0))))))) ?_
  exact hk9 _ _ _ _ _ _ _ h
def B_X12_coordinates_64 (N : Nat) (k9 : Nat → Int32 → Int32 → Int32 → Int32 → Int32 → sv_V → Option (Int32 × sv_V)) (l2 : Nat) (l3 : Int32) (l4 : Int32) (l5 : Int32) (l6 : Int32) (l7 : Int32) (l8 : Int32) (s0 : Int32) (V : sv_V) : Option (Int32 × sv_V) := if (l5 + s0) ≤ (V.1 146 27) then (if s0 = (1 : Int32) then (if l8 = 0 then ((F_X12_u1 l5 V).bind (fun (x17, V15) => B_X12_coordinates_128 N k9 l2 l3 l4 l5 l7 s0 l6 (-x17) V15)) else ((F_X12_u1 l5 V).bind (fun (x20, V18) => B_X12_coordinates_128 N k9 l2 l3 l4 l5 l7 s0 l6 x20 V18))) else (if s0 = (2 : Int32) then ((F_X12_s2 l5 V).bind (fun (x13, V11) => B_X12_coordinates_128 N k9 l2 l3 l4 l5 l7 s0 l6 x13 V11)) else (B_X12_coordinates_128 N k9 l2 l3 l4 l5 l7 s0 l6 (0 : Int32) V))) else (some ((-1 : Int32), V))
set_option maxRecDepth 20000 in
theorem tB_X12_coordinates_64 {g : sx_G} (hG : sx_Go g) {P : Option Value → sv_V → Prop} {r : Int32} {Vr : sv_V} (hP : P (some (.int r)) Vr) {N : Nat} {k9 : Nat → Int32 → Int32 → Int32 → Int32 → Int32 → sv_V → Option (Int32 × sv_V)} (hk9 : ∀ (l2 : Nat) (l3 : Int32) (l4 : Int32) (l5 : Int32) (l6 : Int32) (l7 : Int32) (V : sv_V), k9 l2 l3 l4 l5 l6 l7 V = some (r, Vr) → sv_N g qX12_coordinates 3 9 [(0, .ref 146), (2, .ref l2), (3, .int l3), (4, .int l4), (5, .int l5), (6, .int l6), (7, .int l7)] [] V P) {l2 : Nat} {l3 : Int32} {l4 : Int32} {l5 : Int32} {l6 : Int32} {l7 : Int32} {l8 : Int32} {s0 : Int32} {V : sv_V} (h : B_X12_coordinates_64 N k9 l2 l3 l4 l5 l6 l7 l8 s0 V = some (r, Vr)) : sv_N g qX12_coordinates 3 64 [(0, .ref 146), (2, .ref l2), (3, .int l3), (4, .int l4), (5, .int l5), (6, .int l6), (7, .int l7), (8, .int l8)] [.int s0] V P := by
  unfold B_X12_coordinates_64 at h
  refine sx_istore (pc := 64) (lo' := [(9, .int s0), (0, .ref 146), (2, .ref l2), (3, .int l3), (4, .int l4), (5, .int l5), (6, .int l6), (7, .int l7), (8, .int l8)]) dX12_coordinates_64 (by decide) rfl ?_
  refine sx_iload (pc := 66) dX12_coordinates_66 sx_m5 ?_
  refine sx_iload (pc := 68) dX12_coordinates_68 sx_m0 ?_
  refine sx_iadd (pc := 70) dX12_coordinates_70 ?_
  refine sx_aload_n (pc := 71) dX12_coordinates_71 sx_m1 ?_
  refine sv_getI (pc := 72) hG dX12_coordinates_72 f_12_345 lay_146 rfl ?_
  refine sx_icmp_le (pc := 75) (tgt := 80) dX12_coordinates_75 (by decide) (fun c8 => ?_) (fun c8 => ?_)
  · have h := sx_pos c8 h
    refine sx_iload (pc := 80) dX12_coordinates_80 sx_m6 ?_
    refine sx_iload (pc := 82) dX12_coordinates_82 sx_m0 ?_
    refine sx_iconst (pc := 84) (v := 1) dX12_coordinates_84 (by decide) ?_
    refine sx_icmp_ne (pc := 85) (tgt := 112) dX12_coordinates_85 (by decide) (fun c9 => ?_) (fun c9 => ?_)
    · have h := sx_neg c9 h
      refine sx_iload (pc := 112) dX12_coordinates_112 sx_m0 ?_
      refine sx_iconst (pc := 114) (v := 2) dX12_coordinates_114 (by decide) ?_
      refine sx_icmp_ne (pc := 115) (tgt := 127) dX12_coordinates_115 (by decide) (fun c10 => ?_) (fun c10 => ?_)
      · have h := sx_neg c10 h
        refine sx_iconst (pc := 127) (v := 0) dX12_coordinates_127 (by decide) ?_
        refine sx_wk (sx_s1 sx_m1 (sx_s1 sx_m2 (sx_s1 sx_m3 (sx_s1 sx_m4 (sx_s1 sx_m5 (sx_s1 sx_m7 (sx_s1 sx_m0 sx_s0))))))) ?_
        exact tB_X12_coordinates_128 hG hP hk9 h
      · have h := sx_pos c10 h
        refine sx_aload_n (pc := 118) dX12_coordinates_118 sx_m1 ?_
        refine sx_iload (pc := 119) dX12_coordinates_119 sx_m5 ?_
        obtain ⟨⟨x13, V11⟩, g12, h⟩ := sx_bnd h
        refine sv_cV (pc := 121) (y := qX12_s2) (o := (some (.int x13))) (as := [.int l5]) (V1 := V11) hG dX12_coordinates_121 l_X12_305 y0X12_s2 yvX12_s2 rfl (Nat.le_of_ble_eq_true rfl) lay_146 kr_12 (by decide) (Nat.le_of_ble_eq_true rfl) rfl rfl rfl (t_X12_s2 hG ⟨rfl, rfl⟩ g12) ?_
        refine sx_goto (pc := 124) (tgt := 128) dX12_coordinates_124 (by decide) ?_
        refine sx_wk (sx_s1 sx_m1 (sx_s1 sx_m2 (sx_s1 sx_m3 (sx_s1 sx_m4 (sx_s1 sx_m5 (sx_s1 sx_m7 (sx_s1 sx_m0 sx_s0))))))) ?_
        exact tB_X12_coordinates_128 hG hP hk9 h
    · have h := sx_pos c9 h
      refine sx_iload (pc := 88) dX12_coordinates_88 sx_m8 ?_
      refine sx_if_eq (pc := 90) (tgt := 102) dX12_coordinates_90 (by decide) (fun c14 => ?_) (fun c14 => ?_)
      · have h := sx_pos c14 h
        refine sx_aload_n (pc := 102) dX12_coordinates_102 sx_m1 ?_
        refine sx_iload (pc := 103) dX12_coordinates_103 sx_m5 ?_
        obtain ⟨⟨x17, V15⟩, g16, h⟩ := sx_bnd h
        refine sv_cV (pc := 105) (y := qX12_u1) (o := (some (.int x17))) (as := [.int l5]) (V1 := V15) hG dX12_coordinates_105 l_X12_209 y0X12_u1 yvX12_u1 rfl (Nat.le_of_ble_eq_true rfl) lay_146 kr_12 (by decide) (Nat.le_of_ble_eq_true rfl) rfl rfl rfl (t_X12_u1 hG ⟨rfl, rfl⟩ g16) ?_
        refine sx_ineg (pc := 108) dX12_coordinates_108 ?_
        refine sx_goto (pc := 109) (tgt := 128) dX12_coordinates_109 (by decide) ?_
        refine sx_wk (sx_s1 sx_m1 (sx_s1 sx_m2 (sx_s1 sx_m3 (sx_s1 sx_m4 (sx_s1 sx_m5 (sx_s1 sx_m7 (sx_s1 sx_m0 sx_s0))))))) ?_
        exact tB_X12_coordinates_128 hG hP hk9 h
      · have h := sx_neg c14 h
        refine sx_aload_n (pc := 93) dX12_coordinates_93 sx_m1 ?_
        refine sx_iload (pc := 94) dX12_coordinates_94 sx_m5 ?_
        obtain ⟨⟨x20, V18⟩, g19, h⟩ := sx_bnd h
        refine sv_cV (pc := 96) (y := qX12_u1) (o := (some (.int x20))) (as := [.int l5]) (V1 := V18) hG dX12_coordinates_96 l_X12_209 y0X12_u1 yvX12_u1 rfl (Nat.le_of_ble_eq_true rfl) lay_146 kr_12 (by decide) (Nat.le_of_ble_eq_true rfl) rfl rfl rfl (t_X12_u1 hG ⟨rfl, rfl⟩ g19) ?_
        refine sx_goto (pc := 99) (tgt := 128) dX12_coordinates_99 (by decide) ?_
        refine sx_wk (sx_s1 sx_m1 (sx_s1 sx_m2 (sx_s1 sx_m3 (sx_s1 sx_m4 (sx_s1 sx_m5 (sx_s1 sx_m7 (sx_s1 sx_m0 sx_s0))))))) ?_
        exact tB_X12_coordinates_128 hG hP hk9 h
  · have h := sx_neg c8 h
    refine sx_iconst (pc := 78) (v := (-1)) dX12_coordinates_78 (by decide) ?_
    exact sv_iret (pc := 79) dX12_coordinates_79 rfl h hP
def B_X12_coordinates_36 (N : Nat) (k9 : Nat → Int32 → Int32 → Int32 → Int32 → Int32 → sv_V → Option (Int32 × sv_V)) (l2 : Nat) (l3 : Int32) (l4 : Int32) (l5 : Int32) (l6 : Int32) (l7 : Int32) (s0 : Int32) (V : sv_V) : Option (Int32 × sv_V) := if sx_in l7 100 = true then if ((V.1 156 l7.toNatClampNeg) &&& l3) = 0 then (if s0 = 0 then (B_X12_coordinates_64 N k9 l2 l3 l4 l5 l6 l7 s0 (2 : Int32) V) else (B_X12_coordinates_64 N k9 l2 l3 l4 l5 l6 l7 s0 (0 : Int32) V)) else (B_X12_coordinates_64 N k9 l2 l3 l4 l5 l6 l7 s0 (1 : Int32) V) else none
set_option maxRecDepth 20000 in
theorem tB_X12_coordinates_36 {g : sx_G} (hG : sx_Go g) {P : Option Value → sv_V → Prop} {r : Int32} {Vr : sv_V} (hP : P (some (.int r)) Vr) {N : Nat} {k9 : Nat → Int32 → Int32 → Int32 → Int32 → Int32 → sv_V → Option (Int32 × sv_V)} (hk9 : ∀ (l2 : Nat) (l3 : Int32) (l4 : Int32) (l5 : Int32) (l6 : Int32) (l7 : Int32) (V : sv_V), k9 l2 l3 l4 l5 l6 l7 V = some (r, Vr) → sv_N g qX12_coordinates 3 9 [(0, .ref 146), (2, .ref l2), (3, .int l3), (4, .int l4), (5, .int l5), (6, .int l6), (7, .int l7)] [] V P) {l2 : Nat} {l3 : Int32} {l4 : Int32} {l5 : Int32} {l6 : Int32} {l7 : Int32} {s0 : Int32} {V : sv_V} (h : B_X12_coordinates_36 N k9 l2 l3 l4 l5 l6 l7 s0 V = some (r, Vr)) : sv_N g qX12_coordinates 3 36 [(0, .ref 146), (2, .ref l2), (3, .int l3), (4, .int l4), (5, .int l5), (6, .int l6), (7, .int l7)] [.int s0] V P := by
  unfold B_X12_coordinates_36 at h
  refine sx_istore (pc := 36) (lo' := [(8, .int s0), (0, .ref 146), (2, .ref l2), (3, .int l3), (4, .int l4), (5, .int l5), (6, .int l6), (7, .int l7)]) dX12_coordinates_36 (by decide) rfl ?_
  refine sx_aload_n (pc := 38) dX12_coordinates_38 sx_m1 ?_
  refine sv_getA (pc := 39) hG dX12_coordinates_39 f_12_39 lay_146 rfl cr_146_36 ?_
  refine sx_iload (pc := 42) dX12_coordinates_42 sx_m7 ?_
  obtain ⟨g21, h⟩ := sx_grd h
  refine sv_iald (pc := 44) hG dX12_coordinates_44 lay_156 g21 ?_
  refine sx_iload_n (pc := 45) dX12_coordinates_45 sx_m3 ?_
  refine sx_iand (pc := 46) dX12_coordinates_46 ?_
  refine sx_if_eq (pc := 47) (tgt := 54) dX12_coordinates_47 (by decide) (fun c22 => ?_) (fun c22 => ?_)
  · have h := sx_pos c22 h
    refine sx_iload (pc := 54) dX12_coordinates_54 sx_m0 ?_
    refine sx_if_eq (pc := 56) (tgt := 63) dX12_coordinates_56 (by decide) (fun c23 => ?_) (fun c23 => ?_)
    · have h := sx_pos c23 h
      refine sx_iconst (pc := 63) (v := 2) dX12_coordinates_63 (by decide) ?_
      refine sx_wk (sx_s1 sx_m1 (sx_s1 sx_m2 (sx_s1 sx_m3 (sx_s1 sx_m4 (sx_s1 sx_m5 (sx_s1 sx_m6 (sx_s1 sx_m7 (sx_s1 sx_m0 sx_s0)))))))) ?_
      exact tB_X12_coordinates_64 hG hP hk9 h
    · have h := sx_neg c23 h
      refine sx_iconst (pc := 59) (v := 0) dX12_coordinates_59 (by decide) ?_
      refine sx_goto (pc := 60) (tgt := 64) dX12_coordinates_60 (by decide) ?_
      refine sx_wk (sx_s1 sx_m1 (sx_s1 sx_m2 (sx_s1 sx_m3 (sx_s1 sx_m4 (sx_s1 sx_m5 (sx_s1 sx_m6 (sx_s1 sx_m7 (sx_s1 sx_m0 sx_s0)))))))) ?_
      exact tB_X12_coordinates_64 hG hP hk9 h
  · have h := sx_neg c22 h
    refine sx_iconst (pc := 50) (v := 1) dX12_coordinates_50 (by decide) ?_
    refine sx_goto (pc := 51) (tgt := 64) dX12_coordinates_51 (by decide) ?_
    refine sx_wk (sx_s1 sx_m1 (sx_s1 sx_m2 (sx_s1 sx_m3 (sx_s1 sx_m4 (sx_s1 sx_m5 (sx_s1 sx_m6 (sx_s1 sx_m7 (sx_s1 sx_m0 sx_s0)))))))) ?_
    exact tB_X12_coordinates_64 hG hP hk9 h
def B_X12_coordinates_9 (N : Nat) (k9 : Nat → Int32 → Int32 → Int32 → Int32 → Int32 → sv_V → Option (Int32 × sv_V)) (l2 : Nat) (l3 : Int32) (l4 : Int32) (l5 : Int32) (l6 : Int32) (l7 : Int32) (V : sv_V) : Option (Int32 × sv_V) := if (V.1 146 29) ≤ l7 then (some (l5, V)) else (if sx_in l7 100 = true then if ((V.1 156 l7.toNatClampNeg) &&& l4) = 0 then (B_X12_coordinates_36 N k9 l2 l3 l4 l5 l6 l7 (0 : Int32) V) else (B_X12_coordinates_36 N k9 l2 l3 l4 l5 l6 l7 (1 : Int32) V) else none)
set_option maxRecDepth 20000 in
theorem tB_X12_coordinates_9 {g : sx_G} (hG : sx_Go g) {P : Option Value → sv_V → Prop} {r : Int32} {Vr : sv_V} (hP : P (some (.int r)) Vr) {N : Nat} {k9 : Nat → Int32 → Int32 → Int32 → Int32 → Int32 → sv_V → Option (Int32 × sv_V)} (hk9 : ∀ (l2 : Nat) (l3 : Int32) (l4 : Int32) (l5 : Int32) (l6 : Int32) (l7 : Int32) (V : sv_V), k9 l2 l3 l4 l5 l6 l7 V = some (r, Vr) → sv_N g qX12_coordinates 3 9 [(0, .ref 146), (2, .ref l2), (3, .int l3), (4, .int l4), (5, .int l5), (6, .int l6), (7, .int l7)] [] V P) {l2 : Nat} {l3 : Int32} {l4 : Int32} {l5 : Int32} {l6 : Int32} {l7 : Int32} {V : sv_V} (h : B_X12_coordinates_9 N k9 l2 l3 l4 l5 l6 l7 V = some (r, Vr)) : sv_N g qX12_coordinates 3 9 [(0, .ref 146), (2, .ref l2), (3, .int l3), (4, .int l4), (5, .int l5), (6, .int l6), (7, .int l7)] [] V P := by
  unfold B_X12_coordinates_9 at h
  refine sx_iload (pc := 9) dX12_coordinates_9 sx_m6 ?_
  refine sx_aload_n (pc := 11) dX12_coordinates_11 sx_m0 ?_
  refine sv_getI (pc := 12) hG dX12_coordinates_12 f_12_351 lay_146 rfl ?_
  refine sx_icmp_ge (pc := 15) (tgt := 150) dX12_coordinates_15 (by decide) (fun c24 => ?_) (fun c24 => ?_)
  · have h := sx_pos c24 h
    refine sx_iload (pc := 150) dX12_coordinates_150 sx_m4 ?_
    exact sv_iret (pc := 152) dX12_coordinates_152 rfl h hP
  · have h := sx_neg c24 h
    refine sx_aload_n (pc := 18) dX12_coordinates_18 sx_m0 ?_
    refine sv_getA (pc := 19) hG dX12_coordinates_19 f_12_39 lay_146 rfl cr_146_36 ?_
    refine sx_iload (pc := 22) dX12_coordinates_22 sx_m6 ?_
    obtain ⟨g25, h⟩ := sx_grd h
    refine sv_iald (pc := 24) hG dX12_coordinates_24 lay_156 g25 ?_
    refine sx_iload (pc := 25) dX12_coordinates_25 sx_m3 ?_
    refine sx_iand (pc := 27) dX12_coordinates_27 ?_
    refine sx_if_eq (pc := 28) (tgt := 35) dX12_coordinates_28 (by decide) (fun c26 => ?_) (fun c26 => ?_)
    · have h := sx_pos c26 h
      refine sx_iconst (pc := 35) (v := 0) dX12_coordinates_35 (by decide) ?_
      refine sx_wk (sx_s1 sx_m0 (sx_s1 sx_m1 (sx_s1 sx_m2 (sx_s1 sx_m3 (sx_s1 sx_m4 (sx_s1 sx_m5 (sx_s1 sx_m6 sx_s0))))))) ?_
      exact tB_X12_coordinates_36 hG hP hk9 h
    · have h := sx_neg c26 h
      refine sx_iconst (pc := 31) (v := 1) dX12_coordinates_31 (by decide) ?_
      refine sx_goto (pc := 32) (tgt := 36) dX12_coordinates_32 (by decide) ?_
      refine sx_wk (sx_s1 sx_m0 (sx_s1 sx_m1 (sx_s1 sx_m2 (sx_s1 sx_m3 (sx_s1 sx_m4 (sx_s1 sx_m5 (sx_s1 sx_m6 sx_s0))))))) ?_
      exact tB_X12_coordinates_36 hG hP hk9 h
theorem tL_X12_coordinates_9 {g : sx_G} (hG : sx_Go g) {P : Option Value → sv_V → Prop} {r : Int32} {Vr : sv_V} (hP : P (some (.int r)) Vr) {N : Nat}   : ∀ (n : Nat) (l2 : Nat) (l3 : Int32) (l4 : Int32) (l5 : Int32) (l6 : Int32) (l7 : Int32) (V : sv_V), sx_lp7 (B_X12_coordinates_9 N ) n l2 l3 l4 l5 l6 l7 V = some (r, Vr) → sv_N g qX12_coordinates 3 9 [(0, .ref 146), (2, .ref l2), (3, .int l3), (4, .int l4), (5, .int l5), (6, .int l6), (7, .int l7)] [] V P :=
  sx_lp7_ind (fun k0 ih _ _ _ _ _ _ V h => tB_X12_coordinates_9 hG hP ih h)
def F_X12_coordinates (N : Nat) (l1 : Int32) (l2 : Nat) (l3 : Int32) (l4 : Int32) (V : sv_V) : Option (Int32 × sv_V) := sx_lp7 (B_X12_coordinates_9 N ) N l2 l3 l4 l1 (0 : Int32) (0 : Int32) V
set_option maxRecDepth 20000 in
theorem t_X12_coordinates {g : sx_G} (hG : sx_Go g) {P : Option Value → sv_V → Prop} {r : Int32} {Vr : sv_V} (hP : P (some (.int r)) Vr) {N : Nat} {l1 : Int32} {l2 : Nat} {l3 : Int32} {l4 : Int32} {V : sv_V} (h : F_X12_coordinates N l1 l2 l3 l4 V = some (r, Vr)) : sv_N g qX12_coordinates 3 0 [(0, .ref 146), (1, .int l1), (2, .ref l2), (3, .int l3), (4, .int l4)] [] V P := by
  unfold F_X12_coordinates at h
  refine sx_iload_n (pc := 0) dX12_coordinates_0 sx_m1 ?_
  refine sx_istore (pc := 1) (lo' := [(5, .int l1), (0, .ref 146), (1, .int l1), (2, .ref l2), (3, .int l3), (4, .int l4)]) dX12_coordinates_1 (by decide) rfl ?_
  refine sx_iconst (pc := 3) (v := 0) dX12_coordinates_3 (by decide) ?_
  refine sx_istore (pc := 4) (lo' := [(6, .int (0 : Int32)), (5, .int l1), (0, .ref 146), (1, .int l1), (2, .ref l2), (3, .int l3), (4, .int l4)]) dX12_coordinates_4 (by decide) rfl ?_
  refine sx_iconst (pc := 6) (v := 0) dX12_coordinates_6 (by decide) ?_
  refine sx_istore (pc := 7) (lo' := [(7, .int (0 : Int32)), (6, .int (0 : Int32)), (5, .int l1), (0, .ref 146), (1, .int l1), (2, .ref l2), (3, .int l3), (4, .int l4)]) dX12_coordinates_7 (by decide) rfl ?_
  refine sx_wk (sx_s1 sx_m3 (sx_s1 sx_m5 (sx_s1 sx_m6 (sx_s1 sx_m7 (sx_s1 sx_m2 (sx_s1 sx_m1 (sx_s1 sx_m0 sx_s0))))))) ?_
  exact tL_X12_coordinates_9 hG hP  N _ _ _ _ _ _ _ h
def ncX12_composed : Nat := 510075960652390922530552311067838000785470765573243859298333490316961516258025155829104298552620620110884278502781759231354433046818230959417640344211619497098365162326681262475259806611770473069228470679041125450681605095542421001156178654889325625198320720042892707932012120395864902517523844349258051694028190634764362620948545899432781107064979897383266988737060446804376347209535238668662828105288681760810400385152280955305822832379328706020411090541340299484994278795881251393925679310884965758263119082655725348431722495978964988184310916875666108075588802096672917328696438437315020744634267869585931377792672839218412897867568394110298994522943693802208054524025718267705737926538277695049455130992675300226056559371857348306464210252327039687685302625670464580197474101658154540293504347239779076698957003155418460122143295038024723791165762765236190776868023507799535066442112854084395695656979968764017052702140789116940930248304595435116921043303486566085701863599931716337749518529967964687144242004899446713762128260300449767360416768224579595478107192892748404860998367324808723938852093406288662751138219868607837783473000224074492090171788178091277650349010266783906275504762953325673885851452650061822166799181087602332925471834082679493904722874671868875377199601088698564159224676102049235120860662765668073529872133199189541279396201326992012330
theorem kcX12_composed : CK cX12_composed ncX12_composed 568 := ⟨by decide +kernel, by decide +kernel⟩
theorem dX12_composed_0 : decode cX12_composed 0 = .ok (.aload_n 0, 1) := dl_o42 kcX12_composed (by decide +kernel)
theorem dX12_composed_1 : decode cX12_composed 1 = .ok (.getfield 342, 3) := dl_o180 kcX12_composed (by decide +kernel)
theorem dX12_composed_4 : decode cX12_composed 4 = .ok (.bipush 10, 2) := dl_o16 kcX12_composed 10 (by decide +kernel) (by decide +kernel)
theorem dX12_composed_6 : decode cX12_composed 6 = .ok (.iadd, 1) := dl_o96 kcX12_composed (by decide +kernel)
theorem dX12_composed_7 : decode cX12_composed 7 = .ok (.istore_n 1, 1) := dl_o60 kcX12_composed (by decide +kernel)
theorem dX12_composed_8 : decode cX12_composed 8 = .ok (.iconst 1, 1) := dl_o4 kcX12_composed (by decide +kernel)
theorem dX12_composed_9 : decode cX12_composed 9 = .ok (.istore_n 2, 1) := dl_o61 kcX12_composed (by decide +kernel)
theorem dX12_composed_10 : decode cX12_composed 10 = .ok (.iconst 0, 1) := dl_o3 kcX12_composed (by decide +kernel)
theorem dX12_composed_11 : decode cX12_composed 11 = .ok (.istore_n 3, 1) := dl_o62 kcX12_composed (by decide +kernel)
theorem dX12_composed_12 : decode cX12_composed 12 = .ok (.iload_n 2, 1) := dl_o28 kcX12_composed (by decide +kernel)
theorem dX12_composed_13 : decode cX12_composed 13 = .ok (.ifCond .eq 489, 3) := dl_o153 kcX12_composed 489 (by decide +kernel) (by decide +kernel)
theorem dX12_composed_16 : decode cX12_composed 16 = .ok (.aload_n 0, 1) := dl_o42 kcX12_composed (by decide +kernel)
theorem dX12_composed_17 : decode cX12_composed 17 = .ok (.getfield 354, 3) := dl_o180 kcX12_composed (by decide +kernel)
theorem dX12_composed_20 : decode cX12_composed 20 = .ok (.bipush 8, 2) := dl_o16 kcX12_composed 8 (by decide +kernel) (by decide +kernel)
theorem dX12_composed_22 : decode cX12_composed 22 = .ok (.if_icmp .eq 13, 3) := dl_o159 kcX12_composed 13 (by decide +kernel) (by decide +kernel)
theorem dX12_composed_25 : decode cX12_composed 25 = .ok (.iload_n 1, 1) := dl_o27 kcX12_composed (by decide +kernel)
theorem dX12_composed_26 : decode cX12_composed 26 = .ok (.iconst 4, 1) := dl_o7 kcX12_composed (by decide +kernel)
theorem dX12_composed_27 : decode cX12_composed 27 = .ok (.iadd, 1) := dl_o96 kcX12_composed (by decide +kernel)
theorem dX12_composed_28 : decode cX12_composed 28 = .ok (.aload_n 0, 1) := dl_o42 kcX12_composed (by decide +kernel)
theorem dX12_composed_29 : decode cX12_composed 29 = .ok (.getfield 345, 3) := dl_o180 kcX12_composed (by decide +kernel)
theorem dX12_composed_32 : decode cX12_composed 32 = .ok (.if_icmp .le 5, 3) := dl_o164 kcX12_composed 5 (by decide +kernel) (by decide +kernel)
theorem dX12_composed_35 : decode cX12_composed 35 = .ok (.iconst 0, 1) := dl_o3 kcX12_composed (by decide +kernel)
theorem dX12_composed_36 : decode cX12_composed 36 = .ok (.ireturn, 1) := dl_o172 kcX12_composed (by decide +kernel)
theorem dX12_composed_37 : decode cX12_composed 37 = .ok (.aload_n 0, 1) := dl_o42 kcX12_composed (by decide +kernel)
theorem dX12_composed_38 : decode cX12_composed 38 = .ok (.iload_n 1, 1) := dl_o27 kcX12_composed (by decide +kernel)
theorem dX12_composed_39 : decode cX12_composed 39 = .ok (.invokevirtual 213, 3) := dl_o182 kcX12_composed (by decide +kernel)
theorem dX12_composed_42 : decode cX12_composed 42 = .ok (.istore_n 3, 1) := dl_o62 kcX12_composed (by decide +kernel)
theorem dX12_composed_43 : decode cX12_composed 43 = .ok (.aload_n 0, 1) := dl_o42 kcX12_composed (by decide +kernel)
theorem dX12_composed_44 : decode cX12_composed 44 = .ok (.getfield 354, 3) := dl_o180 kcX12_composed (by decide +kernel)
theorem dX12_composed_47 : decode cX12_composed 47 = .ok (.istore 4, 2) := dl_o54 kcX12_composed (by decide +kernel)
theorem dX12_composed_49 : decode cX12_composed 49 = .ok (.aload_n 0, 1) := dl_o42 kcX12_composed (by decide +kernel)
theorem dX12_composed_50 : decode cX12_composed 50 = .ok (.getfield 42, 3) := dl_o180 kcX12_composed (by decide +kernel)
theorem dX12_composed_53 : decode cX12_composed 53 = .ok (.iload 4, 2) := dl_o21 kcX12_composed (by decide +kernel)
theorem dX12_composed_55 : decode cX12_composed 55 = .ok (.iload_n 3, 1) := dl_o29 kcX12_composed (by decide +kernel)
theorem dX12_composed_56 : decode cX12_composed 56 = .ok (.iastore, 1) := dl_o79 kcX12_composed (by decide +kernel)
theorem dX12_composed_57 : decode cX12_composed 57 = .ok (.aload_n 0, 1) := dl_o42 kcX12_composed (by decide +kernel)
theorem dX12_composed_58 : decode cX12_composed 58 = .ok (.getfield 45, 3) := dl_o180 kcX12_composed (by decide +kernel)
theorem dX12_composed_61 : decode cX12_composed 61 = .ok (.iload 4, 2) := dl_o21 kcX12_composed (by decide +kernel)
theorem dX12_composed_63 : decode cX12_composed 63 = .ok (.aload_n 0, 1) := dl_o42 kcX12_composed (by decide +kernel)
theorem dX12_composed_64 : decode cX12_composed 64 = .ok (.iload_n 1, 1) := dl_o27 kcX12_composed (by decide +kernel)
theorem dX12_composed_65 : decode cX12_composed 65 = .ok (.iconst 2, 1) := dl_o5 kcX12_composed (by decide +kernel)
theorem dX12_composed_66 : decode cX12_composed 66 = .ok (.iadd, 1) := dl_o96 kcX12_composed (by decide +kernel)
theorem dX12_composed_67 : decode cX12_composed 67 = .ok (.invokevirtual 213, 3) := dl_o182 kcX12_composed (by decide +kernel)
theorem dX12_composed_70 : decode cX12_composed 70 = .ok (.iastore, 1) := dl_o79 kcX12_composed (by decide +kernel)
theorem dX12_composed_71 : decode cX12_composed 71 = .ok (.iinc 1 4, 3) := by decide +kernel
theorem dX12_composed_74 : decode cX12_composed 74 = .ok (.iload_n 3, 1) := dl_o29 kcX12_composed (by decide +kernel)
theorem dX12_composed_75 : decode cX12_composed 75 = .ok (.iconst 1, 1) := dl_o4 kcX12_composed (by decide +kernel)
theorem dX12_composed_76 : decode cX12_composed 76 = .ok (.iand, 1) := dl_o126 kcX12_composed (by decide +kernel)
theorem dX12_composed_77 : decode cX12_composed 77 = .ok (.ifCond .eq 7, 3) := dl_o153 kcX12_composed 7 (by decide +kernel) (by decide +kernel)
theorem dX12_composed_80 : decode cX12_composed 80 = .ok (.iconst 1, 1) := dl_o4 kcX12_composed (by decide +kernel)
theorem dX12_composed_81 : decode cX12_composed 81 = .ok (.goto 4, 3) := dl_o167 kcX12_composed 4 (by decide +kernel) (by decide +kernel)
theorem dX12_composed_84 : decode cX12_composed 84 = .ok (.iconst 0, 1) := dl_o3 kcX12_composed (by decide +kernel)
theorem dX12_composed_85 : decode cX12_composed 85 = .ok (.istore 5, 2) := dl_o54 kcX12_composed (by decide +kernel)
theorem dX12_composed_87 : decode cX12_composed 87 = .ok (.iload_n 3, 1) := dl_o29 kcX12_composed (by decide +kernel)
theorem dX12_composed_88 : decode cX12_composed 88 = .ok (.iconst 2, 1) := dl_o5 kcX12_composed (by decide +kernel)
theorem dX12_composed_89 : decode cX12_composed 89 = .ok (.iand, 1) := dl_o126 kcX12_composed (by decide +kernel)
theorem dX12_composed_90 : decode cX12_composed 90 = .ok (.ifCond .eq 7, 3) := dl_o153 kcX12_composed 7 (by decide +kernel) (by decide +kernel)
theorem dX12_composed_93 : decode cX12_composed 93 = .ok (.iconst 1, 1) := dl_o4 kcX12_composed (by decide +kernel)
theorem dX12_composed_94 : decode cX12_composed 94 = .ok (.goto 4, 3) := dl_o167 kcX12_composed 4 (by decide +kernel) (by decide +kernel)
theorem dX12_composed_97 : decode cX12_composed 97 = .ok (.iconst 0, 1) := dl_o3 kcX12_composed (by decide +kernel)
theorem dX12_composed_98 : decode cX12_composed 98 = .ok (.istore 6, 2) := dl_o54 kcX12_composed (by decide +kernel)
theorem dX12_composed_100 : decode cX12_composed 100 = .ok (.iload_n 3, 1) := dl_o29 kcX12_composed (by decide +kernel)
theorem dX12_composed_101 : decode cX12_composed 101 = .ok (.bipush 8, 2) := dl_o16 kcX12_composed 8 (by decide +kernel) (by decide +kernel)
theorem dX12_composed_103 : decode cX12_composed 103 = .ok (.iand, 1) := dl_o126 kcX12_composed (by decide +kernel)
theorem dX12_composed_104 : decode cX12_composed 104 = .ok (.ifCond .eq 7, 3) := dl_o153 kcX12_composed 7 (by decide +kernel) (by decide +kernel)
theorem dX12_composed_107 : decode cX12_composed 107 = .ok (.iconst 1, 1) := dl_o4 kcX12_composed (by decide +kernel)
theorem dX12_composed_108 : decode cX12_composed 108 = .ok (.goto 27, 3) := dl_o167 kcX12_composed 27 (by decide +kernel) (by decide +kernel)
theorem dX12_composed_111 : decode cX12_composed 111 = .ok (.iload_n 3, 1) := dl_o29 kcX12_composed (by decide +kernel)
theorem dX12_composed_112 : decode cX12_composed 112 = .ok (.bipush 64, 2) := dl_o16 kcX12_composed 64 (by decide +kernel) (by decide +kernel)
theorem dX12_composed_114 : decode cX12_composed 114 = .ok (.iand, 1) := dl_o126 kcX12_composed (by decide +kernel)
theorem dX12_composed_115 : decode cX12_composed 115 = .ok (.ifCond .eq 7, 3) := dl_o153 kcX12_composed 7 (by decide +kernel) (by decide +kernel)
theorem dX12_composed_118 : decode cX12_composed 118 = .ok (.iconst 2, 1) := dl_o5 kcX12_composed (by decide +kernel)
theorem dX12_composed_119 : decode cX12_composed 119 = .ok (.goto 16, 3) := dl_o167 kcX12_composed 16 (by decide +kernel) (by decide +kernel)
theorem dX12_composed_122 : decode cX12_composed 122 = .ok (.iload_n 3, 1) := dl_o29 kcX12_composed (by decide +kernel)
theorem dX12_composed_123 : decode cX12_composed 123 = .ok (.sipush 128, 3) := dl_o17 kcX12_composed 128 (by decide +kernel) (by decide +kernel)
theorem dX12_composed_126 : decode cX12_composed 126 = .ok (.iand, 1) := dl_o126 kcX12_composed (by decide +kernel)
theorem dX12_composed_127 : decode cX12_composed 127 = .ok (.ifCond .eq 7, 3) := dl_o153 kcX12_composed 7 (by decide +kernel) (by decide +kernel)
theorem dX12_composed_130 : decode cX12_composed 130 = .ok (.iconst 4, 1) := dl_o7 kcX12_composed (by decide +kernel)
theorem dX12_composed_131 : decode cX12_composed 131 = .ok (.goto 4, 3) := dl_o167 kcX12_composed 4 (by decide +kernel) (by decide +kernel)
theorem dX12_composed_134 : decode cX12_composed 134 = .ok (.iconst 0, 1) := dl_o3 kcX12_composed (by decide +kernel)
theorem dX12_composed_135 : decode cX12_composed 135 = .ok (.istore 7, 2) := dl_o54 kcX12_composed (by decide +kernel)
theorem dX12_composed_137 : decode cX12_composed 137 = .ok (.aload_n 0, 1) := dl_o42 kcX12_composed (by decide +kernel)
theorem dX12_composed_138 : decode cX12_composed 138 = .ok (.getfield 45, 3) := dl_o180 kcX12_composed (by decide +kernel)
theorem dX12_composed_141 : decode cX12_composed 141 = .ok (.iload 4, 2) := dl_o21 kcX12_composed (by decide +kernel)
theorem dX12_composed_143 : decode cX12_composed 143 = .ok (.iaload, 1) := dl_o46 kcX12_composed (by decide +kernel)
theorem dX12_composed_144 : decode cX12_composed 144 = .ok (.aload_n 0, 1) := dl_o42 kcX12_composed (by decide +kernel)
theorem dX12_composed_145 : decode cX12_composed 145 = .ok (.getfield 260, 3) := dl_o180 kcX12_composed (by decide +kernel)
theorem dX12_composed_148 : decode cX12_composed 148 = .ok (.if_icmp .ge 27, 3) := dl_o162 kcX12_composed 27 (by decide +kernel) (by decide +kernel)
theorem dX12_composed_151 : decode cX12_composed 151 = .ok (.iload_n 1, 1) := dl_o27 kcX12_composed (by decide +kernel)
theorem dX12_composed_152 : decode cX12_composed 152 = .ok (.iload 5, 2) := dl_o21 kcX12_composed (by decide +kernel)
theorem dX12_composed_154 : decode cX12_composed 154 = .ok (.ifCond .eq 7, 3) := dl_o153 kcX12_composed 7 (by decide +kernel) (by decide +kernel)
theorem dX12_composed_157 : decode cX12_composed 157 = .ok (.iconst 4, 1) := dl_o7 kcX12_composed (by decide +kernel)
theorem dX12_composed_158 : decode cX12_composed 158 = .ok (.goto 4, 3) := dl_o167 kcX12_composed 4 (by decide +kernel) (by decide +kernel)
theorem dX12_composed_161 : decode cX12_composed 161 = .ok (.iconst 2, 1) := dl_o5 kcX12_composed (by decide +kernel)
theorem dX12_composed_162 : decode cX12_composed 162 = .ok (.iadd, 1) := dl_o96 kcX12_composed (by decide +kernel)
theorem dX12_composed_163 : decode cX12_composed 163 = .ok (.iconst 2, 1) := dl_o5 kcX12_composed (by decide +kernel)
theorem dX12_composed_164 : decode cX12_composed 164 = .ok (.iload 7, 2) := dl_o21 kcX12_composed (by decide +kernel)
theorem dX12_composed_166 : decode cX12_composed 166 = .ok (.imul, 1) := dl_o104 kcX12_composed (by decide +kernel)
theorem dX12_composed_167 : decode cX12_composed 167 = .ok (.iadd, 1) := dl_o96 kcX12_composed (by decide +kernel)
theorem dX12_composed_168 : decode cX12_composed 168 = .ok (.aload_n 0, 1) := dl_o42 kcX12_composed (by decide +kernel)
theorem dX12_composed_169 : decode cX12_composed 169 = .ok (.getfield 345, 3) := dl_o180 kcX12_composed (by decide +kernel)
theorem dX12_composed_172 : decode cX12_composed 172 = .ok (.if_icmp .le 5, 3) := dl_o164 kcX12_composed 5 (by decide +kernel) (by decide +kernel)
theorem dX12_composed_175 : decode cX12_composed 175 = .ok (.iconst 0, 1) := dl_o3 kcX12_composed (by decide +kernel)
theorem dX12_composed_176 : decode cX12_composed 176 = .ok (.ireturn, 1) := dl_o172 kcX12_composed (by decide +kernel)
theorem dX12_composed_177 : decode cX12_composed 177 = .ok (.aload_n 0, 1) := dl_o42 kcX12_composed (by decide +kernel)
theorem dX12_composed_178 : decode cX12_composed 178 = .ok (.getfield 48, 3) := dl_o180 kcX12_composed (by decide +kernel)
theorem dX12_composed_181 : decode cX12_composed 181 = .ok (.iload 4, 2) := dl_o21 kcX12_composed (by decide +kernel)
theorem dX12_composed_183 : decode cX12_composed 183 = .ok (.iload 5, 2) := dl_o21 kcX12_composed (by decide +kernel)
theorem dX12_composed_185 : decode cX12_composed 185 = .ok (.ifCond .eq 24, 3) := dl_o153 kcX12_composed 24 (by decide +kernel) (by decide +kernel)
theorem dX12_composed_188 : decode cX12_composed 188 = .ok (.iload 6, 2) := dl_o21 kcX12_composed (by decide +kernel)
theorem dX12_composed_190 : decode cX12_composed 190 = .ok (.ifCond .eq 11, 3) := dl_o153 kcX12_composed 11 (by decide +kernel) (by decide +kernel)
theorem dX12_composed_193 : decode cX12_composed 193 = .ok (.aload_n 0, 1) := dl_o42 kcX12_composed (by decide +kernel)
theorem dX12_composed_194 : decode cX12_composed 194 = .ok (.iload_n 1, 1) := dl_o27 kcX12_composed (by decide +kernel)
theorem dX12_composed_195 : decode cX12_composed 195 = .ok (.invokevirtual 305, 3) := dl_o182 kcX12_composed (by decide +kernel)
theorem dX12_composed_198 : decode cX12_composed 198 = .ok (.goto 29, 3) := dl_o167 kcX12_composed 29 (by decide +kernel) (by decide +kernel)
theorem dX12_composed_201 : decode cX12_composed 201 = .ok (.aload_n 0, 1) := dl_o42 kcX12_composed (by decide +kernel)
theorem dX12_composed_202 : decode cX12_composed 202 = .ok (.iload_n 1, 1) := dl_o27 kcX12_composed (by decide +kernel)
theorem dX12_composed_203 : decode cX12_composed 203 = .ok (.invokevirtual 213, 3) := dl_o182 kcX12_composed (by decide +kernel)
theorem dX12_composed_206 : decode cX12_composed 206 = .ok (.goto 21, 3) := dl_o167 kcX12_composed 21 (by decide +kernel) (by decide +kernel)
theorem dX12_composed_209 : decode cX12_composed 209 = .ok (.iload 6, 2) := dl_o21 kcX12_composed (by decide +kernel)
theorem dX12_composed_211 : decode cX12_composed 211 = .ok (.ifCond .eq 11, 3) := dl_o153 kcX12_composed 11 (by decide +kernel) (by decide +kernel)
theorem dX12_composed_214 : decode cX12_composed 214 = .ok (.aload_n 0, 1) := dl_o42 kcX12_composed (by decide +kernel)
theorem dX12_composed_215 : decode cX12_composed 215 = .ok (.iload_n 1, 1) := dl_o27 kcX12_composed (by decide +kernel)
theorem dX12_composed_216 : decode cX12_composed 216 = .ok (.invokevirtual 377, 3) := dl_o182 kcX12_composed (by decide +kernel)
theorem dX12_composed_219 : decode cX12_composed 219 = .ok (.goto 8, 3) := dl_o167 kcX12_composed 8 (by decide +kernel) (by decide +kernel)
theorem dX12_composed_222 : decode cX12_composed 222 = .ok (.aload_n 0, 1) := dl_o42 kcX12_composed (by decide +kernel)
theorem dX12_composed_223 : decode cX12_composed 223 = .ok (.iload_n 1, 1) := dl_o27 kcX12_composed (by decide +kernel)
theorem dX12_composed_224 : decode cX12_composed 224 = .ok (.invokevirtual 209, 3) := dl_o182 kcX12_composed (by decide +kernel)
theorem dX12_composed_227 : decode cX12_composed 227 = .ok (.iastore, 1) := dl_o79 kcX12_composed (by decide +kernel)
theorem dX12_composed_228 : decode cX12_composed 228 = .ok (.aload_n 0, 1) := dl_o42 kcX12_composed (by decide +kernel)
theorem dX12_composed_229 : decode cX12_composed 229 = .ok (.getfield 51, 3) := dl_o180 kcX12_composed (by decide +kernel)
theorem dX12_composed_232 : decode cX12_composed 232 = .ok (.iload 4, 2) := dl_o21 kcX12_composed (by decide +kernel)
theorem dX12_composed_234 : decode cX12_composed 234 = .ok (.iload 5, 2) := dl_o21 kcX12_composed (by decide +kernel)
theorem dX12_composed_236 : decode cX12_composed 236 = .ok (.ifCond .eq 28, 3) := dl_o153 kcX12_composed 28 (by decide +kernel) (by decide +kernel)
theorem dX12_composed_239 : decode cX12_composed 239 = .ok (.iload 6, 2) := dl_o21 kcX12_composed (by decide +kernel)
theorem dX12_composed_241 : decode cX12_composed 241 = .ok (.ifCond .eq 13, 3) := dl_o153 kcX12_composed 13 (by decide +kernel) (by decide +kernel)
theorem dX12_composed_244 : decode cX12_composed 244 = .ok (.aload_n 0, 1) := dl_o42 kcX12_composed (by decide +kernel)
theorem dX12_composed_245 : decode cX12_composed 245 = .ok (.iload_n 1, 1) := dl_o27 kcX12_composed (by decide +kernel)
theorem dX12_composed_246 : decode cX12_composed 246 = .ok (.iconst 2, 1) := dl_o5 kcX12_composed (by decide +kernel)
theorem dX12_composed_247 : decode cX12_composed 247 = .ok (.iadd, 1) := dl_o96 kcX12_composed (by decide +kernel)
theorem dX12_composed_248 : decode cX12_composed 248 = .ok (.invokevirtual 305, 3) := dl_o182 kcX12_composed (by decide +kernel)
theorem dX12_composed_251 : decode cX12_composed 251 = .ok (.goto 35, 3) := dl_o167 kcX12_composed 35 (by decide +kernel) (by decide +kernel)
theorem dX12_composed_254 : decode cX12_composed 254 = .ok (.aload_n 0, 1) := dl_o42 kcX12_composed (by decide +kernel)
theorem dX12_composed_255 : decode cX12_composed 255 = .ok (.iload_n 1, 1) := dl_o27 kcX12_composed (by decide +kernel)
theorem dX12_composed_256 : decode cX12_composed 256 = .ok (.iconst 2, 1) := dl_o5 kcX12_composed (by decide +kernel)
theorem dX12_composed_257 : decode cX12_composed 257 = .ok (.iadd, 1) := dl_o96 kcX12_composed (by decide +kernel)
theorem dX12_composed_258 : decode cX12_composed 258 = .ok (.invokevirtual 213, 3) := dl_o182 kcX12_composed (by decide +kernel)
theorem dX12_composed_261 : decode cX12_composed 261 = .ok (.goto 25, 3) := dl_o167 kcX12_composed 25 (by decide +kernel) (by decide +kernel)
theorem dX12_composed_264 : decode cX12_composed 264 = .ok (.iload 6, 2) := dl_o21 kcX12_composed (by decide +kernel)
theorem dX12_composed_266 : decode cX12_composed 266 = .ok (.ifCond .eq 13, 3) := dl_o153 kcX12_composed 13 (by decide +kernel) (by decide +kernel)
theorem dX12_composed_269 : decode cX12_composed 269 = .ok (.aload_n 0, 1) := dl_o42 kcX12_composed (by decide +kernel)
theorem dX12_composed_270 : decode cX12_composed 270 = .ok (.iload_n 1, 1) := dl_o27 kcX12_composed (by decide +kernel)
theorem dX12_composed_271 : decode cX12_composed 271 = .ok (.iconst 1, 1) := dl_o4 kcX12_composed (by decide +kernel)
theorem dX12_composed_272 : decode cX12_composed 272 = .ok (.iadd, 1) := dl_o96 kcX12_composed (by decide +kernel)
theorem dX12_composed_273 : decode cX12_composed 273 = .ok (.invokevirtual 377, 3) := dl_o182 kcX12_composed (by decide +kernel)
theorem dX12_composed_276 : decode cX12_composed 276 = .ok (.goto 10, 3) := dl_o167 kcX12_composed 10 (by decide +kernel) (by decide +kernel)
theorem dX12_composed_279 : decode cX12_composed 279 = .ok (.aload_n 0, 1) := dl_o42 kcX12_composed (by decide +kernel)
theorem dX12_composed_280 : decode cX12_composed 280 = .ok (.iload_n 1, 1) := dl_o27 kcX12_composed (by decide +kernel)
theorem dX12_composed_281 : decode cX12_composed 281 = .ok (.iconst 1, 1) := dl_o4 kcX12_composed (by decide +kernel)
theorem dX12_composed_282 : decode cX12_composed 282 = .ok (.iadd, 1) := dl_o96 kcX12_composed (by decide +kernel)
theorem dX12_composed_283 : decode cX12_composed 283 = .ok (.invokevirtual 209, 3) := dl_o182 kcX12_composed (by decide +kernel)
theorem dX12_composed_286 : decode cX12_composed 286 = .ok (.iastore, 1) := dl_o79 kcX12_composed (by decide +kernel)
theorem dX12_composed_287 : decode cX12_composed 287 = .ok (.iload_n 1, 1) := dl_o27 kcX12_composed (by decide +kernel)
theorem dX12_composed_288 : decode cX12_composed 288 = .ok (.iload 5, 2) := dl_o21 kcX12_composed (by decide +kernel)
theorem dX12_composed_290 : decode cX12_composed 290 = .ok (.ifCond .eq 7, 3) := dl_o153 kcX12_composed 7 (by decide +kernel) (by decide +kernel)
theorem dX12_composed_293 : decode cX12_composed 293 = .ok (.iconst 4, 1) := dl_o7 kcX12_composed (by decide +kernel)
theorem dX12_composed_294 : decode cX12_composed 294 = .ok (.goto 4, 3) := dl_o167 kcX12_composed 4 (by decide +kernel) (by decide +kernel)
theorem dX12_composed_297 : decode cX12_composed 297 = .ok (.iconst 2, 1) := dl_o5 kcX12_composed (by decide +kernel)
theorem dX12_composed_298 : decode cX12_composed 298 = .ok (.iadd, 1) := dl_o96 kcX12_composed (by decide +kernel)
theorem dX12_composed_299 : decode cX12_composed 299 = .ok (.istore_n 1, 1) := dl_o60 kcX12_composed (by decide +kernel)
theorem dX12_composed_300 : decode cX12_composed 300 = .ok (.iconst 0, 1) := dl_o3 kcX12_composed (by decide +kernel)
theorem dX12_composed_301 : decode cX12_composed 301 = .ok (.istore 8, 2) := dl_o54 kcX12_composed (by decide +kernel)
theorem dX12_composed_303 : decode cX12_composed 303 = .ok (.iload 8, 2) := dl_o21 kcX12_composed (by decide +kernel)
theorem dX12_composed_305 : decode cX12_composed 305 = .ok (.iconst 4, 1) := dl_o7 kcX12_composed (by decide +kernel)
theorem dX12_composed_306 : decode cX12_composed 306 = .ok (.if_icmp .ge 22, 3) := dl_o162 kcX12_composed 22 (by decide +kernel) (by decide +kernel)
theorem dX12_composed_309 : decode cX12_composed 309 = .ok (.aload_n 0, 1) := dl_o42 kcX12_composed (by decide +kernel)
theorem dX12_composed_310 : decode cX12_composed 310 = .ok (.getfield 54, 3) := dl_o180 kcX12_composed (by decide +kernel)
theorem dX12_composed_313 : decode cX12_composed 313 = .ok (.iconst 4, 1) := dl_o7 kcX12_composed (by decide +kernel)
theorem dX12_composed_314 : decode cX12_composed 314 = .ok (.iload 4, 2) := dl_o21 kcX12_composed (by decide +kernel)
theorem dX12_composed_316 : decode cX12_composed 316 = .ok (.imul, 1) := dl_o104 kcX12_composed (by decide +kernel)
theorem dX12_composed_317 : decode cX12_composed 317 = .ok (.iload 8, 2) := dl_o21 kcX12_composed (by decide +kernel)
theorem dX12_composed_319 : decode cX12_composed 319 = .ok (.iadd, 1) := dl_o96 kcX12_composed (by decide +kernel)
theorem dX12_composed_320 : decode cX12_composed 320 = .ok (.iconst 0, 1) := dl_o3 kcX12_composed (by decide +kernel)
theorem dX12_composed_321 : decode cX12_composed 321 = .ok (.iastore, 1) := dl_o79 kcX12_composed (by decide +kernel)
theorem dX12_composed_322 : decode cX12_composed 322 = .ok (.iinc 8 1, 3) := by decide +kernel
theorem dX12_composed_325 : decode cX12_composed 325 = .ok (.goto (-22), 3) := dl_o167 kcX12_composed 65514 (by decide +kernel) (by decide +kernel)
theorem dX12_composed_328 : decode cX12_composed 328 = .ok (.aload_n 0, 1) := dl_o42 kcX12_composed (by decide +kernel)
theorem dX12_composed_329 : decode cX12_composed 329 = .ok (.getfield 54, 3) := dl_o180 kcX12_composed (by decide +kernel)
theorem dX12_composed_332 : decode cX12_composed 332 = .ok (.iconst 4, 1) := dl_o7 kcX12_composed (by decide +kernel)
theorem dX12_composed_333 : decode cX12_composed 333 = .ok (.iload 4, 2) := dl_o21 kcX12_composed (by decide +kernel)
theorem dX12_composed_335 : decode cX12_composed 335 = .ok (.imul, 1) := dl_o104 kcX12_composed (by decide +kernel)
theorem dX12_composed_336 : decode cX12_composed 336 = .ok (.iload 7, 2) := dl_o21 kcX12_composed (by decide +kernel)
theorem dX12_composed_338 : decode cX12_composed 338 = .ok (.ifCond .ne 9, 3) := dl_o154 kcX12_composed 9 (by decide +kernel) (by decide +kernel)
theorem dX12_composed_341 : decode cX12_composed 341 = .ok (.sipush 16384, 3) := dl_o17 kcX12_composed 16384 (by decide +kernel) (by decide +kernel)
theorem dX12_composed_344 : decode cX12_composed 344 = .ok (.goto 8, 3) := dl_o167 kcX12_composed 8 (by decide +kernel) (by decide +kernel)
theorem dX12_composed_347 : decode cX12_composed 347 = .ok (.aload_n 0, 1) := dl_o42 kcX12_composed (by decide +kernel)
theorem dX12_composed_348 : decode cX12_composed 348 = .ok (.iload_n 1, 1) := dl_o27 kcX12_composed (by decide +kernel)
theorem dX12_composed_349 : decode cX12_composed 349 = .ok (.invokevirtual 305, 3) := dl_o182 kcX12_composed (by decide +kernel)
theorem dX12_composed_352 : decode cX12_composed 352 = .ok (.iastore, 1) := dl_o79 kcX12_composed (by decide +kernel)
theorem dX12_composed_353 : decode cX12_composed 353 = .ok (.aload_n 0, 1) := dl_o42 kcX12_composed (by decide +kernel)
theorem dX12_composed_354 : decode cX12_composed 354 = .ok (.getfield 54, 3) := dl_o180 kcX12_composed (by decide +kernel)
theorem dX12_composed_357 : decode cX12_composed 357 = .ok (.iconst 4, 1) := dl_o7 kcX12_composed (by decide +kernel)
theorem dX12_composed_358 : decode cX12_composed 358 = .ok (.iload 4, 2) := dl_o21 kcX12_composed (by decide +kernel)
theorem dX12_composed_360 : decode cX12_composed 360 = .ok (.imul, 1) := dl_o104 kcX12_composed (by decide +kernel)
theorem dX12_composed_361 : decode cX12_composed 361 = .ok (.iconst 3, 1) := dl_o6 kcX12_composed (by decide +kernel)
theorem dX12_composed_362 : decode cX12_composed 362 = .ok (.iadd, 1) := dl_o96 kcX12_composed (by decide +kernel)
theorem dX12_composed_363 : decode cX12_composed 363 = .ok (.iload 7, 2) := dl_o21 kcX12_composed (by decide +kernel)
theorem dX12_composed_365 : decode cX12_composed 365 = .ok (.ifCond .ne 9, 3) := dl_o154 kcX12_composed 9 (by decide +kernel) (by decide +kernel)
theorem dX12_composed_368 : decode cX12_composed 368 = .ok (.sipush 16384, 3) := dl_o17 kcX12_composed 16384 (by decide +kernel) (by decide +kernel)
theorem dX12_composed_371 : decode cX12_composed 371 = .ok (.goto 41, 3) := dl_o167 kcX12_composed 41 (by decide +kernel) (by decide +kernel)
theorem dX12_composed_374 : decode cX12_composed 374 = .ok (.iload 7, 2) := dl_o21 kcX12_composed (by decide +kernel)
theorem dX12_composed_376 : decode cX12_composed 376 = .ok (.iconst 1, 1) := dl_o4 kcX12_composed (by decide +kernel)
theorem dX12_composed_377 : decode cX12_composed 377 = .ok (.if_icmp .ne 11, 3) := dl_o160 kcX12_composed 11 (by decide +kernel) (by decide +kernel)
theorem dX12_composed_380 : decode cX12_composed 380 = .ok (.aload_n 0, 1) := dl_o42 kcX12_composed (by decide +kernel)
theorem dX12_composed_381 : decode cX12_composed 381 = .ok (.iload_n 1, 1) := dl_o27 kcX12_composed (by decide +kernel)
theorem dX12_composed_382 : decode cX12_composed 382 = .ok (.invokevirtual 305, 3) := dl_o182 kcX12_composed (by decide +kernel)
theorem dX12_composed_385 : decode cX12_composed 385 = .ok (.goto 27, 3) := dl_o167 kcX12_composed 27 (by decide +kernel) (by decide +kernel)
theorem dX12_composed_388 : decode cX12_composed 388 = .ok (.iload 7, 2) := dl_o21 kcX12_composed (by decide +kernel)
theorem dX12_composed_390 : decode cX12_composed 390 = .ok (.iconst 2, 1) := dl_o5 kcX12_composed (by decide +kernel)
theorem dX12_composed_391 : decode cX12_composed 391 = .ok (.if_icmp .ne 13, 3) := dl_o160 kcX12_composed 13 (by decide +kernel) (by decide +kernel)
theorem dX12_composed_394 : decode cX12_composed 394 = .ok (.aload_n 0, 1) := dl_o42 kcX12_composed (by decide +kernel)
theorem dX12_composed_395 : decode cX12_composed 395 = .ok (.iload_n 1, 1) := dl_o27 kcX12_composed (by decide +kernel)
theorem dX12_composed_396 : decode cX12_composed 396 = .ok (.iconst 2, 1) := dl_o5 kcX12_composed (by decide +kernel)
theorem dX12_composed_397 : decode cX12_composed 397 = .ok (.iadd, 1) := dl_o96 kcX12_composed (by decide +kernel)
theorem dX12_composed_398 : decode cX12_composed 398 = .ok (.invokevirtual 305, 3) := dl_o182 kcX12_composed (by decide +kernel)
theorem dX12_composed_401 : decode cX12_composed 401 = .ok (.goto 11, 3) := dl_o167 kcX12_composed 11 (by decide +kernel) (by decide +kernel)
theorem dX12_composed_404 : decode cX12_composed 404 = .ok (.aload_n 0, 1) := dl_o42 kcX12_composed (by decide +kernel)
theorem dX12_composed_405 : decode cX12_composed 405 = .ok (.iload_n 1, 1) := dl_o27 kcX12_composed (by decide +kernel)
theorem dX12_composed_406 : decode cX12_composed 406 = .ok (.bipush 6, 2) := dl_o16 kcX12_composed 6 (by decide +kernel) (by decide +kernel)
theorem dX12_composed_408 : decode cX12_composed 408 = .ok (.iadd, 1) := dl_o96 kcX12_composed (by decide +kernel)
theorem dX12_composed_409 : decode cX12_composed 409 = .ok (.invokevirtual 305, 3) := dl_o182 kcX12_composed (by decide +kernel)
theorem dX12_composed_412 : decode cX12_composed 412 = .ok (.iastore, 1) := dl_o79 kcX12_composed (by decide +kernel)
theorem dX12_composed_413 : decode cX12_composed 413 = .ok (.aload_n 0, 1) := dl_o42 kcX12_composed (by decide +kernel)
theorem dX12_composed_414 : decode cX12_composed 414 = .ok (.getfield 54, 3) := dl_o180 kcX12_composed (by decide +kernel)
theorem dX12_composed_417 : decode cX12_composed 417 = .ok (.iconst 4, 1) := dl_o7 kcX12_composed (by decide +kernel)
theorem dX12_composed_418 : decode cX12_composed 418 = .ok (.iload 4, 2) := dl_o21 kcX12_composed (by decide +kernel)
theorem dX12_composed_420 : decode cX12_composed 420 = .ok (.imul, 1) := dl_o104 kcX12_composed (by decide +kernel)
theorem dX12_composed_421 : decode cX12_composed 421 = .ok (.iconst 1, 1) := dl_o4 kcX12_composed (by decide +kernel)
theorem dX12_composed_422 : decode cX12_composed 422 = .ok (.iadd, 1) := dl_o96 kcX12_composed (by decide +kernel)
theorem dX12_composed_423 : decode cX12_composed 423 = .ok (.iload 7, 2) := dl_o21 kcX12_composed (by decide +kernel)
theorem dX12_composed_425 : decode cX12_composed 425 = .ok (.iconst 4, 1) := dl_o7 kcX12_composed (by decide +kernel)
theorem dX12_composed_426 : decode cX12_composed 426 = .ok (.if_icmp .ne 13, 3) := dl_o160 kcX12_composed 13 (by decide +kernel) (by decide +kernel)
theorem dX12_composed_429 : decode cX12_composed 429 = .ok (.aload_n 0, 1) := dl_o42 kcX12_composed (by decide +kernel)
theorem dX12_composed_430 : decode cX12_composed 430 = .ok (.iload_n 1, 1) := dl_o27 kcX12_composed (by decide +kernel)
theorem dX12_composed_431 : decode cX12_composed 431 = .ok (.iconst 2, 1) := dl_o5 kcX12_composed (by decide +kernel)
theorem dX12_composed_432 : decode cX12_composed 432 = .ok (.iadd, 1) := dl_o96 kcX12_composed (by decide +kernel)
theorem dX12_composed_433 : decode cX12_composed 433 = .ok (.invokevirtual 305, 3) := dl_o182 kcX12_composed (by decide +kernel)
theorem dX12_composed_436 : decode cX12_composed 436 = .ok (.goto 4, 3) := dl_o167 kcX12_composed 4 (by decide +kernel) (by decide +kernel)
theorem dX12_composed_439 : decode cX12_composed 439 = .ok (.iconst 0, 1) := dl_o3 kcX12_composed (by decide +kernel)
theorem dX12_composed_440 : decode cX12_composed 440 = .ok (.iastore, 1) := dl_o79 kcX12_composed (by decide +kernel)
theorem dX12_composed_441 : decode cX12_composed 441 = .ok (.aload_n 0, 1) := dl_o42 kcX12_composed (by decide +kernel)
theorem dX12_composed_442 : decode cX12_composed 442 = .ok (.getfield 54, 3) := dl_o180 kcX12_composed (by decide +kernel)
theorem dX12_composed_445 : decode cX12_composed 445 = .ok (.iconst 4, 1) := dl_o7 kcX12_composed (by decide +kernel)
theorem dX12_composed_446 : decode cX12_composed 446 = .ok (.iload 4, 2) := dl_o21 kcX12_composed (by decide +kernel)
theorem dX12_composed_448 : decode cX12_composed 448 = .ok (.imul, 1) := dl_o104 kcX12_composed (by decide +kernel)
theorem dX12_composed_449 : decode cX12_composed 449 = .ok (.iconst 2, 1) := dl_o5 kcX12_composed (by decide +kernel)
theorem dX12_composed_450 : decode cX12_composed 450 = .ok (.iadd, 1) := dl_o96 kcX12_composed (by decide +kernel)
theorem dX12_composed_451 : decode cX12_composed 451 = .ok (.iload 7, 2) := dl_o21 kcX12_composed (by decide +kernel)
theorem dX12_composed_453 : decode cX12_composed 453 = .ok (.iconst 4, 1) := dl_o7 kcX12_composed (by decide +kernel)
theorem dX12_composed_454 : decode cX12_composed 454 = .ok (.if_icmp .ne 13, 3) := dl_o160 kcX12_composed 13 (by decide +kernel) (by decide +kernel)
theorem dX12_composed_457 : decode cX12_composed 457 = .ok (.aload_n 0, 1) := dl_o42 kcX12_composed (by decide +kernel)
theorem dX12_composed_458 : decode cX12_composed 458 = .ok (.iload_n 1, 1) := dl_o27 kcX12_composed (by decide +kernel)
theorem dX12_composed_459 : decode cX12_composed 459 = .ok (.iconst 4, 1) := dl_o7 kcX12_composed (by decide +kernel)
theorem dX12_composed_460 : decode cX12_composed 460 = .ok (.iadd, 1) := dl_o96 kcX12_composed (by decide +kernel)
theorem dX12_composed_461 : decode cX12_composed 461 = .ok (.invokevirtual 305, 3) := dl_o182 kcX12_composed (by decide +kernel)
theorem dX12_composed_464 : decode cX12_composed 464 = .ok (.goto 4, 3) := dl_o167 kcX12_composed 4 (by decide +kernel) (by decide +kernel)
theorem dX12_composed_467 : decode cX12_composed 467 = .ok (.iconst 0, 1) := dl_o3 kcX12_composed (by decide +kernel)
theorem dX12_composed_468 : decode cX12_composed 468 = .ok (.iastore, 1) := dl_o79 kcX12_composed (by decide +kernel)
theorem dX12_composed_469 : decode cX12_composed 469 = .ok (.iload_n 1, 1) := dl_o27 kcX12_composed (by decide +kernel)
theorem dX12_composed_470 : decode cX12_composed 470 = .ok (.iconst 2, 1) := dl_o5 kcX12_composed (by decide +kernel)
theorem dX12_composed_471 : decode cX12_composed 471 = .ok (.iload 7, 2) := dl_o21 kcX12_composed (by decide +kernel)
theorem dX12_composed_473 : decode cX12_composed 473 = .ok (.imul, 1) := dl_o104 kcX12_composed (by decide +kernel)
theorem dX12_composed_474 : decode cX12_composed 474 = .ok (.iadd, 1) := dl_o96 kcX12_composed (by decide +kernel)
theorem dX12_composed_475 : decode cX12_composed 475 = .ok (.istore_n 1, 1) := dl_o60 kcX12_composed (by decide +kernel)
theorem dX12_composed_476 : decode cX12_composed 476 = .ok (.aload_n 0, 1) := dl_o42 kcX12_composed (by decide +kernel)
theorem dX12_composed_477 : decode cX12_composed 477 = .ok (.dup, 1) := dl_o89 kcX12_composed (by decide +kernel)
theorem dX12_composed_478 : decode cX12_composed 478 = .ok (.getfield 354, 3) := dl_o180 kcX12_composed (by decide +kernel)
theorem dX12_composed_481 : decode cX12_composed 481 = .ok (.iconst 1, 1) := dl_o4 kcX12_composed (by decide +kernel)
theorem dX12_composed_482 : decode cX12_composed 482 = .ok (.iadd, 1) := dl_o96 kcX12_composed (by decide +kernel)
theorem dX12_composed_483 : decode cX12_composed 483 = .ok (.putfield 354, 3) := dl_o181 kcX12_composed (by decide +kernel)
theorem dX12_composed_486 : decode cX12_composed 486 = .ok (.iload_n 3, 1) := dl_o29 kcX12_composed (by decide +kernel)
theorem dX12_composed_487 : decode cX12_composed 487 = .ok (.bipush 32, 2) := dl_o16 kcX12_composed 32 (by decide +kernel) (by decide +kernel)
theorem dX12_composed_489 : decode cX12_composed 489 = .ok (.iand, 1) := dl_o126 kcX12_composed (by decide +kernel)
theorem dX12_composed_490 : decode cX12_composed 490 = .ok (.ifCond .eq 7, 3) := dl_o153 kcX12_composed 7 (by decide +kernel) (by decide +kernel)
theorem dX12_composed_493 : decode cX12_composed 493 = .ok (.iconst 1, 1) := dl_o4 kcX12_composed (by decide +kernel)
theorem dX12_composed_494 : decode cX12_composed 494 = .ok (.goto 4, 3) := dl_o167 kcX12_composed 4 (by decide +kernel) (by decide +kernel)
theorem dX12_composed_497 : decode cX12_composed 497 = .ok (.iconst 0, 1) := dl_o3 kcX12_composed (by decide +kernel)
theorem dX12_composed_498 : decode cX12_composed 498 = .ok (.istore_n 2, 1) := dl_o61 kcX12_composed (by decide +kernel)
theorem dX12_composed_499 : decode cX12_composed 499 = .ok (.goto (-487), 3) := dl_o167 kcX12_composed 65049 (by decide +kernel) (by decide +kernel)
theorem dX12_composed_502 : decode cX12_composed 502 = .ok (.iload_n 3, 1) := dl_o29 kcX12_composed (by decide +kernel)
theorem dX12_composed_503 : decode cX12_composed 503 = .ok (.sipush 256, 3) := dl_o17 kcX12_composed 256 (by decide +kernel) (by decide +kernel)
theorem dX12_composed_506 : decode cX12_composed 506 = .ok (.iand, 1) := dl_o126 kcX12_composed (by decide +kernel)
theorem dX12_composed_507 : decode cX12_composed 507 = .ok (.ifCond .eq 59, 3) := dl_o153 kcX12_composed 59 (by decide +kernel) (by decide +kernel)
theorem dX12_composed_510 : decode cX12_composed 510 = .ok (.iload_n 1, 1) := dl_o27 kcX12_composed (by decide +kernel)
theorem dX12_composed_511 : decode cX12_composed 511 = .ok (.iconst 2, 1) := dl_o5 kcX12_composed (by decide +kernel)
theorem dX12_composed_512 : decode cX12_composed 512 = .ok (.iadd, 1) := dl_o96 kcX12_composed (by decide +kernel)
theorem dX12_composed_513 : decode cX12_composed 513 = .ok (.aload_n 0, 1) := dl_o42 kcX12_composed (by decide +kernel)
theorem dX12_composed_514 : decode cX12_composed 514 = .ok (.getfield 345, 3) := dl_o180 kcX12_composed (by decide +kernel)
theorem dX12_composed_517 : decode cX12_composed 517 = .ok (.if_icmp .le 5, 3) := dl_o164 kcX12_composed 5 (by decide +kernel) (by decide +kernel)
theorem dX12_composed_520 : decode cX12_composed 520 = .ok (.iconst 0, 1) := dl_o3 kcX12_composed (by decide +kernel)
theorem dX12_composed_521 : decode cX12_composed 521 = .ok (.ireturn, 1) := dl_o172 kcX12_composed (by decide +kernel)
theorem dX12_composed_522 : decode cX12_composed 522 = .ok (.aload_n 0, 1) := dl_o42 kcX12_composed (by decide +kernel)
theorem dX12_composed_523 : decode cX12_composed 523 = .ok (.aload_n 0, 1) := dl_o42 kcX12_composed (by decide +kernel)
theorem dX12_composed_524 : decode cX12_composed 524 = .ok (.iload_n 1, 1) := dl_o27 kcX12_composed (by decide +kernel)
theorem dX12_composed_525 : decode cX12_composed 525 = .ok (.invokevirtual 213, 3) := dl_o182 kcX12_composed (by decide +kernel)
theorem dX12_composed_528 : decode cX12_composed 528 = .ok (.putfield 360, 3) := dl_o181 kcX12_composed (by decide +kernel)
theorem dX12_composed_531 : decode cX12_composed 531 = .ok (.aload_n 0, 1) := dl_o42 kcX12_composed (by decide +kernel)
theorem dX12_composed_532 : decode cX12_composed 532 = .ok (.iload_n 1, 1) := dl_o27 kcX12_composed (by decide +kernel)
theorem dX12_composed_533 : decode cX12_composed 533 = .ok (.iconst 2, 1) := dl_o5 kcX12_composed (by decide +kernel)
theorem dX12_composed_534 : decode cX12_composed 534 = .ok (.iadd, 1) := dl_o96 kcX12_composed (by decide +kernel)
theorem dX12_composed_535 : decode cX12_composed 535 = .ok (.putfield 357, 3) := dl_o181 kcX12_composed (by decide +kernel)
theorem dX12_composed_538 : decode cX12_composed 538 = .ok (.aload_n 0, 1) := dl_o42 kcX12_composed (by decide +kernel)
theorem dX12_composed_539 : decode cX12_composed 539 = .ok (.getfield 360, 3) := dl_o180 kcX12_composed (by decide +kernel)
theorem dX12_composed_542 : decode cX12_composed 542 = .ok (.sipush 400, 3) := dl_o17 kcX12_composed 400 (by decide +kernel) (by decide +kernel)
theorem dX12_composed_545 : decode cX12_composed 545 = .ok (.if_icmp .gt 19, 3) := dl_o163 kcX12_composed 19 (by decide +kernel) (by decide +kernel)
theorem dX12_composed_548 : decode cX12_composed 548 = .ok (.aload_n 0, 1) := dl_o42 kcX12_composed (by decide +kernel)
theorem dX12_composed_549 : decode cX12_composed 549 = .ok (.getfield 357, 3) := dl_o180 kcX12_composed (by decide +kernel)
theorem dX12_composed_552 : decode cX12_composed 552 = .ok (.aload_n 0, 1) := dl_o42 kcX12_composed (by decide +kernel)
theorem dX12_composed_553 : decode cX12_composed 553 = .ok (.getfield 360, 3) := dl_o180 kcX12_composed (by decide +kernel)
theorem dX12_composed_556 : decode cX12_composed 556 = .ok (.iadd, 1) := dl_o96 kcX12_composed (by decide +kernel)
theorem dX12_composed_557 : decode cX12_composed 557 = .ok (.aload_n 0, 1) := dl_o42 kcX12_composed (by decide +kernel)
theorem dX12_composed_558 : decode cX12_composed 558 = .ok (.getfield 345, 3) := dl_o180 kcX12_composed (by decide +kernel)
theorem dX12_composed_561 : decode cX12_composed 561 = .ok (.if_icmp .le 5, 3) := dl_o164 kcX12_composed 5 (by decide +kernel) (by decide +kernel)
theorem dX12_composed_564 : decode cX12_composed 564 = .ok (.iconst 0, 1) := dl_o3 kcX12_composed (by decide +kernel)
theorem dX12_composed_565 : decode cX12_composed 565 = .ok (.ireturn, 1) := dl_o172 kcX12_composed (by decide +kernel)
theorem dX12_composed_566 : decode cX12_composed 566 = .ok (.iconst 1, 1) := dl_o4 kcX12_composed (by decide +kernel)
theorem dX12_composed_567 : decode cX12_composed 567 = .ok (.ireturn, 1) := dl_o172 kcX12_composed (by decide +kernel)
def B_X12_composed_498 (N : Nat) (k12 : Int32 → Int32 → Int32 → sv_V → Option (Int32 × sv_V)) (l1 : Int32) (l3 : Int32) (s0 : Int32) (V : sv_V) : Option (Int32 × sv_V) := k12 l1 s0 l3 V
set_option maxRecDepth 20000 in
theorem tB_X12_composed_498 {g : sx_G} (hG : sx_Go g) {P : Option Value → sv_V → Prop} {r : Int32} {Vr : sv_V} (hP : P (some (.int r)) Vr) {N : Nat} {k12 : Int32 → Int32 → Int32 → sv_V → Option (Int32 × sv_V)} (hk12 : ∀ (l1 : Int32) (l2 : Int32) (l3 : Int32) (V : sv_V), k12 l1 l2 l3 V = some (r, Vr) → sv_N g qX12_composed 3 12 [(0, .ref 146), (1, .int l1), (2, .int l2), (3, .int l3)] [] V P) {l1 : Int32} {l3 : Int32} {s0 : Int32} {V : sv_V} (h : B_X12_composed_498 N k12 l1 l3 s0 V = some (r, Vr)) : sv_N g qX12_composed 3 498 [(0, .ref 146), (1, .int l1), (3, .int l3)] [.int s0] V P := by
  unfold B_X12_composed_498 at h
  refine sx_istore_n (pc := 498) (lo' := [(2, .int s0), (0, .ref 146), (1, .int l1), (3, .int l3)]) dX12_composed_498 (by decide) rfl ?_
  refine sx_goto (pc := 499) (tgt := 12) dX12_composed_499 (by decide) ?_
  refine sx_wk (sx_s1 sx_m1 (sx_s1 sx_m2 (sx_s1 sx_m0 (sx_s1 sx_m3 sx_s0)))) ?_
  exact hk12 _ _ _ _ h
def B_X12_composed_468 (N : Nat) (k12 : Int32 → Int32 → Int32 → sv_V → Option (Int32 × sv_V)) (l1 : Int32) (l3 : Int32) (l7 : Int32) (s1 : Int32) (s2 : Int32) (V : sv_V) : Option (Int32 × sv_V) := if sx_in s1 32 = true then sx_let (sv_I V 161 s1.toNatClampNeg s2) (fun V2 => sx_let (l1 + ((2 : Int32) * l7)) (fun x3 => sx_let (sv_I V2 146 30 ((V2.1 146 30) + (1 : Int32))) (fun V4 => if (l3 &&& (32 : Int32)) = 0 then (B_X12_composed_498 N k12 x3 l3 (0 : Int32) V4) else (B_X12_composed_498 N k12 x3 l3 (1 : Int32) V4)))) else none
set_option maxRecDepth 20000 in
theorem tB_X12_composed_468 {g : sx_G} (hG : sx_Go g) {P : Option Value → sv_V → Prop} {r : Int32} {Vr : sv_V} (hP : P (some (.int r)) Vr) {N : Nat} {k12 : Int32 → Int32 → Int32 → sv_V → Option (Int32 × sv_V)} (hk12 : ∀ (l1 : Int32) (l2 : Int32) (l3 : Int32) (V : sv_V), k12 l1 l2 l3 V = some (r, Vr) → sv_N g qX12_composed 3 12 [(0, .ref 146), (1, .int l1), (2, .int l2), (3, .int l3)] [] V P) {l1 : Int32} {l3 : Int32} {l7 : Int32} {s1 : Int32} {s2 : Int32} {V : sv_V} (h : B_X12_composed_468 N k12 l1 l3 l7 s1 s2 V = some (r, Vr)) : sv_N g qX12_composed 3 468 [(0, .ref 146), (1, .int l1), (3, .int l3), (7, .int l7)] [.int s2, .int s1, .ref 161] V P := by
  unfold B_X12_composed_468 at h
  obtain ⟨g1, h⟩ := sx_grd h
  obtain ⟨V2, hV2⟩ : ∃ z : sv_V, z = sv_I V 161 s1.toNatClampNeg s2 := ⟨_, rfl⟩
  have h := sx_letE hV2 h
  refine sv_iast (pc := 468) hG dX12_composed_468 lay_161 g1 hV2 ?_
  refine sx_iload_n (pc := 469) dX12_composed_469 sx_m1 ?_
  refine sx_iconst (pc := 470) (v := 2) dX12_composed_470 (by decide) ?_
  refine sx_iload (pc := 471) dX12_composed_471 sx_m3 ?_
  refine sx_imul (pc := 473) dX12_composed_473 ?_
  refine sx_iadd (pc := 474) dX12_composed_474 ?_
  refine sv_tI (fun x3 hx3 => ?_)
  have h := sx_letE hx3 h
  refine sx_istore_n (pc := 475) (lo' := [(1, .int x3), (0, .ref 146), (3, .int l3), (7, .int l7)]) dX12_composed_475 (by decide) rfl ?_
  refine sx_aload_n (pc := 476) dX12_composed_476 sx_m1 ?_
  refine sx_dup (pc := 477) dX12_composed_477 rfl ?_
  refine sv_getI (pc := 478) hG dX12_composed_478 f_12_354 lay_146 rfl ?_
  refine sx_iconst (pc := 481) (v := 1) dX12_composed_481 (by decide) ?_
  refine sx_iadd (pc := 482) dX12_composed_482 ?_
  obtain ⟨V4, hV4⟩ : ∃ z : sv_V, z = sv_I V2 146 30 ((V2.1 146 30) + (1 : Int32)) := ⟨_, rfl⟩
  have h := sx_letE hV4 h
  refine sv_putI (pc := 483) hG dX12_composed_483 f_12_354 lay_146 rfl hV4 ?_
  refine sx_iload_n (pc := 486) dX12_composed_486 sx_m2 ?_
  refine sx_bipush (pc := 487) (v := 32) dX12_composed_487 (by decide) ?_
  refine sx_iand (pc := 489) dX12_composed_489 ?_
  refine sx_if_eq (pc := 490) (tgt := 497) dX12_composed_490 (by decide) (fun c5 => ?_) (fun c5 => ?_)
  · have h := sx_pos c5 h
    refine sx_iconst (pc := 497) (v := 0) dX12_composed_497 (by decide) ?_
    refine sx_wk (sx_s1 sx_m1 (sx_s1 sx_m0 (sx_s1 sx_m2 sx_s0))) ?_
    exact tB_X12_composed_498 hG hP hk12 h
  · have h := sx_neg c5 h
    refine sx_iconst (pc := 493) (v := 1) dX12_composed_493 (by decide) ?_
    refine sx_goto (pc := 494) (tgt := 498) dX12_composed_494 (by decide) ?_
    refine sx_wk (sx_s1 sx_m1 (sx_s1 sx_m0 (sx_s1 sx_m2 sx_s0))) ?_
    exact tB_X12_composed_498 hG hP hk12 h
def B_X12_composed_440 (N : Nat) (k12 : Int32 → Int32 → Int32 → sv_V → Option (Int32 × sv_V)) (l1 : Int32) (l3 : Int32) (l4 : Int32) (l7 : Int32) (s1 : Int32) (s2 : Int32) (V : sv_V) : Option (Int32 × sv_V) := if sx_in s1 32 = true then sx_let (sv_I V 161 s1.toNatClampNeg s2) (fun V7 => if l7 = (4 : Int32) then ((F_X12_s2 (l1 + (4 : Int32)) V7).bind (fun (x11, V9) => B_X12_composed_468 N k12 l1 l3 l7 (((4 : Int32) * l4) + (2 : Int32)) x11 V9)) else (B_X12_composed_468 N k12 l1 l3 l7 (((4 : Int32) * l4) + (2 : Int32)) (0 : Int32) V7)) else none
set_option maxRecDepth 20000 in
theorem tB_X12_composed_440 {g : sx_G} (hG : sx_Go g) {P : Option Value → sv_V → Prop} {r : Int32} {Vr : sv_V} (hP : P (some (.int r)) Vr) {N : Nat} {k12 : Int32 → Int32 → Int32 → sv_V → Option (Int32 × sv_V)} (hk12 : ∀ (l1 : Int32) (l2 : Int32) (l3 : Int32) (V : sv_V), k12 l1 l2 l3 V = some (r, Vr) → sv_N g qX12_composed 3 12 [(0, .ref 146), (1, .int l1), (2, .int l2), (3, .int l3)] [] V P) {l1 : Int32} {l3 : Int32} {l4 : Int32} {l7 : Int32} {s1 : Int32} {s2 : Int32} {V : sv_V} (h : B_X12_composed_440 N k12 l1 l3 l4 l7 s1 s2 V = some (r, Vr)) : sv_N g qX12_composed 3 440 [(0, .ref 146), (1, .int l1), (3, .int l3), (4, .int l4), (7, .int l7)] [.int s2, .int s1, .ref 161] V P := by
  unfold B_X12_composed_440 at h
  obtain ⟨g6, h⟩ := sx_grd h
  obtain ⟨V7, hV7⟩ : ∃ z : sv_V, z = sv_I V 161 s1.toNatClampNeg s2 := ⟨_, rfl⟩
  have h := sx_letE hV7 h
  refine sv_iast (pc := 440) hG dX12_composed_440 lay_161 g6 hV7 ?_
  refine sx_aload_n (pc := 441) dX12_composed_441 sx_m0 ?_
  refine sv_getA (pc := 442) hG dX12_composed_442 f_12_54 lay_146 rfl cr_146_41 ?_
  refine sx_iconst (pc := 445) (v := 4) dX12_composed_445 (by decide) ?_
  refine sx_iload (pc := 446) dX12_composed_446 sx_m3 ?_
  refine sx_imul (pc := 448) dX12_composed_448 ?_
  refine sx_iconst (pc := 449) (v := 2) dX12_composed_449 (by decide) ?_
  refine sx_iadd (pc := 450) dX12_composed_450 ?_
  refine sx_iload (pc := 451) dX12_composed_451 sx_m4 ?_
  refine sx_iconst (pc := 453) (v := 4) dX12_composed_453 (by decide) ?_
  refine sx_icmp_ne (pc := 454) (tgt := 467) dX12_composed_454 (by decide) (fun c8 => ?_) (fun c8 => ?_)
  · have h := sx_neg c8 h
    refine sx_iconst (pc := 467) (v := 0) dX12_composed_467 (by decide) ?_
    refine sx_wk (sx_s1 sx_m0 (sx_s1 sx_m1 (sx_s1 sx_m2 (sx_s1 sx_m4 sx_s0)))) ?_
    exact tB_X12_composed_468 hG hP hk12 h
  · have h := sx_pos c8 h
    refine sx_aload_n (pc := 457) dX12_composed_457 sx_m0 ?_
    refine sx_iload_n (pc := 458) dX12_composed_458 sx_m1 ?_
    refine sx_iconst (pc := 459) (v := 4) dX12_composed_459 (by decide) ?_
    refine sx_iadd (pc := 460) dX12_composed_460 ?_
    obtain ⟨⟨x11, V9⟩, g10, h⟩ := sx_bnd h
    refine sv_cV (pc := 461) (y := qX12_s2) (o := (some (.int x11))) (as := [.int (l1 + (4 : Int32))]) (V1 := V9) hG dX12_composed_461 l_X12_305 y0X12_s2 yvX12_s2 rfl (Nat.le_of_ble_eq_true rfl) lay_146 kr_12 (by decide) (Nat.le_of_ble_eq_true rfl) rfl rfl rfl (t_X12_s2 hG ⟨rfl, rfl⟩ g10) ?_
    refine sx_goto (pc := 464) (tgt := 468) dX12_composed_464 (by decide) ?_
    refine sx_wk (sx_s1 sx_m0 (sx_s1 sx_m1 (sx_s1 sx_m2 (sx_s1 sx_m4 sx_s0)))) ?_
    exact tB_X12_composed_468 hG hP hk12 h
def B_X12_composed_412 (N : Nat) (k12 : Int32 → Int32 → Int32 → sv_V → Option (Int32 × sv_V)) (l1 : Int32) (l3 : Int32) (l4 : Int32) (l7 : Int32) (s1 : Int32) (s2 : Int32) (V : sv_V) : Option (Int32 × sv_V) := if sx_in s1 32 = true then sx_let (sv_I V 161 s1.toNatClampNeg s2) (fun V13 => if l7 = (4 : Int32) then ((F_X12_s2 (l1 + (2 : Int32)) V13).bind (fun (x17, V15) => B_X12_composed_440 N k12 l1 l3 l4 l7 (((4 : Int32) * l4) + (1 : Int32)) x17 V15)) else (B_X12_composed_440 N k12 l1 l3 l4 l7 (((4 : Int32) * l4) + (1 : Int32)) (0 : Int32) V13)) else none
set_option maxRecDepth 20000 in
theorem tB_X12_composed_412 {g : sx_G} (hG : sx_Go g) {P : Option Value → sv_V → Prop} {r : Int32} {Vr : sv_V} (hP : P (some (.int r)) Vr) {N : Nat} {k12 : Int32 → Int32 → Int32 → sv_V → Option (Int32 × sv_V)} (hk12 : ∀ (l1 : Int32) (l2 : Int32) (l3 : Int32) (V : sv_V), k12 l1 l2 l3 V = some (r, Vr) → sv_N g qX12_composed 3 12 [(0, .ref 146), (1, .int l1), (2, .int l2), (3, .int l3)] [] V P) {l1 : Int32} {l3 : Int32} {l4 : Int32} {l7 : Int32} {s1 : Int32} {s2 : Int32} {V : sv_V} (h : B_X12_composed_412 N k12 l1 l3 l4 l7 s1 s2 V = some (r, Vr)) : sv_N g qX12_composed 3 412 [(0, .ref 146), (1, .int l1), (3, .int l3), (4, .int l4), (7, .int l7)] [.int s2, .int s1, .ref 161] V P := by
  unfold B_X12_composed_412 at h
  obtain ⟨g12, h⟩ := sx_grd h
  obtain ⟨V13, hV13⟩ : ∃ z : sv_V, z = sv_I V 161 s1.toNatClampNeg s2 := ⟨_, rfl⟩
  have h := sx_letE hV13 h
  refine sv_iast (pc := 412) hG dX12_composed_412 lay_161 g12 hV13 ?_
  refine sx_aload_n (pc := 413) dX12_composed_413 sx_m0 ?_
  refine sv_getA (pc := 414) hG dX12_composed_414 f_12_54 lay_146 rfl cr_146_41 ?_
  refine sx_iconst (pc := 417) (v := 4) dX12_composed_417 (by decide) ?_
  refine sx_iload (pc := 418) dX12_composed_418 sx_m3 ?_
  refine sx_imul (pc := 420) dX12_composed_420 ?_
  refine sx_iconst (pc := 421) (v := 1) dX12_composed_421 (by decide) ?_
  refine sx_iadd (pc := 422) dX12_composed_422 ?_
  refine sx_iload (pc := 423) dX12_composed_423 sx_m4 ?_
  refine sx_iconst (pc := 425) (v := 4) dX12_composed_425 (by decide) ?_
  refine sx_icmp_ne (pc := 426) (tgt := 439) dX12_composed_426 (by decide) (fun c14 => ?_) (fun c14 => ?_)
  · have h := sx_neg c14 h
    refine sx_iconst (pc := 439) (v := 0) dX12_composed_439 (by decide) ?_
    refine sx_wk (sx_s1 sx_m0 (sx_s1 sx_m1 (sx_s1 sx_m2 (sx_s1 sx_m3 (sx_s1 sx_m4 sx_s0))))) ?_
    exact tB_X12_composed_440 hG hP hk12 h
  · have h := sx_pos c14 h
    refine sx_aload_n (pc := 429) dX12_composed_429 sx_m0 ?_
    refine sx_iload_n (pc := 430) dX12_composed_430 sx_m1 ?_
    refine sx_iconst (pc := 431) (v := 2) dX12_composed_431 (by decide) ?_
    refine sx_iadd (pc := 432) dX12_composed_432 ?_
    obtain ⟨⟨x17, V15⟩, g16, h⟩ := sx_bnd h
    refine sv_cV (pc := 433) (y := qX12_s2) (o := (some (.int x17))) (as := [.int (l1 + (2 : Int32))]) (V1 := V15) hG dX12_composed_433 l_X12_305 y0X12_s2 yvX12_s2 rfl (Nat.le_of_ble_eq_true rfl) lay_146 kr_12 (by decide) (Nat.le_of_ble_eq_true rfl) rfl rfl rfl (t_X12_s2 hG ⟨rfl, rfl⟩ g16) ?_
    refine sx_goto (pc := 436) (tgt := 440) dX12_composed_436 (by decide) ?_
    refine sx_wk (sx_s1 sx_m0 (sx_s1 sx_m1 (sx_s1 sx_m2 (sx_s1 sx_m3 (sx_s1 sx_m4 sx_s0))))) ?_
    exact tB_X12_composed_440 hG hP hk12 h
def B_X12_composed_352 (N : Nat) (k12 : Int32 → Int32 → Int32 → sv_V → Option (Int32 × sv_V)) (l1 : Int32) (l3 : Int32) (l4 : Int32) (l7 : Int32) (s1 : Int32) (s2 : Int32) (V : sv_V) : Option (Int32 × sv_V) := if sx_in s1 32 = true then sx_let (sv_I V 161 s1.toNatClampNeg s2) (fun V19 => if l7 = 0 then (B_X12_composed_412 N k12 l1 l3 l4 l7 (((4 : Int32) * l4) + (3 : Int32)) (16384 : Int32) V19) else (if l7 = (1 : Int32) then ((F_X12_s2 l1 V19).bind (fun (x31, V29) => B_X12_composed_412 N k12 l1 l3 l4 l7 (((4 : Int32) * l4) + (3 : Int32)) x31 V29)) else (if l7 = (2 : Int32) then ((F_X12_s2 (l1 + (2 : Int32)) V19).bind (fun (x28, V26) => B_X12_composed_412 N k12 l1 l3 l4 l7 (((4 : Int32) * l4) + (3 : Int32)) x28 V26)) else ((F_X12_s2 (l1 + (6 : Int32)) V19).bind (fun (x25, V23) => B_X12_composed_412 N k12 l1 l3 l4 l7 (((4 : Int32) * l4) + (3 : Int32)) x25 V23))))) else none
set_option maxRecDepth 20000 in
theorem tB_X12_composed_352 {g : sx_G} (hG : sx_Go g) {P : Option Value → sv_V → Prop} {r : Int32} {Vr : sv_V} (hP : P (some (.int r)) Vr) {N : Nat} {k12 : Int32 → Int32 → Int32 → sv_V → Option (Int32 × sv_V)} (hk12 : ∀ (l1 : Int32) (l2 : Int32) (l3 : Int32) (V : sv_V), k12 l1 l2 l3 V = some (r, Vr) → sv_N g qX12_composed 3 12 [(0, .ref 146), (1, .int l1), (2, .int l2), (3, .int l3)] [] V P) {l1 : Int32} {l3 : Int32} {l4 : Int32} {l7 : Int32} {s1 : Int32} {s2 : Int32} {V : sv_V} (h : B_X12_composed_352 N k12 l1 l3 l4 l7 s1 s2 V = some (r, Vr)) : sv_N g qX12_composed 3 352 [(0, .ref 146), (1, .int l1), (3, .int l3), (4, .int l4), (7, .int l7)] [.int s2, .int s1, .ref 161] V P := by
  unfold B_X12_composed_352 at h
  obtain ⟨g18, h⟩ := sx_grd h
  obtain ⟨V19, hV19⟩ : ∃ z : sv_V, z = sv_I V 161 s1.toNatClampNeg s2 := ⟨_, rfl⟩
  have h := sx_letE hV19 h
  refine sv_iast (pc := 352) hG dX12_composed_352 lay_161 g18 hV19 ?_
  refine sx_aload_n (pc := 353) dX12_composed_353 sx_m0 ?_
  refine sv_getA (pc := 354) hG dX12_composed_354 f_12_54 lay_146 rfl cr_146_41 ?_
  refine sx_iconst (pc := 357) (v := 4) dX12_composed_357 (by decide) ?_
  refine sx_iload (pc := 358) dX12_composed_358 sx_m3 ?_
  refine sx_imul (pc := 360) dX12_composed_360 ?_
  refine sx_iconst (pc := 361) (v := 3) dX12_composed_361 (by decide) ?_
  refine sx_iadd (pc := 362) dX12_composed_362 ?_
  refine sx_iload (pc := 363) dX12_composed_363 sx_m4 ?_
  refine sx_if_ne (pc := 365) (tgt := 374) dX12_composed_365 (by decide) (fun c20 => ?_) (fun c20 => ?_)
  · have h := sx_neg c20 h
    refine sx_iload (pc := 374) dX12_composed_374 sx_m4 ?_
    refine sx_iconst (pc := 376) (v := 1) dX12_composed_376 (by decide) ?_
    refine sx_icmp_ne (pc := 377) (tgt := 388) dX12_composed_377 (by decide) (fun c21 => ?_) (fun c21 => ?_)
    · have h := sx_neg c21 h
      refine sx_iload (pc := 388) dX12_composed_388 sx_m4 ?_
      refine sx_iconst (pc := 390) (v := 2) dX12_composed_390 (by decide) ?_
      refine sx_icmp_ne (pc := 391) (tgt := 404) dX12_composed_391 (by decide) (fun c22 => ?_) (fun c22 => ?_)
      · have h := sx_neg c22 h
        refine sx_aload_n (pc := 404) dX12_composed_404 sx_m0 ?_
        refine sx_iload_n (pc := 405) dX12_composed_405 sx_m1 ?_
        refine sx_bipush (pc := 406) (v := 6) dX12_composed_406 (by decide) ?_
        refine sx_iadd (pc := 408) dX12_composed_408 ?_
        obtain ⟨⟨x25, V23⟩, g24, h⟩ := sx_bnd h
        refine sv_cV (pc := 409) (y := qX12_s2) (o := (some (.int x25))) (as := [.int (l1 + (6 : Int32))]) (V1 := V23) hG dX12_composed_409 l_X12_305 y0X12_s2 yvX12_s2 rfl (Nat.le_of_ble_eq_true rfl) lay_146 kr_12 (by decide) (Nat.le_of_ble_eq_true rfl) rfl rfl rfl (t_X12_s2 hG ⟨rfl, rfl⟩ g24) ?_
        refine sx_wk (sx_s1 sx_m0 (sx_s1 sx_m1 (sx_s1 sx_m2 (sx_s1 sx_m3 (sx_s1 sx_m4 sx_s0))))) ?_
        exact tB_X12_composed_412 hG hP hk12 h
      · have h := sx_pos c22 h
        refine sx_aload_n (pc := 394) dX12_composed_394 sx_m0 ?_
        refine sx_iload_n (pc := 395) dX12_composed_395 sx_m1 ?_
        refine sx_iconst (pc := 396) (v := 2) dX12_composed_396 (by decide) ?_
        refine sx_iadd (pc := 397) dX12_composed_397 ?_
        obtain ⟨⟨x28, V26⟩, g27, h⟩ := sx_bnd h
        refine sv_cV (pc := 398) (y := qX12_s2) (o := (some (.int x28))) (as := [.int (l1 + (2 : Int32))]) (V1 := V26) hG dX12_composed_398 l_X12_305 y0X12_s2 yvX12_s2 rfl (Nat.le_of_ble_eq_true rfl) lay_146 kr_12 (by decide) (Nat.le_of_ble_eq_true rfl) rfl rfl rfl (t_X12_s2 hG ⟨rfl, rfl⟩ g27) ?_
        refine sx_goto (pc := 401) (tgt := 412) dX12_composed_401 (by decide) ?_
        refine sx_wk (sx_s1 sx_m0 (sx_s1 sx_m1 (sx_s1 sx_m2 (sx_s1 sx_m3 (sx_s1 sx_m4 sx_s0))))) ?_
        exact tB_X12_composed_412 hG hP hk12 h
    · have h := sx_pos c21 h
      refine sx_aload_n (pc := 380) dX12_composed_380 sx_m0 ?_
      refine sx_iload_n (pc := 381) dX12_composed_381 sx_m1 ?_
      obtain ⟨⟨x31, V29⟩, g30, h⟩ := sx_bnd h
      refine sv_cV (pc := 382) (y := qX12_s2) (o := (some (.int x31))) (as := [.int l1]) (V1 := V29) hG dX12_composed_382 l_X12_305 y0X12_s2 yvX12_s2 rfl (Nat.le_of_ble_eq_true rfl) lay_146 kr_12 (by decide) (Nat.le_of_ble_eq_true rfl) rfl rfl rfl (t_X12_s2 hG ⟨rfl, rfl⟩ g30) ?_
      refine sx_goto (pc := 385) (tgt := 412) dX12_composed_385 (by decide) ?_
      refine sx_wk (sx_s1 sx_m0 (sx_s1 sx_m1 (sx_s1 sx_m2 (sx_s1 sx_m3 (sx_s1 sx_m4 sx_s0))))) ?_
      exact tB_X12_composed_412 hG hP hk12 h
  · have h := sx_pos c20 h
    refine sx_sipush (pc := 368) (v := 16384) dX12_composed_368 (by decide) ?_
    refine sx_goto (pc := 371) (tgt := 412) dX12_composed_371 (by decide) ?_
    refine sx_wk (sx_s1 sx_m0 (sx_s1 sx_m1 (sx_s1 sx_m2 (sx_s1 sx_m3 (sx_s1 sx_m4 sx_s0))))) ?_
    exact tB_X12_composed_412 hG hP hk12 h
def B_X12_composed_303 (N : Nat) (k12 : Int32 → Int32 → Int32 → sv_V → Option (Int32 × sv_V)) (k303 : Int32 → Int32 → Int32 → Int32 → Int32 → sv_V → Option (Int32 × sv_V)) (l1 : Int32) (l3 : Int32) (l4 : Int32) (l7 : Int32) (l8 : Int32) (V : sv_V) : Option (Int32 × sv_V) := if (4 : Int32) ≤ l8 then (if l7 = 0 then (B_X12_composed_352 N k12 l1 l3 l4 l7 ((4 : Int32) * l4) (16384 : Int32) V) else ((F_X12_s2 l1 V).bind (fun (x36, V34) => B_X12_composed_352 N k12 l1 l3 l4 l7 ((4 : Int32) * l4) x36 V34))) else (if sx_in (((4 : Int32) * l4) + l8) 32 = true then sx_let (sv_I V 161 (((4 : Int32) * l4) + l8).toNatClampNeg (0 : Int32)) (fun V38 => sx_let (l8 + 1) (fun x39 => k303 l1 l3 l4 l7 x39 V38)) else none)
set_option maxRecDepth 20000 in
theorem tB_X12_composed_303 {g : sx_G} (hG : sx_Go g) {P : Option Value → sv_V → Prop} {r : Int32} {Vr : sv_V} (hP : P (some (.int r)) Vr) {N : Nat} {k12 : Int32 → Int32 → Int32 → sv_V → Option (Int32 × sv_V)} {k303 : Int32 → Int32 → Int32 → Int32 → Int32 → sv_V → Option (Int32 × sv_V)} (hk12 : ∀ (l1 : Int32) (l2 : Int32) (l3 : Int32) (V : sv_V), k12 l1 l2 l3 V = some (r, Vr) → sv_N g qX12_composed 3 12 [(0, .ref 146), (1, .int l1), (2, .int l2), (3, .int l3)] [] V P) (hk303 : ∀ (l1 : Int32) (l3 : Int32) (l4 : Int32) (l7 : Int32) (l8 : Int32) (V : sv_V), k303 l1 l3 l4 l7 l8 V = some (r, Vr) → sv_N g qX12_composed 3 303 [(0, .ref 146), (1, .int l1), (3, .int l3), (4, .int l4), (7, .int l7), (8, .int l8)] [] V P) {l1 : Int32} {l3 : Int32} {l4 : Int32} {l7 : Int32} {l8 : Int32} {V : sv_V} (h : B_X12_composed_303 N k12 k303 l1 l3 l4 l7 l8 V = some (r, Vr)) : sv_N g qX12_composed 3 303 [(0, .ref 146), (1, .int l1), (3, .int l3), (4, .int l4), (7, .int l7), (8, .int l8)] [] V P := by
  unfold B_X12_composed_303 at h
  refine sx_iload (pc := 303) dX12_composed_303 sx_m5 ?_
  refine sx_iconst (pc := 305) (v := 4) dX12_composed_305 (by decide) ?_
  refine sx_icmp_ge (pc := 306) (tgt := 328) dX12_composed_306 (by decide) (fun c32 => ?_) (fun c32 => ?_)
  · have h := sx_pos c32 h
    refine sx_aload_n (pc := 328) dX12_composed_328 sx_m0 ?_
    refine sv_getA (pc := 329) hG dX12_composed_329 f_12_54 lay_146 rfl cr_146_41 ?_
    refine sx_iconst (pc := 332) (v := 4) dX12_composed_332 (by decide) ?_
    refine sx_iload (pc := 333) dX12_composed_333 sx_m3 ?_
    refine sx_imul (pc := 335) dX12_composed_335 ?_
    refine sx_iload (pc := 336) dX12_composed_336 sx_m4 ?_
    refine sx_if_ne (pc := 338) (tgt := 347) dX12_composed_338 (by decide) (fun c33 => ?_) (fun c33 => ?_)
    · have h := sx_neg c33 h
      refine sx_aload_n (pc := 347) dX12_composed_347 sx_m0 ?_
      refine sx_iload_n (pc := 348) dX12_composed_348 sx_m1 ?_
      obtain ⟨⟨x36, V34⟩, g35, h⟩ := sx_bnd h
      refine sv_cV (pc := 349) (y := qX12_s2) (o := (some (.int x36))) (as := [.int l1]) (V1 := V34) hG dX12_composed_349 l_X12_305 y0X12_s2 yvX12_s2 rfl (Nat.le_of_ble_eq_true rfl) lay_146 kr_12 (by decide) (Nat.le_of_ble_eq_true rfl) rfl rfl rfl (t_X12_s2 hG ⟨rfl, rfl⟩ g35) ?_
      refine sx_wk (sx_s1 sx_m0 (sx_s1 sx_m1 (sx_s1 sx_m2 (sx_s1 sx_m3 (sx_s1 sx_m4 sx_s0))))) ?_
      exact tB_X12_composed_352 hG hP hk12 h
    · have h := sx_pos c33 h
      refine sx_sipush (pc := 341) (v := 16384) dX12_composed_341 (by decide) ?_
      refine sx_goto (pc := 344) (tgt := 352) dX12_composed_344 (by decide) ?_
      refine sx_wk (sx_s1 sx_m0 (sx_s1 sx_m1 (sx_s1 sx_m2 (sx_s1 sx_m3 (sx_s1 sx_m4 sx_s0))))) ?_
      exact tB_X12_composed_352 hG hP hk12 h
  · have h := sx_neg c32 h
    refine sx_aload_n (pc := 309) dX12_composed_309 sx_m0 ?_
    refine sv_getA (pc := 310) hG dX12_composed_310 f_12_54 lay_146 rfl cr_146_41 ?_
    refine sx_iconst (pc := 313) (v := 4) dX12_composed_313 (by decide) ?_
    refine sx_iload (pc := 314) dX12_composed_314 sx_m3 ?_
    refine sx_imul (pc := 316) dX12_composed_316 ?_
    refine sx_iload (pc := 317) dX12_composed_317 sx_m5 ?_
    refine sx_iadd (pc := 319) dX12_composed_319 ?_
    refine sx_iconst (pc := 320) (v := 0) dX12_composed_320 (by decide) ?_
    obtain ⟨g37, h⟩ := sx_grd h
    obtain ⟨V38, hV38⟩ : ∃ z : sv_V, z = sv_I V 161 (((4 : Int32) * l4) + l8).toNatClampNeg (0 : Int32) := ⟨_, rfl⟩
    have h := sx_letE hV38 h
    refine sv_iast (pc := 321) hG dX12_composed_321 lay_161 g37 hV38 ?_
    obtain ⟨x39, hx39⟩ : ∃ z : Int32, z = l8 + 1 := ⟨_, rfl⟩
    have h := sx_letE hx39 h
    refine sx_iinc (pc := 322) (v := x39) (lo' := [(8, .int x39), (0, .ref 146), (1, .int l1), (3, .int l3), (4, .int l4), (7, .int l7)]) dX12_composed_322 sx_m5 (by rw [hx39]; rfl) (by decide) rfl ?_
    refine sx_goto (pc := 325) (tgt := 303) dX12_composed_325 (by decide) ?_
    refine sx_wk (sx_s1 sx_m1 (sx_s1 sx_m2 (sx_s1 sx_m3 (sx_s1 sx_m4 (sx_s1 sx_m5 (sx_s1 sx_m0 sx_s0)))))) ?_
    exact hk303 _ _ _ _ _ _ h
theorem tL_X12_composed_303 {g : sx_G} (hG : sx_Go g) {P : Option Value → sv_V → Prop} {r : Int32} {Vr : sv_V} (hP : P (some (.int r)) Vr) {N : Nat} {k12 : Int32 → Int32 → Int32 → sv_V → Option (Int32 × sv_V)} (hk12 : ∀ (l1 : Int32) (l2 : Int32) (l3 : Int32) (V : sv_V), k12 l1 l2 l3 V = some (r, Vr) → sv_N g qX12_composed 3 12 [(0, .ref 146), (1, .int l1), (2, .int l2), (3, .int l3)] [] V P) : ∀ (n : Nat) (l1 : Int32) (l3 : Int32) (l4 : Int32) (l7 : Int32) (l8 : Int32) (V : sv_V), sx_lp6 (B_X12_composed_303 N k12) n l1 l3 l4 l7 l8 V = some (r, Vr) → sv_N g qX12_composed 3 303 [(0, .ref 146), (1, .int l1), (3, .int l3), (4, .int l4), (7, .int l7), (8, .int l8)] [] V P :=
  sx_lp6_ind (fun k0 ih _ _ _ _ _ V h => tB_X12_composed_303 hG hP hk12 ih h)
def B_X12_composed_298 (N : Nat) (k12 : Int32 → Int32 → Int32 → sv_V → Option (Int32 × sv_V)) (l3 : Int32) (l4 : Int32) (l7 : Int32) (s0 : Int32) (s1 : Int32) (V : sv_V) : Option (Int32 × sv_V) := sx_let (s0 + s1) (fun x40 => sx_lp6 (B_X12_composed_303 N k12) N x40 l3 l4 l7 (0 : Int32) V)
set_option maxRecDepth 20000 in
theorem tB_X12_composed_298 {g : sx_G} (hG : sx_Go g) {P : Option Value → sv_V → Prop} {r : Int32} {Vr : sv_V} (hP : P (some (.int r)) Vr) {N : Nat} {k12 : Int32 → Int32 → Int32 → sv_V → Option (Int32 × sv_V)} (hk12 : ∀ (l1 : Int32) (l2 : Int32) (l3 : Int32) (V : sv_V), k12 l1 l2 l3 V = some (r, Vr) → sv_N g qX12_composed 3 12 [(0, .ref 146), (1, .int l1), (2, .int l2), (3, .int l3)] [] V P) {l3 : Int32} {l4 : Int32} {l7 : Int32} {s0 : Int32} {s1 : Int32} {V : sv_V} (h : B_X12_composed_298 N k12 l3 l4 l7 s0 s1 V = some (r, Vr)) : sv_N g qX12_composed 3 298 [(0, .ref 146), (3, .int l3), (4, .int l4), (7, .int l7)] [.int s1, .int s0] V P := by
  unfold B_X12_composed_298 at h
  refine sx_iadd (pc := 298) dX12_composed_298 ?_
  refine sv_tI (fun x40 hx40 => ?_)
  have h := sx_letE hx40 h
  refine sx_istore_n (pc := 299) (lo' := [(1, .int x40), (0, .ref 146), (3, .int l3), (4, .int l4), (7, .int l7)]) dX12_composed_299 (by decide) rfl ?_
  refine sx_iconst (pc := 300) (v := 0) dX12_composed_300 (by decide) ?_
  refine sx_istore (pc := 301) (lo' := [(8, .int (0 : Int32)), (1, .int x40), (0, .ref 146), (3, .int l3), (4, .int l4), (7, .int l7)]) dX12_composed_301 (by decide) rfl ?_
  refine sx_wk (sx_s1 sx_m2 (sx_s1 sx_m1 (sx_s1 sx_m3 (sx_s1 sx_m4 (sx_s1 sx_m5 (sx_s1 sx_m0 sx_s0)))))) ?_
  exact tL_X12_composed_303 hG hP hk12 N _ _ _ _ _ _ h
def B_X12_composed_286 (N : Nat) (k12 : Int32 → Int32 → Int32 → sv_V → Option (Int32 × sv_V)) (l1 : Int32) (l3 : Int32) (l4 : Int32) (l5 : Int32) (l7 : Int32) (s1 : Int32) (s2 : Int32) (V : sv_V) : Option (Int32 × sv_V) := if sx_in s1 8 = true then sx_let (sv_I V 160 s1.toNatClampNeg s2) (fun V42 => if l5 = 0 then (B_X12_composed_298 N k12 l3 l4 l7 l1 (2 : Int32) V42) else (B_X12_composed_298 N k12 l3 l4 l7 l1 (4 : Int32) V42)) else none
set_option maxRecDepth 20000 in
theorem tB_X12_composed_286 {g : sx_G} (hG : sx_Go g) {P : Option Value → sv_V → Prop} {r : Int32} {Vr : sv_V} (hP : P (some (.int r)) Vr) {N : Nat} {k12 : Int32 → Int32 → Int32 → sv_V → Option (Int32 × sv_V)} (hk12 : ∀ (l1 : Int32) (l2 : Int32) (l3 : Int32) (V : sv_V), k12 l1 l2 l3 V = some (r, Vr) → sv_N g qX12_composed 3 12 [(0, .ref 146), (1, .int l1), (2, .int l2), (3, .int l3)] [] V P) {l1 : Int32} {l3 : Int32} {l4 : Int32} {l5 : Int32} {l7 : Int32} {s1 : Int32} {s2 : Int32} {V : sv_V} (h : B_X12_composed_286 N k12 l1 l3 l4 l5 l7 s1 s2 V = some (r, Vr)) : sv_N g qX12_composed 3 286 [(0, .ref 146), (1, .int l1), (3, .int l3), (4, .int l4), (5, .int l5), (7, .int l7)] [.int s2, .int s1, .ref 160] V P := by
  unfold B_X12_composed_286 at h
  obtain ⟨g41, h⟩ := sx_grd h
  obtain ⟨V42, hV42⟩ : ∃ z : sv_V, z = sv_I V 160 s1.toNatClampNeg s2 := ⟨_, rfl⟩
  have h := sx_letE hV42 h
  refine sv_iast (pc := 286) hG dX12_composed_286 lay_160 g41 hV42 ?_
  refine sx_iload_n (pc := 287) dX12_composed_287 sx_m1 ?_
  refine sx_iload (pc := 288) dX12_composed_288 sx_m4 ?_
  refine sx_if_eq (pc := 290) (tgt := 297) dX12_composed_290 (by decide) (fun c43 => ?_) (fun c43 => ?_)
  · have h := sx_pos c43 h
    refine sx_iconst (pc := 297) (v := 2) dX12_composed_297 (by decide) ?_
    refine sx_wk (sx_s1 sx_m0 (sx_s1 sx_m2 (sx_s1 sx_m3 (sx_s1 sx_m5 sx_s0)))) ?_
    exact tB_X12_composed_298 hG hP hk12 h
  · have h := sx_neg c43 h
    refine sx_iconst (pc := 293) (v := 4) dX12_composed_293 (by decide) ?_
    refine sx_goto (pc := 294) (tgt := 298) dX12_composed_294 (by decide) ?_
    refine sx_wk (sx_s1 sx_m0 (sx_s1 sx_m2 (sx_s1 sx_m3 (sx_s1 sx_m5 sx_s0)))) ?_
    exact tB_X12_composed_298 hG hP hk12 h
def B_X12_composed_227 (N : Nat) (k12 : Int32 → Int32 → Int32 → sv_V → Option (Int32 × sv_V)) (l1 : Int32) (l3 : Int32) (l4 : Int32) (l5 : Int32) (l6 : Int32) (l7 : Int32) (s1 : Int32) (s2 : Int32) (V : sv_V) : Option (Int32 × sv_V) := if sx_in s1 8 = true then sx_let (sv_I V 159 s1.toNatClampNeg s2) (fun V45 => if l5 = 0 then (if l6 = 0 then ((F_X12_u1 (l1 + (1 : Int32)) V45).bind (fun (x50, V48) => B_X12_composed_286 N k12 l1 l3 l4 l5 l7 l4 x50 V48)) else ((F_X12_s1 (l1 + (1 : Int32)) V45).bind (fun (x53, V51) => B_X12_composed_286 N k12 l1 l3 l4 l5 l7 l4 x53 V51))) else (if l6 = 0 then ((F_X12_u2 (l1 + (2 : Int32)) V45).bind (fun (x57, V55) => B_X12_composed_286 N k12 l1 l3 l4 l5 l7 l4 x57 V55)) else ((F_X12_s2 (l1 + (2 : Int32)) V45).bind (fun (x60, V58) => B_X12_composed_286 N k12 l1 l3 l4 l5 l7 l4 x60 V58)))) else none
set_option maxRecDepth 20000 in
theorem tB_X12_composed_227 {g : sx_G} (hG : sx_Go g) {P : Option Value → sv_V → Prop} {r : Int32} {Vr : sv_V} (hP : P (some (.int r)) Vr) {N : Nat} {k12 : Int32 → Int32 → Int32 → sv_V → Option (Int32 × sv_V)} (hk12 : ∀ (l1 : Int32) (l2 : Int32) (l3 : Int32) (V : sv_V), k12 l1 l2 l3 V = some (r, Vr) → sv_N g qX12_composed 3 12 [(0, .ref 146), (1, .int l1), (2, .int l2), (3, .int l3)] [] V P) {l1 : Int32} {l3 : Int32} {l4 : Int32} {l5 : Int32} {l6 : Int32} {l7 : Int32} {s1 : Int32} {s2 : Int32} {V : sv_V} (h : B_X12_composed_227 N k12 l1 l3 l4 l5 l6 l7 s1 s2 V = some (r, Vr)) : sv_N g qX12_composed 3 227 [(0, .ref 146), (1, .int l1), (3, .int l3), (4, .int l4), (5, .int l5), (6, .int l6), (7, .int l7)] [.int s2, .int s1, .ref 159] V P := by
  unfold B_X12_composed_227 at h
  obtain ⟨g44, h⟩ := sx_grd h
  obtain ⟨V45, hV45⟩ : ∃ z : sv_V, z = sv_I V 159 s1.toNatClampNeg s2 := ⟨_, rfl⟩
  have h := sx_letE hV45 h
  refine sv_iast (pc := 227) hG dX12_composed_227 lay_159 g44 hV45 ?_
  refine sx_aload_n (pc := 228) dX12_composed_228 sx_m0 ?_
  refine sv_getA (pc := 229) hG dX12_composed_229 f_12_51 lay_146 rfl cr_146_40 ?_
  refine sx_iload (pc := 232) dX12_composed_232 sx_m3 ?_
  refine sx_iload (pc := 234) dX12_composed_234 sx_m4 ?_
  refine sx_if_eq (pc := 236) (tgt := 264) dX12_composed_236 (by decide) (fun c46 => ?_) (fun c46 => ?_)
  · have h := sx_pos c46 h
    refine sx_iload (pc := 264) dX12_composed_264 sx_m5 ?_
    refine sx_if_eq (pc := 266) (tgt := 279) dX12_composed_266 (by decide) (fun c47 => ?_) (fun c47 => ?_)
    · have h := sx_pos c47 h
      refine sx_aload_n (pc := 279) dX12_composed_279 sx_m0 ?_
      refine sx_iload_n (pc := 280) dX12_composed_280 sx_m1 ?_
      refine sx_iconst (pc := 281) (v := 1) dX12_composed_281 (by decide) ?_
      refine sx_iadd (pc := 282) dX12_composed_282 ?_
      obtain ⟨⟨x50, V48⟩, g49, h⟩ := sx_bnd h
      refine sv_cV (pc := 283) (y := qX12_u1) (o := (some (.int x50))) (as := [.int (l1 + (1 : Int32))]) (V1 := V48) hG dX12_composed_283 l_X12_209 y0X12_u1 yvX12_u1 rfl (Nat.le_of_ble_eq_true rfl) lay_146 kr_12 (by decide) (Nat.le_of_ble_eq_true rfl) rfl rfl rfl (t_X12_u1 hG ⟨rfl, rfl⟩ g49) ?_
      refine sx_wk (sx_s1 sx_m0 (sx_s1 sx_m1 (sx_s1 sx_m2 (sx_s1 sx_m3 (sx_s1 sx_m4 (sx_s1 sx_m6 sx_s0)))))) ?_
      exact tB_X12_composed_286 hG hP hk12 h
    · have h := sx_neg c47 h
      refine sx_aload_n (pc := 269) dX12_composed_269 sx_m0 ?_
      refine sx_iload_n (pc := 270) dX12_composed_270 sx_m1 ?_
      refine sx_iconst (pc := 271) (v := 1) dX12_composed_271 (by decide) ?_
      refine sx_iadd (pc := 272) dX12_composed_272 ?_
      obtain ⟨⟨x53, V51⟩, g52, h⟩ := sx_bnd h
      refine sv_cV (pc := 273) (y := qX12_s1) (o := (some (.int x53))) (as := [.int (l1 + (1 : Int32))]) (V1 := V51) hG dX12_composed_273 l_X12_377 y0X12_s1 yvX12_s1 rfl (Nat.le_of_ble_eq_true rfl) lay_146 kr_12 (by decide) (Nat.le_of_ble_eq_true rfl) rfl rfl rfl (t_X12_s1 hG ⟨rfl, rfl⟩ g52) ?_
      refine sx_goto (pc := 276) (tgt := 286) dX12_composed_276 (by decide) ?_
      refine sx_wk (sx_s1 sx_m0 (sx_s1 sx_m1 (sx_s1 sx_m2 (sx_s1 sx_m3 (sx_s1 sx_m4 (sx_s1 sx_m6 sx_s0)))))) ?_
      exact tB_X12_composed_286 hG hP hk12 h
  · have h := sx_neg c46 h
    refine sx_iload (pc := 239) dX12_composed_239 sx_m5 ?_
    refine sx_if_eq (pc := 241) (tgt := 254) dX12_composed_241 (by decide) (fun c54 => ?_) (fun c54 => ?_)
    · have h := sx_pos c54 h
      refine sx_aload_n (pc := 254) dX12_composed_254 sx_m0 ?_
      refine sx_iload_n (pc := 255) dX12_composed_255 sx_m1 ?_
      refine sx_iconst (pc := 256) (v := 2) dX12_composed_256 (by decide) ?_
      refine sx_iadd (pc := 257) dX12_composed_257 ?_
      obtain ⟨⟨x57, V55⟩, g56, h⟩ := sx_bnd h
      refine sv_cV (pc := 258) (y := qX12_u2) (o := (some (.int x57))) (as := [.int (l1 + (2 : Int32))]) (V1 := V55) hG dX12_composed_258 l_X12_213 y0X12_u2 yvX12_u2 rfl (Nat.le_of_ble_eq_true rfl) lay_146 kr_12 (by decide) (Nat.le_of_ble_eq_true rfl) rfl rfl rfl (t_X12_u2 hG ⟨rfl, rfl⟩ g56) ?_
      refine sx_goto (pc := 261) (tgt := 286) dX12_composed_261 (by decide) ?_
      refine sx_wk (sx_s1 sx_m0 (sx_s1 sx_m1 (sx_s1 sx_m2 (sx_s1 sx_m3 (sx_s1 sx_m4 (sx_s1 sx_m6 sx_s0)))))) ?_
      exact tB_X12_composed_286 hG hP hk12 h
    · have h := sx_neg c54 h
      refine sx_aload_n (pc := 244) dX12_composed_244 sx_m0 ?_
      refine sx_iload_n (pc := 245) dX12_composed_245 sx_m1 ?_
      refine sx_iconst (pc := 246) (v := 2) dX12_composed_246 (by decide) ?_
      refine sx_iadd (pc := 247) dX12_composed_247 ?_
      obtain ⟨⟨x60, V58⟩, g59, h⟩ := sx_bnd h
      refine sv_cV (pc := 248) (y := qX12_s2) (o := (some (.int x60))) (as := [.int (l1 + (2 : Int32))]) (V1 := V58) hG dX12_composed_248 l_X12_305 y0X12_s2 yvX12_s2 rfl (Nat.le_of_ble_eq_true rfl) lay_146 kr_12 (by decide) (Nat.le_of_ble_eq_true rfl) rfl rfl rfl (t_X12_s2 hG ⟨rfl, rfl⟩ g59) ?_
      refine sx_goto (pc := 251) (tgt := 286) dX12_composed_251 (by decide) ?_
      refine sx_wk (sx_s1 sx_m0 (sx_s1 sx_m1 (sx_s1 sx_m2 (sx_s1 sx_m3 (sx_s1 sx_m4 (sx_s1 sx_m6 sx_s0)))))) ?_
      exact tB_X12_composed_286 hG hP hk12 h
def B_X12_composed_162 (N : Nat) (k12 : Int32 → Int32 → Int32 → sv_V → Option (Int32 × sv_V)) (l1 : Int32) (l3 : Int32) (l4 : Int32) (l5 : Int32) (l6 : Int32) (l7 : Int32) (s0 : Int32) (s1 : Int32) (V : sv_V) : Option (Int32 × sv_V) := if ((s0 + s1) + ((2 : Int32) * l7)) ≤ (V.1 146 27) then (if l5 = 0 then (if l6 = 0 then ((F_X12_u1 l1 V).bind (fun (x66, V64) => B_X12_composed_227 N k12 l1 l3 l4 l5 l6 l7 l4 x66 V64)) else ((F_X12_s1 l1 V).bind (fun (x69, V67) => B_X12_composed_227 N k12 l1 l3 l4 l5 l6 l7 l4 x69 V67))) else (if l6 = 0 then ((F_X12_u2 l1 V).bind (fun (x73, V71) => B_X12_composed_227 N k12 l1 l3 l4 l5 l6 l7 l4 x73 V71)) else ((F_X12_s2 l1 V).bind (fun (x76, V74) => B_X12_composed_227 N k12 l1 l3 l4 l5 l6 l7 l4 x76 V74)))) else (some ((0 : Int32), V))
set_option maxRecDepth 20000 in
theorem tB_X12_composed_162 {g : sx_G} (hG : sx_Go g) {P : Option Value → sv_V → Prop} {r : Int32} {Vr : sv_V} (hP : P (some (.int r)) Vr) {N : Nat} {k12 : Int32 → Int32 → Int32 → sv_V → Option (Int32 × sv_V)} (hk12 : ∀ (l1 : Int32) (l2 : Int32) (l3 : Int32) (V : sv_V), k12 l1 l2 l3 V = some (r, Vr) → sv_N g qX12_composed 3 12 [(0, .ref 146), (1, .int l1), (2, .int l2), (3, .int l3)] [] V P) {l1 : Int32} {l3 : Int32} {l4 : Int32} {l5 : Int32} {l6 : Int32} {l7 : Int32} {s0 : Int32} {s1 : Int32} {V : sv_V} (h : B_X12_composed_162 N k12 l1 l3 l4 l5 l6 l7 s0 s1 V = some (r, Vr)) : sv_N g qX12_composed 3 162 [(0, .ref 146), (1, .int l1), (3, .int l3), (4, .int l4), (5, .int l5), (6, .int l6), (7, .int l7)] [.int s1, .int s0] V P := by
  unfold B_X12_composed_162 at h
  refine sx_iadd (pc := 162) dX12_composed_162 ?_
  refine sx_iconst (pc := 163) (v := 2) dX12_composed_163 (by decide) ?_
  refine sx_iload (pc := 164) dX12_composed_164 sx_m6 ?_
  refine sx_imul (pc := 166) dX12_composed_166 ?_
  refine sx_iadd (pc := 167) dX12_composed_167 ?_
  refine sx_aload_n (pc := 168) dX12_composed_168 sx_m0 ?_
  refine sv_getI (pc := 169) hG dX12_composed_169 f_12_345 lay_146 rfl ?_
  refine sx_icmp_le (pc := 172) (tgt := 177) dX12_composed_172 (by decide) (fun c61 => ?_) (fun c61 => ?_)
  · have h := sx_pos c61 h
    refine sx_aload_n (pc := 177) dX12_composed_177 sx_m0 ?_
    refine sv_getA (pc := 178) hG dX12_composed_178 f_12_48 lay_146 rfl cr_146_39 ?_
    refine sx_iload (pc := 181) dX12_composed_181 sx_m3 ?_
    refine sx_iload (pc := 183) dX12_composed_183 sx_m4 ?_
    refine sx_if_eq (pc := 185) (tgt := 209) dX12_composed_185 (by decide) (fun c62 => ?_) (fun c62 => ?_)
    · have h := sx_pos c62 h
      refine sx_iload (pc := 209) dX12_composed_209 sx_m5 ?_
      refine sx_if_eq (pc := 211) (tgt := 222) dX12_composed_211 (by decide) (fun c63 => ?_) (fun c63 => ?_)
      · have h := sx_pos c63 h
        refine sx_aload_n (pc := 222) dX12_composed_222 sx_m0 ?_
        refine sx_iload_n (pc := 223) dX12_composed_223 sx_m1 ?_
        obtain ⟨⟨x66, V64⟩, g65, h⟩ := sx_bnd h
        refine sv_cV (pc := 224) (y := qX12_u1) (o := (some (.int x66))) (as := [.int l1]) (V1 := V64) hG dX12_composed_224 l_X12_209 y0X12_u1 yvX12_u1 rfl (Nat.le_of_ble_eq_true rfl) lay_146 kr_12 (by decide) (Nat.le_of_ble_eq_true rfl) rfl rfl rfl (t_X12_u1 hG ⟨rfl, rfl⟩ g65) ?_
        refine sx_wk (sx_s1 sx_m0 (sx_s1 sx_m1 (sx_s1 sx_m2 (sx_s1 sx_m3 (sx_s1 sx_m4 (sx_s1 sx_m5 (sx_s1 sx_m6 sx_s0))))))) ?_
        exact tB_X12_composed_227 hG hP hk12 h
      · have h := sx_neg c63 h
        refine sx_aload_n (pc := 214) dX12_composed_214 sx_m0 ?_
        refine sx_iload_n (pc := 215) dX12_composed_215 sx_m1 ?_
        obtain ⟨⟨x69, V67⟩, g68, h⟩ := sx_bnd h
        refine sv_cV (pc := 216) (y := qX12_s1) (o := (some (.int x69))) (as := [.int l1]) (V1 := V67) hG dX12_composed_216 l_X12_377 y0X12_s1 yvX12_s1 rfl (Nat.le_of_ble_eq_true rfl) lay_146 kr_12 (by decide) (Nat.le_of_ble_eq_true rfl) rfl rfl rfl (t_X12_s1 hG ⟨rfl, rfl⟩ g68) ?_
        refine sx_goto (pc := 219) (tgt := 227) dX12_composed_219 (by decide) ?_
        refine sx_wk (sx_s1 sx_m0 (sx_s1 sx_m1 (sx_s1 sx_m2 (sx_s1 sx_m3 (sx_s1 sx_m4 (sx_s1 sx_m5 (sx_s1 sx_m6 sx_s0))))))) ?_
        exact tB_X12_composed_227 hG hP hk12 h
    · have h := sx_neg c62 h
      refine sx_iload (pc := 188) dX12_composed_188 sx_m5 ?_
      refine sx_if_eq (pc := 190) (tgt := 201) dX12_composed_190 (by decide) (fun c70 => ?_) (fun c70 => ?_)
      · have h := sx_pos c70 h
        refine sx_aload_n (pc := 201) dX12_composed_201 sx_m0 ?_
        refine sx_iload_n (pc := 202) dX12_composed_202 sx_m1 ?_
        obtain ⟨⟨x73, V71⟩, g72, h⟩ := sx_bnd h
        refine sv_cV (pc := 203) (y := qX12_u2) (o := (some (.int x73))) (as := [.int l1]) (V1 := V71) hG dX12_composed_203 l_X12_213 y0X12_u2 yvX12_u2 rfl (Nat.le_of_ble_eq_true rfl) lay_146 kr_12 (by decide) (Nat.le_of_ble_eq_true rfl) rfl rfl rfl (t_X12_u2 hG ⟨rfl, rfl⟩ g72) ?_
        refine sx_goto (pc := 206) (tgt := 227) dX12_composed_206 (by decide) ?_
        refine sx_wk (sx_s1 sx_m0 (sx_s1 sx_m1 (sx_s1 sx_m2 (sx_s1 sx_m3 (sx_s1 sx_m4 (sx_s1 sx_m5 (sx_s1 sx_m6 sx_s0))))))) ?_
        exact tB_X12_composed_227 hG hP hk12 h
      · have h := sx_neg c70 h
        refine sx_aload_n (pc := 193) dX12_composed_193 sx_m0 ?_
        refine sx_iload_n (pc := 194) dX12_composed_194 sx_m1 ?_
        obtain ⟨⟨x76, V74⟩, g75, h⟩ := sx_bnd h
        refine sv_cV (pc := 195) (y := qX12_s2) (o := (some (.int x76))) (as := [.int l1]) (V1 := V74) hG dX12_composed_195 l_X12_305 y0X12_s2 yvX12_s2 rfl (Nat.le_of_ble_eq_true rfl) lay_146 kr_12 (by decide) (Nat.le_of_ble_eq_true rfl) rfl rfl rfl (t_X12_s2 hG ⟨rfl, rfl⟩ g75) ?_
        refine sx_goto (pc := 198) (tgt := 227) dX12_composed_198 (by decide) ?_
        refine sx_wk (sx_s1 sx_m0 (sx_s1 sx_m1 (sx_s1 sx_m2 (sx_s1 sx_m3 (sx_s1 sx_m4 (sx_s1 sx_m5 (sx_s1 sx_m6 sx_s0))))))) ?_
        exact tB_X12_composed_227 hG hP hk12 h
  · have h := sx_neg c61 h
    refine sx_iconst (pc := 175) (v := 0) dX12_composed_175 (by decide) ?_
    exact sv_zret (pc := 176) dX12_composed_176 rfl rfl h hP
def B_X12_composed_135 (N : Nat) (k12 : Int32 → Int32 → Int32 → sv_V → Option (Int32 × sv_V)) (l1 : Int32) (l3 : Int32) (l4 : Int32) (l5 : Int32) (l6 : Int32) (s0 : Int32) (V : sv_V) : Option (Int32 × sv_V) := if sx_in l4 8 = true then if (V.1 146 12) ≤ (V.1 158 l4.toNatClampNeg) then (some ((0 : Int32), V)) else (if l5 = 0 then (B_X12_composed_162 N k12 l1 l3 l4 l5 l6 s0 l1 (2 : Int32) V) else (B_X12_composed_162 N k12 l1 l3 l4 l5 l6 s0 l1 (4 : Int32) V)) else none
set_option maxRecDepth 20000 in
theorem tB_X12_composed_135 {g : sx_G} (hG : sx_Go g) {P : Option Value → sv_V → Prop} {r : Int32} {Vr : sv_V} (hP : P (some (.int r)) Vr) {N : Nat} {k12 : Int32 → Int32 → Int32 → sv_V → Option (Int32 × sv_V)} (hk12 : ∀ (l1 : Int32) (l2 : Int32) (l3 : Int32) (V : sv_V), k12 l1 l2 l3 V = some (r, Vr) → sv_N g qX12_composed 3 12 [(0, .ref 146), (1, .int l1), (2, .int l2), (3, .int l3)] [] V P) {l1 : Int32} {l3 : Int32} {l4 : Int32} {l5 : Int32} {l6 : Int32} {s0 : Int32} {V : sv_V} (h : B_X12_composed_135 N k12 l1 l3 l4 l5 l6 s0 V = some (r, Vr)) : sv_N g qX12_composed 3 135 [(0, .ref 146), (1, .int l1), (3, .int l3), (4, .int l4), (5, .int l5), (6, .int l6)] [.int s0] V P := by
  unfold B_X12_composed_135 at h
  refine sx_istore (pc := 135) (lo' := [(7, .int s0), (0, .ref 146), (1, .int l1), (3, .int l3), (4, .int l4), (5, .int l5), (6, .int l6)]) dX12_composed_135 (by decide) rfl ?_
  refine sx_aload_n (pc := 137) dX12_composed_137 sx_m1 ?_
  refine sv_getA (pc := 138) hG dX12_composed_138 f_12_45 lay_146 rfl cr_146_38 ?_
  refine sx_iload (pc := 141) dX12_composed_141 sx_m4 ?_
  obtain ⟨g77, h⟩ := sx_grd h
  refine sv_iald (pc := 143) hG dX12_composed_143 lay_158 g77 ?_
  refine sx_aload_n (pc := 144) dX12_composed_144 sx_m1 ?_
  refine sv_getI (pc := 145) hG dX12_composed_145 f_12_260 lay_146 rfl ?_
  refine sx_icmp_ge (pc := 148) (tgt := 175) dX12_composed_148 (by decide) (fun c78 => ?_) (fun c78 => ?_)
  · have h := sx_pos c78 h
    refine sx_iconst (pc := 175) (v := 0) dX12_composed_175 (by decide) ?_
    exact sv_zret (pc := 176) dX12_composed_176 rfl rfl h hP
  · have h := sx_neg c78 h
    refine sx_iload_n (pc := 151) dX12_composed_151 sx_m2 ?_
    refine sx_iload (pc := 152) dX12_composed_152 sx_m5 ?_
    refine sx_if_eq (pc := 154) (tgt := 161) dX12_composed_154 (by decide) (fun c79 => ?_) (fun c79 => ?_)
    · have h := sx_pos c79 h
      refine sx_iconst (pc := 161) (v := 2) dX12_composed_161 (by decide) ?_
      refine sx_wk (sx_s1 sx_m1 (sx_s1 sx_m2 (sx_s1 sx_m3 (sx_s1 sx_m4 (sx_s1 sx_m5 (sx_s1 sx_m6 (sx_s1 sx_m0 sx_s0))))))) ?_
      exact tB_X12_composed_162 hG hP hk12 h
    · have h := sx_neg c79 h
      refine sx_iconst (pc := 157) (v := 4) dX12_composed_157 (by decide) ?_
      refine sx_goto (pc := 158) (tgt := 162) dX12_composed_158 (by decide) ?_
      refine sx_wk (sx_s1 sx_m1 (sx_s1 sx_m2 (sx_s1 sx_m3 (sx_s1 sx_m4 (sx_s1 sx_m5 (sx_s1 sx_m6 (sx_s1 sx_m0 sx_s0))))))) ?_
      exact tB_X12_composed_162 hG hP hk12 h
def B_X12_composed_98 (N : Nat) (k12 : Int32 → Int32 → Int32 → sv_V → Option (Int32 × sv_V)) (l1 : Int32) (l3 : Int32) (l4 : Int32) (l5 : Int32) (s0 : Int32) (V : sv_V) : Option (Int32 × sv_V) := if (l3 &&& (8 : Int32)) = 0 then (if (l3 &&& (64 : Int32)) = 0 then (if (l3 &&& (128 : Int32)) = 0 then (B_X12_composed_135 N k12 l1 l3 l4 l5 s0 (0 : Int32) V) else (B_X12_composed_135 N k12 l1 l3 l4 l5 s0 (4 : Int32) V)) else (B_X12_composed_135 N k12 l1 l3 l4 l5 s0 (2 : Int32) V)) else (B_X12_composed_135 N k12 l1 l3 l4 l5 s0 (1 : Int32) V)
set_option maxRecDepth 20000 in
theorem tB_X12_composed_98 {g : sx_G} (hG : sx_Go g) {P : Option Value → sv_V → Prop} {r : Int32} {Vr : sv_V} (hP : P (some (.int r)) Vr) {N : Nat} {k12 : Int32 → Int32 → Int32 → sv_V → Option (Int32 × sv_V)} (hk12 : ∀ (l1 : Int32) (l2 : Int32) (l3 : Int32) (V : sv_V), k12 l1 l2 l3 V = some (r, Vr) → sv_N g qX12_composed 3 12 [(0, .ref 146), (1, .int l1), (2, .int l2), (3, .int l3)] [] V P) {l1 : Int32} {l3 : Int32} {l4 : Int32} {l5 : Int32} {s0 : Int32} {V : sv_V} (h : B_X12_composed_98 N k12 l1 l3 l4 l5 s0 V = some (r, Vr)) : sv_N g qX12_composed 3 98 [(0, .ref 146), (1, .int l1), (3, .int l3), (4, .int l4), (5, .int l5)] [.int s0] V P := by
  unfold B_X12_composed_98 at h
  refine sx_istore (pc := 98) (lo' := [(6, .int s0), (0, .ref 146), (1, .int l1), (3, .int l3), (4, .int l4), (5, .int l5)]) dX12_composed_98 (by decide) rfl ?_
  refine sx_iload_n (pc := 100) dX12_composed_100 sx_m3 ?_
  refine sx_bipush (pc := 101) (v := 8) dX12_composed_101 (by decide) ?_
  refine sx_iand (pc := 103) dX12_composed_103 ?_
  refine sx_if_eq (pc := 104) (tgt := 111) dX12_composed_104 (by decide) (fun c80 => ?_) (fun c80 => ?_)
  · have h := sx_pos c80 h
    refine sx_iload_n (pc := 111) dX12_composed_111 sx_m3 ?_
    refine sx_bipush (pc := 112) (v := 64) dX12_composed_112 (by decide) ?_
    refine sx_iand (pc := 114) dX12_composed_114 ?_
    refine sx_if_eq (pc := 115) (tgt := 122) dX12_composed_115 (by decide) (fun c81 => ?_) (fun c81 => ?_)
    · have h := sx_pos c81 h
      refine sx_iload_n (pc := 122) dX12_composed_122 sx_m3 ?_
      refine sx_sipush (pc := 123) (v := 128) dX12_composed_123 (by decide) ?_
      refine sx_iand (pc := 126) dX12_composed_126 ?_
      refine sx_if_eq (pc := 127) (tgt := 134) dX12_composed_127 (by decide) (fun c82 => ?_) (fun c82 => ?_)
      · have h := sx_pos c82 h
        refine sx_iconst (pc := 134) (v := 0) dX12_composed_134 (by decide) ?_
        refine sx_wk (sx_s1 sx_m1 (sx_s1 sx_m2 (sx_s1 sx_m3 (sx_s1 sx_m4 (sx_s1 sx_m5 (sx_s1 sx_m0 sx_s0)))))) ?_
        exact tB_X12_composed_135 hG hP hk12 h
      · have h := sx_neg c82 h
        refine sx_iconst (pc := 130) (v := 4) dX12_composed_130 (by decide) ?_
        refine sx_goto (pc := 131) (tgt := 135) dX12_composed_131 (by decide) ?_
        refine sx_wk (sx_s1 sx_m1 (sx_s1 sx_m2 (sx_s1 sx_m3 (sx_s1 sx_m4 (sx_s1 sx_m5 (sx_s1 sx_m0 sx_s0)))))) ?_
        exact tB_X12_composed_135 hG hP hk12 h
    · have h := sx_neg c81 h
      refine sx_iconst (pc := 118) (v := 2) dX12_composed_118 (by decide) ?_
      refine sx_goto (pc := 119) (tgt := 135) dX12_composed_119 (by decide) ?_
      refine sx_wk (sx_s1 sx_m1 (sx_s1 sx_m2 (sx_s1 sx_m3 (sx_s1 sx_m4 (sx_s1 sx_m5 (sx_s1 sx_m0 sx_s0)))))) ?_
      exact tB_X12_composed_135 hG hP hk12 h
  · have h := sx_neg c80 h
    refine sx_iconst (pc := 107) (v := 1) dX12_composed_107 (by decide) ?_
    refine sx_goto (pc := 108) (tgt := 135) dX12_composed_108 (by decide) ?_
    refine sx_wk (sx_s1 sx_m1 (sx_s1 sx_m2 (sx_s1 sx_m3 (sx_s1 sx_m4 (sx_s1 sx_m5 (sx_s1 sx_m0 sx_s0)))))) ?_
    exact tB_X12_composed_135 hG hP hk12 h
def B_X12_composed_85 (N : Nat) (k12 : Int32 → Int32 → Int32 → sv_V → Option (Int32 × sv_V)) (l1 : Int32) (l3 : Int32) (l4 : Int32) (s0 : Int32) (V : sv_V) : Option (Int32 × sv_V) := if (l3 &&& (2 : Int32)) = 0 then (B_X12_composed_98 N k12 l1 l3 l4 s0 (0 : Int32) V) else (B_X12_composed_98 N k12 l1 l3 l4 s0 (1 : Int32) V)
set_option maxRecDepth 20000 in
theorem tB_X12_composed_85 {g : sx_G} (hG : sx_Go g) {P : Option Value → sv_V → Prop} {r : Int32} {Vr : sv_V} (hP : P (some (.int r)) Vr) {N : Nat} {k12 : Int32 → Int32 → Int32 → sv_V → Option (Int32 × sv_V)} (hk12 : ∀ (l1 : Int32) (l2 : Int32) (l3 : Int32) (V : sv_V), k12 l1 l2 l3 V = some (r, Vr) → sv_N g qX12_composed 3 12 [(0, .ref 146), (1, .int l1), (2, .int l2), (3, .int l3)] [] V P) {l1 : Int32} {l3 : Int32} {l4 : Int32} {s0 : Int32} {V : sv_V} (h : B_X12_composed_85 N k12 l1 l3 l4 s0 V = some (r, Vr)) : sv_N g qX12_composed 3 85 [(0, .ref 146), (1, .int l1), (3, .int l3), (4, .int l4)] [.int s0] V P := by
  unfold B_X12_composed_85 at h
  refine sx_istore (pc := 85) (lo' := [(5, .int s0), (0, .ref 146), (1, .int l1), (3, .int l3), (4, .int l4)]) dX12_composed_85 (by decide) rfl ?_
  refine sx_iload_n (pc := 87) dX12_composed_87 sx_m3 ?_
  refine sx_iconst (pc := 88) (v := 2) dX12_composed_88 (by decide) ?_
  refine sx_iand (pc := 89) dX12_composed_89 ?_
  refine sx_if_eq (pc := 90) (tgt := 97) dX12_composed_90 (by decide) (fun c83 => ?_) (fun c83 => ?_)
  · have h := sx_pos c83 h
    refine sx_iconst (pc := 97) (v := 0) dX12_composed_97 (by decide) ?_
    refine sx_wk (sx_s1 sx_m1 (sx_s1 sx_m2 (sx_s1 sx_m3 (sx_s1 sx_m4 (sx_s1 sx_m0 sx_s0))))) ?_
    exact tB_X12_composed_98 hG hP hk12 h
  · have h := sx_neg c83 h
    refine sx_iconst (pc := 93) (v := 1) dX12_composed_93 (by decide) ?_
    refine sx_goto (pc := 94) (tgt := 98) dX12_composed_94 (by decide) ?_
    refine sx_wk (sx_s1 sx_m1 (sx_s1 sx_m2 (sx_s1 sx_m3 (sx_s1 sx_m4 (sx_s1 sx_m0 sx_s0))))) ?_
    exact tB_X12_composed_98 hG hP hk12 h
def B_X12_composed_12 (N : Nat) (k12 : Int32 → Int32 → Int32 → sv_V → Option (Int32 × sv_V)) (l1 : Int32) (l2 : Int32) (l3 : Int32) (V : sv_V) : Option (Int32 × sv_V) := if l2 = 0 then (if (l3 &&& (256 : Int32)) = 0 then (some ((1 : Int32), V)) else (if (l1 + (2 : Int32)) ≤ (V.1 146 27) then ((F_X12_u2 l1 V).bind (fun (x89, V87) => sx_let (sv_I V87 146 32 x89) (fun V90 => sx_let (sv_I V90 146 31 (l1 + (2 : Int32))) (fun V91 => if (400 : Int32) < (V91.1 146 32) then (some ((0 : Int32), V91)) else (if ((V91.1 146 31) + (V91.1 146 32)) ≤ (V91.1 146 27) then (some ((1 : Int32), V91)) else (some ((0 : Int32), V91))))))) else (some ((0 : Int32), V)))) else (if (V.1 146 30) = (8 : Int32) then (some ((0 : Int32), V)) else (if (l1 + (4 : Int32)) ≤ (V.1 146 27) then ((F_X12_u2 l1 V).bind (fun (x98, V96) => sx_let (V96.1 146 30) (fun x99 => if sx_in x99 8 = true then sx_let (sv_I V96 157 x99.toNatClampNeg x98) (fun V101 => (F_X12_u2 (l1 + (2 : Int32)) V101).bind (fun (x104, V102) => if sx_in x99 8 = true then sx_let (sv_I V102 158 x99.toNatClampNeg x104) (fun V106 => sx_let (l1 + 4) (fun x107 => if (x98 &&& (1 : Int32)) = 0 then (B_X12_composed_85 N k12 x107 x98 x99 (0 : Int32) V106) else (B_X12_composed_85 N k12 x107 x98 x99 (1 : Int32) V106))) else none)) else none))) else (some ((0 : Int32), V))))
set_option maxRecDepth 20000 in
theorem tB_X12_composed_12 {g : sx_G} (hG : sx_Go g) {P : Option Value → sv_V → Prop} {r : Int32} {Vr : sv_V} (hP : P (some (.int r)) Vr) {N : Nat} {k12 : Int32 → Int32 → Int32 → sv_V → Option (Int32 × sv_V)} (hk12 : ∀ (l1 : Int32) (l2 : Int32) (l3 : Int32) (V : sv_V), k12 l1 l2 l3 V = some (r, Vr) → sv_N g qX12_composed 3 12 [(0, .ref 146), (1, .int l1), (2, .int l2), (3, .int l3)] [] V P) {l1 : Int32} {l2 : Int32} {l3 : Int32} {V : sv_V} (h : B_X12_composed_12 N k12 l1 l2 l3 V = some (r, Vr)) : sv_N g qX12_composed 3 12 [(0, .ref 146), (1, .int l1), (2, .int l2), (3, .int l3)] [] V P := by
  unfold B_X12_composed_12 at h
  refine sx_iload_n (pc := 12) dX12_composed_12 sx_m2 ?_
  refine sx_if_eq (pc := 13) (tgt := 502) dX12_composed_13 (by decide) (fun c84 => ?_) (fun c84 => ?_)
  · have h := sx_pos c84 h
    refine sx_iload_n (pc := 502) dX12_composed_502 sx_m3 ?_
    refine sx_sipush (pc := 503) (v := 256) dX12_composed_503 (by decide) ?_
    refine sx_iand (pc := 506) dX12_composed_506 ?_
    refine sx_if_eq (pc := 507) (tgt := 566) dX12_composed_507 (by decide) (fun c85 => ?_) (fun c85 => ?_)
    · have h := sx_pos c85 h
      refine sx_iconst (pc := 566) (v := 1) dX12_composed_566 (by decide) ?_
      exact sv_zret (pc := 567) dX12_composed_567 rfl rfl h hP
    · have h := sx_neg c85 h
      refine sx_iload_n (pc := 510) dX12_composed_510 sx_m1 ?_
      refine sx_iconst (pc := 511) (v := 2) dX12_composed_511 (by decide) ?_
      refine sx_iadd (pc := 512) dX12_composed_512 ?_
      refine sx_aload_n (pc := 513) dX12_composed_513 sx_m0 ?_
      refine sv_getI (pc := 514) hG dX12_composed_514 f_12_345 lay_146 rfl ?_
      refine sx_icmp_le (pc := 517) (tgt := 522) dX12_composed_517 (by decide) (fun c86 => ?_) (fun c86 => ?_)
      · have h := sx_pos c86 h
        refine sx_aload_n (pc := 522) dX12_composed_522 sx_m0 ?_
        refine sx_aload_n (pc := 523) dX12_composed_523 sx_m0 ?_
        refine sx_iload_n (pc := 524) dX12_composed_524 sx_m1 ?_
        obtain ⟨⟨x89, V87⟩, g88, h⟩ := sx_bnd h
        refine sv_cV (pc := 525) (y := qX12_u2) (o := (some (.int x89))) (as := [.int l1]) (V1 := V87) hG dX12_composed_525 l_X12_213 y0X12_u2 yvX12_u2 rfl (Nat.le_of_ble_eq_true rfl) lay_146 kr_12 (by decide) (Nat.le_of_ble_eq_true rfl) rfl rfl rfl (t_X12_u2 hG ⟨rfl, rfl⟩ g88) ?_
        obtain ⟨V90, hV90⟩ : ∃ z : sv_V, z = sv_I V87 146 32 x89 := ⟨_, rfl⟩
        have h := sx_letE hV90 h
        refine sv_putI (pc := 528) hG dX12_composed_528 f_12_360 lay_146 rfl hV90 ?_
        refine sx_aload_n (pc := 531) dX12_composed_531 sx_m0 ?_
        refine sx_iload_n (pc := 532) dX12_composed_532 sx_m1 ?_
        refine sx_iconst (pc := 533) (v := 2) dX12_composed_533 (by decide) ?_
        refine sx_iadd (pc := 534) dX12_composed_534 ?_
        obtain ⟨V91, hV91⟩ : ∃ z : sv_V, z = sv_I V90 146 31 (l1 + (2 : Int32)) := ⟨_, rfl⟩
        have h := sx_letE hV91 h
        refine sv_putI (pc := 535) hG dX12_composed_535 f_12_357 lay_146 rfl hV91 ?_
        refine sx_aload_n (pc := 538) dX12_composed_538 sx_m0 ?_
        refine sv_getI (pc := 539) hG dX12_composed_539 f_12_360 lay_146 rfl ?_
        refine sx_sipush (pc := 542) (v := 400) dX12_composed_542 (by decide) ?_
        refine sx_icmp_gt (pc := 545) (tgt := 564) dX12_composed_545 (by decide) (fun c92 => ?_) (fun c92 => ?_)
        · have h := sx_pos c92 h
          refine sx_iconst (pc := 564) (v := 0) dX12_composed_564 (by decide) ?_
          exact sv_zret (pc := 565) dX12_composed_565 rfl rfl h hP
        · have h := sx_neg c92 h
          refine sx_aload_n (pc := 548) dX12_composed_548 sx_m0 ?_
          refine sv_getI (pc := 549) hG dX12_composed_549 f_12_357 lay_146 rfl ?_
          refine sx_aload_n (pc := 552) dX12_composed_552 sx_m0 ?_
          refine sv_getI (pc := 553) hG dX12_composed_553 f_12_360 lay_146 rfl ?_
          refine sx_iadd (pc := 556) dX12_composed_556 ?_
          refine sx_aload_n (pc := 557) dX12_composed_557 sx_m0 ?_
          refine sv_getI (pc := 558) hG dX12_composed_558 f_12_345 lay_146 rfl ?_
          refine sx_icmp_le (pc := 561) (tgt := 566) dX12_composed_561 (by decide) (fun c93 => ?_) (fun c93 => ?_)
          · have h := sx_pos c93 h
            refine sx_iconst (pc := 566) (v := 1) dX12_composed_566 (by decide) ?_
            exact sv_zret (pc := 567) dX12_composed_567 rfl rfl h hP
          · have h := sx_neg c93 h
            refine sx_iconst (pc := 564) (v := 0) dX12_composed_564 (by decide) ?_
            exact sv_zret (pc := 565) dX12_composed_565 rfl rfl h hP
      · have h := sx_neg c86 h
        refine sx_iconst (pc := 520) (v := 0) dX12_composed_520 (by decide) ?_
        exact sv_zret (pc := 521) dX12_composed_521 rfl rfl h hP
  · have h := sx_neg c84 h
    refine sx_aload_n (pc := 16) dX12_composed_16 sx_m0 ?_
    refine sv_getI (pc := 17) hG dX12_composed_17 f_12_354 lay_146 rfl ?_
    refine sx_bipush (pc := 20) (v := 8) dX12_composed_20 (by decide) ?_
    refine sx_icmp_eq (pc := 22) (tgt := 35) dX12_composed_22 (by decide) (fun c94 => ?_) (fun c94 => ?_)
    · have h := sx_pos c94 h
      refine sx_iconst (pc := 35) (v := 0) dX12_composed_35 (by decide) ?_
      exact sv_zret (pc := 36) dX12_composed_36 rfl rfl h hP
    · have h := sx_neg c94 h
      refine sx_iload_n (pc := 25) dX12_composed_25 sx_m1 ?_
      refine sx_iconst (pc := 26) (v := 4) dX12_composed_26 (by decide) ?_
      refine sx_iadd (pc := 27) dX12_composed_27 ?_
      refine sx_aload_n (pc := 28) dX12_composed_28 sx_m0 ?_
      refine sv_getI (pc := 29) hG dX12_composed_29 f_12_345 lay_146 rfl ?_
      refine sx_icmp_le (pc := 32) (tgt := 37) dX12_composed_32 (by decide) (fun c95 => ?_) (fun c95 => ?_)
      · have h := sx_pos c95 h
        refine sx_aload_n (pc := 37) dX12_composed_37 sx_m0 ?_
        refine sx_iload_n (pc := 38) dX12_composed_38 sx_m1 ?_
        obtain ⟨⟨x98, V96⟩, g97, h⟩ := sx_bnd h
        refine sv_cV (pc := 39) (y := qX12_u2) (o := (some (.int x98))) (as := [.int l1]) (V1 := V96) hG dX12_composed_39 l_X12_213 y0X12_u2 yvX12_u2 rfl (Nat.le_of_ble_eq_true rfl) lay_146 kr_12 (by decide) (Nat.le_of_ble_eq_true rfl) rfl rfl rfl (t_X12_u2 hG ⟨rfl, rfl⟩ g97) ?_
        refine sx_istore_n (pc := 42) (lo' := [(3, .int x98), (0, .ref 146), (1, .int l1), (2, .int l2)]) dX12_composed_42 (by decide) rfl ?_
        refine sx_aload_n (pc := 43) dX12_composed_43 sx_m1 ?_
        refine sv_getI (pc := 44) hG dX12_composed_44 f_12_354 lay_146 rfl ?_
        refine sv_tI (fun x99 hx99 => ?_)
        have h := sx_letE hx99 h
        refine sx_istore (pc := 47) (lo' := [(4, .int x99), (3, .int x98), (0, .ref 146), (1, .int l1), (2, .int l2)]) dX12_composed_47 (by decide) rfl ?_
        refine sx_aload_n (pc := 49) dX12_composed_49 sx_m2 ?_
        refine sv_getA (pc := 50) hG dX12_composed_50 f_12_42 lay_146 rfl cr_146_37 ?_
        refine sx_iload (pc := 53) dX12_composed_53 sx_m0 ?_
        refine sx_iload_n (pc := 55) dX12_composed_55 sx_m1 ?_
        obtain ⟨g100, h⟩ := sx_grd h
        obtain ⟨V101, hV101⟩ : ∃ z : sv_V, z = sv_I V96 157 x99.toNatClampNeg x98 := ⟨_, rfl⟩
        have h := sx_letE hV101 h
        refine sv_iast (pc := 56) hG dX12_composed_56 lay_157 g100 hV101 ?_
        refine sx_aload_n (pc := 57) dX12_composed_57 sx_m2 ?_
        refine sv_getA (pc := 58) hG dX12_composed_58 f_12_45 lay_146 rfl cr_146_38 ?_
        refine sx_iload (pc := 61) dX12_composed_61 sx_m0 ?_
        refine sx_aload_n (pc := 63) dX12_composed_63 sx_m2 ?_
        refine sx_iload_n (pc := 64) dX12_composed_64 sx_m3 ?_
        refine sx_iconst (pc := 65) (v := 2) dX12_composed_65 (by decide) ?_
        refine sx_iadd (pc := 66) dX12_composed_66 ?_
        obtain ⟨⟨x104, V102⟩, g103, h⟩ := sx_bnd h
        refine sv_cV (pc := 67) (y := qX12_u2) (o := (some (.int x104))) (as := [.int (l1 + (2 : Int32))]) (V1 := V102) hG dX12_composed_67 l_X12_213 y0X12_u2 yvX12_u2 rfl (Nat.le_of_ble_eq_true rfl) lay_146 kr_12 (by decide) (Nat.le_of_ble_eq_true rfl) rfl rfl rfl (t_X12_u2 hG ⟨rfl, rfl⟩ g103) ?_
        obtain ⟨g105, h⟩ := sx_grd h
        obtain ⟨V106, hV106⟩ : ∃ z : sv_V, z = sv_I V102 158 x99.toNatClampNeg x104 := ⟨_, rfl⟩
        have h := sx_letE hV106 h
        refine sv_iast (pc := 70) hG dX12_composed_70 lay_158 g105 hV106 ?_
        obtain ⟨x107, hx107⟩ : ∃ z : Int32, z = l1 + 4 := ⟨_, rfl⟩
        have h := sx_letE hx107 h
        refine sx_iinc (pc := 71) (v := x107) (lo' := [(1, .int x107), (4, .int x99), (3, .int x98), (0, .ref 146), (2, .int l2)]) dX12_composed_71 sx_m3 (by rw [hx107]; rfl) (by decide) rfl ?_
        refine sx_iload_n (pc := 74) dX12_composed_74 sx_m2 ?_
        refine sx_iconst (pc := 75) (v := 1) dX12_composed_75 (by decide) ?_
        refine sx_iand (pc := 76) dX12_composed_76 ?_
        refine sx_if_eq (pc := 77) (tgt := 84) dX12_composed_77 (by decide) (fun c108 => ?_) (fun c108 => ?_)
        · have h := sx_pos c108 h
          refine sx_iconst (pc := 84) (v := 0) dX12_composed_84 (by decide) ?_
          refine sx_wk (sx_s1 sx_m3 (sx_s1 sx_m0 (sx_s1 sx_m2 (sx_s1 sx_m1 sx_s0)))) ?_
          exact tB_X12_composed_85 hG hP hk12 h
        · have h := sx_neg c108 h
          refine sx_iconst (pc := 80) (v := 1) dX12_composed_80 (by decide) ?_
          refine sx_goto (pc := 81) (tgt := 85) dX12_composed_81 (by decide) ?_
          refine sx_wk (sx_s1 sx_m3 (sx_s1 sx_m0 (sx_s1 sx_m2 (sx_s1 sx_m1 sx_s0)))) ?_
          exact tB_X12_composed_85 hG hP hk12 h
      · have h := sx_neg c95 h
        refine sx_iconst (pc := 35) (v := 0) dX12_composed_35 (by decide) ?_
        exact sv_zret (pc := 36) dX12_composed_36 rfl rfl h hP
theorem tL_X12_composed_12 {g : sx_G} (hG : sx_Go g) {P : Option Value → sv_V → Prop} {r : Int32} {Vr : sv_V} (hP : P (some (.int r)) Vr) {N : Nat}   : ∀ (n : Nat) (l1 : Int32) (l2 : Int32) (l3 : Int32) (V : sv_V), sx_lp4 (B_X12_composed_12 N ) n l1 l2 l3 V = some (r, Vr) → sv_N g qX12_composed 3 12 [(0, .ref 146), (1, .int l1), (2, .int l2), (3, .int l3)] [] V P :=
  sx_lp4_ind (fun k0 ih _ _ _ V h => tB_X12_composed_12 hG hP ih h)
def F_X12_composed (N : Nat)  (V : sv_V) : Option (Int32 × sv_V) := sx_let ((V.1 146 26) + (10 : Int32)) (fun x109 => sx_lp4 (B_X12_composed_12 N ) N x109 (1 : Int32) (0 : Int32) V)
set_option maxRecDepth 20000 in
theorem t_X12_composed {g : sx_G} (hG : sx_Go g) {P : Option Value → sv_V → Prop} {r : Int32} {Vr : sv_V} (hP : P (some (.int r)) Vr) {N : Nat}  {V : sv_V} (h : F_X12_composed N  V = some (r, Vr)) : sv_N g qX12_composed 3 0 [(0, .ref 146)] [] V P := by
  unfold F_X12_composed at h
  refine sx_aload_n (pc := 0) dX12_composed_0 sx_m0 ?_
  refine sv_getI (pc := 1) hG dX12_composed_1 f_12_342 lay_146 rfl ?_
  refine sx_bipush (pc := 4) (v := 10) dX12_composed_4 (by decide) ?_
  refine sx_iadd (pc := 6) dX12_composed_6 ?_
  refine sv_tI (fun x109 hx109 => ?_)
  have h := sx_letE hx109 h
  refine sx_istore_n (pc := 7) (lo' := [(1, .int x109), (0, .ref 146)]) dX12_composed_7 (by decide) rfl ?_
  refine sx_iconst (pc := 8) (v := 1) dX12_composed_8 (by decide) ?_
  refine sx_istore_n (pc := 9) (lo' := [(2, .int (1 : Int32)), (1, .int x109), (0, .ref 146)]) dX12_composed_9 (by decide) rfl ?_
  refine sx_iconst (pc := 10) (v := 0) dX12_composed_10 (by decide) ?_
  refine sx_istore_n (pc := 11) (lo' := [(3, .int (0 : Int32)), (2, .int (1 : Int32)), (1, .int x109), (0, .ref 146)]) dX12_composed_11 (by decide) rfl ?_
  refine sx_wk (sx_s1 sx_m3 (sx_s1 sx_m2 (sx_s1 sx_m1 (sx_s1 sx_m0 sx_s0)))) ?_
  exact tL_X12_composed_12 hG hP  N _ _ _ _ h
def ncX12_setMany : Nat := 48418708249713450
theorem kcX12_setMany : CK cX12_setMany ncX12_setMany 7 := ⟨by decide +kernel, by decide +kernel⟩
theorem dX12_setMany_0 : decode cX12_setMany 0 = .ok (.aload_n 0, 1) := dl_o42 kcX12_setMany (by decide +kernel)
theorem dX12_setMany_1 : decode cX12_setMany 1 = .ok (.iload_n 1, 1) := dl_o27 kcX12_setMany (by decide +kernel)
theorem dX12_setMany_2 : decode cX12_setMany 2 = .ok (.putfield 399, 3) := dl_o181 kcX12_setMany (by decide +kernel)
theorem dX12_setMany_5 : decode cX12_setMany 5 = .ok (.iconst 1, 1) := dl_o4 kcX12_setMany (by decide +kernel)
theorem dX12_setMany_6 : decode cX12_setMany 6 = .ok (.ireturn, 1) := dl_o172 kcX12_setMany (by decide +kernel)
def F_X12_setMany (l1 : Int32) (V : sv_V) : Option (Int32 × sv_V) := sx_let (sv_I V 146 23 l1) (fun V1 => some ((1 : Int32), V1))
set_option maxRecDepth 20000 in
theorem t_X12_setMany {g : sx_G} (hG : sx_Go g) {P : Option Value → sv_V → Prop} {r : Int32} {Vr : sv_V} (hP : P (some (.int r)) Vr) {l1 : Int32} {V : sv_V} (h : F_X12_setMany l1 V = some (r, Vr)) : sv_N g qX12_setMany 0 0 [(0, .ref 146), (1, .int l1)] [] V P := by
  unfold F_X12_setMany at h
  refine sx_aload_n (pc := 0) dX12_setMany_0 sx_m0 ?_
  refine sx_iload_n (pc := 1) dX12_setMany_1 sx_m1 ?_
  obtain ⟨V1, hV1⟩ : ∃ z : sv_V, z = sv_I V 146 23 l1 := ⟨_, rfl⟩
  have h := sx_letE hV1 h
  refine sv_putI (pc := 2) hG dX12_setMany_2 f_12_399 lay_146 rfl hV1 ?_
  refine sx_iconst (pc := 5) (v := 1) dX12_setMany_5 (by decide) ?_
  exact sv_zret (pc := 6) dX12_setMany_6 rfl rfl h hP
def ncX12_segments : Nat := 1780702591292277442000266502608346301120796282138300391649940514138349711094443428219760859384887813264817146775053642457987922993448841459602776398818897791149207544974418932568299979849013314901873244876781384435677902629661500220242600290789649953321599230135802329353235196485788073775336969522311740173596649468346141184500561019653138830012416477532812139473438219940093157633006294616640613219685509261184505140829534506980012283596828368695317758890207679727711562282
theorem kcX12_segments : CK cX12_segments ncX12_segments 197 := ⟨by decide +kernel, by decide +kernel⟩
theorem dX12_segments_0 : decode cX12_segments 0 = .ok (.aload_n 0, 1) := dl_o42 kcX12_segments (by decide +kernel)
theorem dX12_segments_1 : decode cX12_segments 1 = .ok (.aload_n 0, 1) := dl_o42 kcX12_segments (by decide +kernel)
theorem dX12_segments_2 : decode cX12_segments 2 = .ok (.getfield 384, 3) := dl_o180 kcX12_segments (by decide +kernel)
theorem dX12_segments_5 : decode cX12_segments 5 = .ok (.iconst 2, 1) := dl_o5 kcX12_segments (by decide +kernel)
theorem dX12_segments_6 : decode cX12_segments 6 = .ok (.iadd, 1) := dl_o96 kcX12_segments (by decide +kernel)
theorem dX12_segments_7 : decode cX12_segments 7 = .ok (.invokevirtual 213, 3) := dl_o182 kcX12_segments (by decide +kernel)
theorem dX12_segments_10 : decode cX12_segments 10 = .ok (.istore_n 2, 1) := dl_o61 kcX12_segments (by decide +kernel)
theorem dX12_segments_11 : decode cX12_segments 11 = .ok (.iload_n 2, 1) := dl_o28 kcX12_segments (by decide +kernel)
theorem dX12_segments_12 : decode cX12_segments 12 = .ok (.iload_n 1, 1) := dl_o27 kcX12_segments (by decide +kernel)
theorem dX12_segments_13 : decode cX12_segments 13 = .ok (.if_icmp .gt 9, 3) := dl_o163 kcX12_segments 9 (by decide +kernel) (by decide +kernel)
theorem dX12_segments_16 : decode cX12_segments 16 = .ok (.iload_n 2, 1) := dl_o28 kcX12_segments (by decide +kernel)
theorem dX12_segments_17 : decode cX12_segments 17 = .ok (.bipush 16, 2) := dl_o16 kcX12_segments 16 (by decide +kernel) (by decide +kernel)
theorem dX12_segments_19 : decode cX12_segments 19 = .ok (.if_icmp .ge 5, 3) := dl_o162 kcX12_segments 5 (by decide +kernel) (by decide +kernel)
theorem dX12_segments_22 : decode cX12_segments 22 = .ok (.iconst 0, 1) := dl_o3 kcX12_segments (by decide +kernel)
theorem dX12_segments_23 : decode cX12_segments 23 = .ok (.ireturn, 1) := dl_o172 kcX12_segments (by decide +kernel)
theorem dX12_segments_24 : decode cX12_segments 24 = .ok (.aload_n 0, 1) := dl_o42 kcX12_segments (by decide +kernel)
theorem dX12_segments_25 : decode cX12_segments 25 = .ok (.aload_n 0, 1) := dl_o42 kcX12_segments (by decide +kernel)
theorem dX12_segments_26 : decode cX12_segments 26 = .ok (.getfield 384, 3) := dl_o180 kcX12_segments (by decide +kernel)
theorem dX12_segments_29 : decode cX12_segments 29 = .ok (.bipush 6, 2) := dl_o16 kcX12_segments 6 (by decide +kernel) (by decide +kernel)
theorem dX12_segments_31 : decode cX12_segments 31 = .ok (.iadd, 1) := dl_o96 kcX12_segments (by decide +kernel)
theorem dX12_segments_32 : decode cX12_segments 32 = .ok (.invokevirtual 213, 3) := dl_o182 kcX12_segments (by decide +kernel)
theorem dX12_segments_35 : decode cX12_segments 35 = .ok (.istore_n 3, 1) := dl_o62 kcX12_segments (by decide +kernel)
theorem dX12_segments_36 : decode cX12_segments 36 = .ok (.iload_n 3, 1) := dl_o29 kcX12_segments (by decide +kernel)
theorem dX12_segments_37 : decode cX12_segments 37 = .ok (.iconst 2, 1) := dl_o5 kcX12_segments (by decide +kernel)
theorem dX12_segments_38 : decode cX12_segments 38 = .ok (.idiv, 1) := dl_o108 kcX12_segments (by decide +kernel)
theorem dX12_segments_39 : decode cX12_segments 39 = .ok (.istore 4, 2) := dl_o54 kcX12_segments (by decide +kernel)
theorem dX12_segments_41 : decode cX12_segments 41 = .ok (.iload_n 3, 1) := dl_o29 kcX12_segments (by decide +kernel)
theorem dX12_segments_42 : decode cX12_segments 42 = .ok (.iconst 2, 1) := dl_o5 kcX12_segments (by decide +kernel)
theorem dX12_segments_43 : decode cX12_segments 43 = .ok (.irem, 1) := dl_o112 kcX12_segments (by decide +kernel)
theorem dX12_segments_44 : decode cX12_segments 44 = .ok (.ifCond .ne 28, 3) := dl_o154 kcX12_segments 28 (by decide +kernel) (by decide +kernel)
theorem dX12_segments_47 : decode cX12_segments 47 = .ok (.iload 4, 2) := dl_o21 kcX12_segments (by decide +kernel)
theorem dX12_segments_49 : decode cX12_segments 49 = .ok (.i2l, 1) := dl_o133 kcX12_segments (by decide +kernel)
theorem dX12_segments_50 : decode cX12_segments 50 = .ok (.lconst 1, 1) := dl_o10 kcX12_segments (by decide +kernel)
theorem dX12_segments_51 : decode cX12_segments 51 = .ok (.ldc2_w 402, 3) := dl_o20 kcX12_segments (by decide +kernel)
theorem dX12_segments_54 : decode cX12_segments 54 = .ok (.invokestatic 263, 3) := dl_o184 kcX12_segments (by decide +kernel)
theorem dX12_segments_57 : decode cX12_segments 57 = .ok (.ifCond .eq 15, 3) := dl_o153 kcX12_segments 15 (by decide +kernel) (by decide +kernel)
theorem dX12_segments_60 : decode cX12_segments 60 = .ok (.bipush 16, 2) := dl_o16 kcX12_segments 16 (by decide +kernel) (by decide +kernel)
theorem dX12_segments_62 : decode cX12_segments 62 = .ok (.bipush 8, 2) := dl_o16 kcX12_segments 8 (by decide +kernel) (by decide +kernel)
theorem dX12_segments_64 : decode cX12_segments 64 = .ok (.iload 4, 2) := dl_o21 kcX12_segments (by decide +kernel)
theorem dX12_segments_66 : decode cX12_segments 66 = .ok (.imul, 1) := dl_o104 kcX12_segments (by decide +kernel)
theorem dX12_segments_67 : decode cX12_segments 67 = .ok (.iadd, 1) := dl_o96 kcX12_segments (by decide +kernel)
theorem dX12_segments_68 : decode cX12_segments 68 = .ok (.iload_n 2, 1) := dl_o28 kcX12_segments (by decide +kernel)
theorem dX12_segments_69 : decode cX12_segments 69 = .ok (.if_icmp .le 5, 3) := dl_o164 kcX12_segments 5 (by decide +kernel) (by decide +kernel)
theorem dX12_segments_72 : decode cX12_segments 72 = .ok (.iconst 0, 1) := dl_o3 kcX12_segments (by decide +kernel)
theorem dX12_segments_73 : decode cX12_segments 73 = .ok (.ireturn, 1) := dl_o172 kcX12_segments (by decide +kernel)
theorem dX12_segments_74 : decode cX12_segments 74 = .ok (.aload_n 0, 1) := dl_o42 kcX12_segments (by decide +kernel)
theorem dX12_segments_75 : decode cX12_segments 75 = .ok (.iload 4, 2) := dl_o21 kcX12_segments (by decide +kernel)
theorem dX12_segments_77 : decode cX12_segments 77 = .ok (.putfield 399, 3) := dl_o181 kcX12_segments (by decide +kernel)
theorem dX12_segments_80 : decode cX12_segments 80 = .ok (.iconst (-1), 1) := dl_o2 kcX12_segments (by decide +kernel)
theorem dX12_segments_81 : decode cX12_segments 81 = .ok (.istore 5, 2) := dl_o54 kcX12_segments (by decide +kernel)
theorem dX12_segments_83 : decode cX12_segments 83 = .ok (.iconst 0, 1) := dl_o3 kcX12_segments (by decide +kernel)
theorem dX12_segments_84 : decode cX12_segments 84 = .ok (.istore 6, 2) := dl_o54 kcX12_segments (by decide +kernel)
theorem dX12_segments_86 : decode cX12_segments 86 = .ok (.iload 6, 2) := dl_o21 kcX12_segments (by decide +kernel)
theorem dX12_segments_88 : decode cX12_segments 88 = .ok (.iload 4, 2) := dl_o21 kcX12_segments (by decide +kernel)
theorem dX12_segments_90 : decode cX12_segments 90 = .ok (.if_icmp .ge 93, 3) := dl_o162 kcX12_segments 93 (by decide +kernel) (by decide +kernel)
theorem dX12_segments_93 : decode cX12_segments 93 = .ok (.aload_n 0, 1) := dl_o42 kcX12_segments (by decide +kernel)
theorem dX12_segments_94 : decode cX12_segments 94 = .ok (.aload_n 0, 1) := dl_o42 kcX12_segments (by decide +kernel)
theorem dX12_segments_95 : decode cX12_segments 95 = .ok (.getfield 384, 3) := dl_o180 kcX12_segments (by decide +kernel)
theorem dX12_segments_98 : decode cX12_segments 98 = .ok (.bipush 14, 2) := dl_o16 kcX12_segments 14 (by decide +kernel) (by decide +kernel)
theorem dX12_segments_100 : decode cX12_segments 100 = .ok (.iadd, 1) := dl_o96 kcX12_segments (by decide +kernel)
theorem dX12_segments_101 : decode cX12_segments 101 = .ok (.iconst 2, 1) := dl_o5 kcX12_segments (by decide +kernel)
theorem dX12_segments_102 : decode cX12_segments 102 = .ok (.iload 6, 2) := dl_o21 kcX12_segments (by decide +kernel)
theorem dX12_segments_104 : decode cX12_segments 104 = .ok (.imul, 1) := dl_o104 kcX12_segments (by decide +kernel)
theorem dX12_segments_105 : decode cX12_segments 105 = .ok (.iadd, 1) := dl_o96 kcX12_segments (by decide +kernel)
theorem dX12_segments_106 : decode cX12_segments 106 = .ok (.invokevirtual 213, 3) := dl_o182 kcX12_segments (by decide +kernel)
theorem dX12_segments_109 : decode cX12_segments 109 = .ok (.istore 7, 2) := dl_o54 kcX12_segments (by decide +kernel)
theorem dX12_segments_111 : decode cX12_segments 111 = .ok (.iload 7, 2) := dl_o21 kcX12_segments (by decide +kernel)
theorem dX12_segments_113 : decode cX12_segments 113 = .ok (.iload 5, 2) := dl_o21 kcX12_segments (by decide +kernel)
theorem dX12_segments_115 : decode cX12_segments 115 = .ok (.if_icmp .le 56, 3) := dl_o164 kcX12_segments 56 (by decide +kernel) (by decide +kernel)
theorem dX12_segments_118 : decode cX12_segments 118 = .ok (.aload_n 0, 1) := dl_o42 kcX12_segments (by decide +kernel)
theorem dX12_segments_119 : decode cX12_segments 119 = .ok (.aload_n 0, 1) := dl_o42 kcX12_segments (by decide +kernel)
theorem dX12_segments_120 : decode cX12_segments 120 = .ok (.getfield 384, 3) := dl_o180 kcX12_segments (by decide +kernel)
theorem dX12_segments_123 : decode cX12_segments 123 = .ok (.bipush 16, 2) := dl_o16 kcX12_segments 16 (by decide +kernel) (by decide +kernel)
theorem dX12_segments_125 : decode cX12_segments 125 = .ok (.iadd, 1) := dl_o96 kcX12_segments (by decide +kernel)
theorem dX12_segments_126 : decode cX12_segments 126 = .ok (.iconst 2, 1) := dl_o5 kcX12_segments (by decide +kernel)
theorem dX12_segments_127 : decode cX12_segments 127 = .ok (.iload 4, 2) := dl_o21 kcX12_segments (by decide +kernel)
theorem dX12_segments_129 : decode cX12_segments 129 = .ok (.imul, 1) := dl_o104 kcX12_segments (by decide +kernel)
theorem dX12_segments_130 : decode cX12_segments 130 = .ok (.iadd, 1) := dl_o96 kcX12_segments (by decide +kernel)
theorem dX12_segments_131 : decode cX12_segments 131 = .ok (.iconst 2, 1) := dl_o5 kcX12_segments (by decide +kernel)
theorem dX12_segments_132 : decode cX12_segments 132 = .ok (.iload 6, 2) := dl_o21 kcX12_segments (by decide +kernel)
theorem dX12_segments_134 : decode cX12_segments 134 = .ok (.imul, 1) := dl_o104 kcX12_segments (by decide +kernel)
theorem dX12_segments_135 : decode cX12_segments 135 = .ok (.iadd, 1) := dl_o96 kcX12_segments (by decide +kernel)
theorem dX12_segments_136 : decode cX12_segments 136 = .ok (.invokevirtual 213, 3) := dl_o182 kcX12_segments (by decide +kernel)
theorem dX12_segments_139 : decode cX12_segments 139 = .ok (.iload 7, 2) := dl_o21 kcX12_segments (by decide +kernel)
theorem dX12_segments_141 : decode cX12_segments 141 = .ok (.if_icmp .gt 30, 3) := dl_o163 kcX12_segments 30 (by decide +kernel) (by decide +kernel)
theorem dX12_segments_144 : decode cX12_segments 144 = .ok (.aload_n 0, 1) := dl_o42 kcX12_segments (by decide +kernel)
theorem dX12_segments_145 : decode cX12_segments 145 = .ok (.aload_n 0, 1) := dl_o42 kcX12_segments (by decide +kernel)
theorem dX12_segments_146 : decode cX12_segments 146 = .ok (.getfield 384, 3) := dl_o180 kcX12_segments (by decide +kernel)
theorem dX12_segments_149 : decode cX12_segments 149 = .ok (.bipush 16, 2) := dl_o16 kcX12_segments 16 (by decide +kernel) (by decide +kernel)
theorem dX12_segments_151 : decode cX12_segments 151 = .ok (.iadd, 1) := dl_o96 kcX12_segments (by decide +kernel)
theorem dX12_segments_152 : decode cX12_segments 152 = .ok (.bipush 6, 2) := dl_o16 kcX12_segments 6 (by decide +kernel) (by decide +kernel)
theorem dX12_segments_154 : decode cX12_segments 154 = .ok (.iload 4, 2) := dl_o21 kcX12_segments (by decide +kernel)
theorem dX12_segments_156 : decode cX12_segments 156 = .ok (.imul, 1) := dl_o104 kcX12_segments (by decide +kernel)
theorem dX12_segments_157 : decode cX12_segments 157 = .ok (.iadd, 1) := dl_o96 kcX12_segments (by decide +kernel)
theorem dX12_segments_158 : decode cX12_segments 158 = .ok (.iconst 2, 1) := dl_o5 kcX12_segments (by decide +kernel)
theorem dX12_segments_159 : decode cX12_segments 159 = .ok (.iload 6, 2) := dl_o21 kcX12_segments (by decide +kernel)
theorem dX12_segments_161 : decode cX12_segments 161 = .ok (.imul, 1) := dl_o104 kcX12_segments (by decide +kernel)
theorem dX12_segments_162 : decode cX12_segments 162 = .ok (.iadd, 1) := dl_o96 kcX12_segments (by decide +kernel)
theorem dX12_segments_163 : decode cX12_segments 163 = .ok (.invokevirtual 213, 3) := dl_o182 kcX12_segments (by decide +kernel)
theorem dX12_segments_166 : decode cX12_segments 166 = .ok (.iconst 2, 1) := dl_o5 kcX12_segments (by decide +kernel)
theorem dX12_segments_167 : decode cX12_segments 167 = .ok (.irem, 1) := dl_o112 kcX12_segments (by decide +kernel)
theorem dX12_segments_168 : decode cX12_segments 168 = .ok (.ifCond .eq 5, 3) := dl_o153 kcX12_segments 5 (by decide +kernel) (by decide +kernel)
theorem dX12_segments_171 : decode cX12_segments 171 = .ok (.iconst 0, 1) := dl_o3 kcX12_segments (by decide +kernel)
theorem dX12_segments_172 : decode cX12_segments 172 = .ok (.ireturn, 1) := dl_o172 kcX12_segments (by decide +kernel)
theorem dX12_segments_173 : decode cX12_segments 173 = .ok (.iload 7, 2) := dl_o21 kcX12_segments (by decide +kernel)
theorem dX12_segments_175 : decode cX12_segments 175 = .ok (.istore 5, 2) := dl_o54 kcX12_segments (by decide +kernel)
theorem dX12_segments_177 : decode cX12_segments 177 = .ok (.iinc 6 1, 3) := by decide +kernel
theorem dX12_segments_180 : decode cX12_segments 180 = .ok (.goto (-94), 3) := dl_o167 kcX12_segments 65442 (by decide +kernel) (by decide +kernel)
theorem dX12_segments_183 : decode cX12_segments 183 = .ok (.iload 5, 2) := dl_o21 kcX12_segments (by decide +kernel)
theorem dX12_segments_185 : decode cX12_segments 185 = .ok (.ldc_w 404, 3) := dl_o19 kcX12_segments (by decide +kernel)
theorem dX12_segments_188 : decode cX12_segments 188 = .ok (.if_icmp .ne 7, 3) := dl_o160 kcX12_segments 7 (by decide +kernel) (by decide +kernel)
theorem dX12_segments_191 : decode cX12_segments 191 = .ok (.iconst 1, 1) := dl_o4 kcX12_segments (by decide +kernel)
theorem dX12_segments_192 : decode cX12_segments 192 = .ok (.goto 4, 3) := dl_o167 kcX12_segments 4 (by decide +kernel) (by decide +kernel)
theorem dX12_segments_195 : decode cX12_segments 195 = .ok (.iconst 0, 1) := dl_o3 kcX12_segments (by decide +kernel)
theorem dX12_segments_196 : decode cX12_segments 196 = .ok (.ireturn, 1) := dl_o172 kcX12_segments (by decide +kernel)
def B_X12_segments_86 (N : Nat) (k86 : Int32 → Int32 → Int32 → sv_V → Option (Int32 × sv_V)) (l4 : Int32) (l5 : Int32) (l6 : Int32) (V : sv_V) : Option (Int32 × sv_V) := if l4 ≤ l6 then (if l5 = (65535 : Int32) then (some ((1 : Int32), V)) else (some ((0 : Int32), V))) else ((F_X12_u2 (((V.1 146 21) + (14 : Int32)) + ((2 : Int32) * l6)) V).bind (fun (x5, V3) => if x5 ≤ l5 then (some ((0 : Int32), V3)) else ((F_X12_u2 ((((V3.1 146 21) + (16 : Int32)) + ((2 : Int32) * l4)) + ((2 : Int32) * l6)) V3).bind (fun (x9, V7) => if x5 < x9 then (some ((0 : Int32), V7)) else ((F_X12_u2 ((((V7.1 146 21) + (16 : Int32)) + ((6 : Int32) * l4)) + ((2 : Int32) * l6)) V7).bind (fun (x13, V11) => if (x13 - x13 / (2 : Int32) * (2 : Int32)) = 0 then (sx_let (l6 + 1) (fun x15 => k86 l4 x5 x15 V11)) else (some ((0 : Int32), V11))))))))
set_option maxRecDepth 20000 in
theorem tB_X12_segments_86 {g : sx_G} (hG : sx_Go g) {P : Option Value → sv_V → Prop} {r : Int32} {Vr : sv_V} (hP : P (some (.int r)) Vr) {N : Nat} {k86 : Int32 → Int32 → Int32 → sv_V → Option (Int32 × sv_V)} (hk86 : ∀ (l4 : Int32) (l5 : Int32) (l6 : Int32) (V : sv_V), k86 l4 l5 l6 V = some (r, Vr) → sv_N g qX12_segments 2 86 [(0, .ref 146), (4, .int l4), (5, .int l5), (6, .int l6)] [] V P) {l4 : Int32} {l5 : Int32} {l6 : Int32} {V : sv_V} (h : B_X12_segments_86 N k86 l4 l5 l6 V = some (r, Vr)) : sv_N g qX12_segments 2 86 [(0, .ref 146), (4, .int l4), (5, .int l5), (6, .int l6)] [] V P := by
  unfold B_X12_segments_86 at h
  refine sx_iload (pc := 86) dX12_segments_86 sx_m3 ?_
  refine sx_iload (pc := 88) dX12_segments_88 sx_m1 ?_
  refine sx_icmp_ge (pc := 90) (tgt := 183) dX12_segments_90 (by decide) (fun c1 => ?_) (fun c1 => ?_)
  · have h := sx_pos c1 h
    refine sx_iload (pc := 183) dX12_segments_183 sx_m2 ?_
    refine sx_ldcw (pc := 185) dX12_segments_185 k_X12_404 ?_
    refine sx_icmp_ne (pc := 188) (tgt := 195) dX12_segments_188 (by decide) (fun c2 => ?_) (fun c2 => ?_)
    · have h := sx_neg c2 h
      refine sx_iconst (pc := 195) (v := 0) dX12_segments_195 (by decide) ?_
      exact sv_zret (pc := 196) dX12_segments_196 rfl rfl h hP
    · have h := sx_pos c2 h
      refine sx_iconst (pc := 191) (v := 1) dX12_segments_191 (by decide) ?_
      refine sx_goto (pc := 192) (tgt := 196) dX12_segments_192 (by decide) ?_
      exact sv_zret (pc := 196) dX12_segments_196 rfl rfl h hP
  · have h := sx_neg c1 h
    refine sx_aload_n (pc := 93) dX12_segments_93 sx_m0 ?_
    refine sx_aload_n (pc := 94) dX12_segments_94 sx_m0 ?_
    refine sv_getI (pc := 95) hG dX12_segments_95 f_12_384 lay_146 rfl ?_
    refine sx_bipush (pc := 98) (v := 14) dX12_segments_98 (by decide) ?_
    refine sx_iadd (pc := 100) dX12_segments_100 ?_
    refine sx_iconst (pc := 101) (v := 2) dX12_segments_101 (by decide) ?_
    refine sx_iload (pc := 102) dX12_segments_102 sx_m3 ?_
    refine sx_imul (pc := 104) dX12_segments_104 ?_
    refine sx_iadd (pc := 105) dX12_segments_105 ?_
    obtain ⟨⟨x5, V3⟩, g4, h⟩ := sx_bnd h
    refine sv_cV (pc := 106) (y := qX12_u2) (o := (some (.int x5))) (as := [.int (((V.1 146 21) + (14 : Int32)) + ((2 : Int32) * l6))]) (V1 := V3) hG dX12_segments_106 l_X12_213 y0X12_u2 yvX12_u2 rfl (Nat.le_of_ble_eq_true rfl) lay_146 kr_12 (by decide) (Nat.le_of_ble_eq_true rfl) rfl rfl rfl (t_X12_u2 hG ⟨rfl, rfl⟩ g4) ?_
    refine sx_istore (pc := 109) (lo' := [(7, .int x5), (0, .ref 146), (4, .int l4), (5, .int l5), (6, .int l6)]) dX12_segments_109 (by decide) rfl ?_
    refine sx_iload (pc := 111) dX12_segments_111 sx_m0 ?_
    refine sx_iload (pc := 113) dX12_segments_113 sx_m3 ?_
    refine sx_icmp_le (pc := 115) (tgt := 171) dX12_segments_115 (by decide) (fun c6 => ?_) (fun c6 => ?_)
    · have h := sx_pos c6 h
      refine sx_iconst (pc := 171) (v := 0) dX12_segments_171 (by decide) ?_
      exact sv_zret (pc := 172) dX12_segments_172 rfl rfl h hP
    · have h := sx_neg c6 h
      refine sx_aload_n (pc := 118) dX12_segments_118 sx_m1 ?_
      refine sx_aload_n (pc := 119) dX12_segments_119 sx_m1 ?_
      refine sv_getI (pc := 120) hG dX12_segments_120 f_12_384 lay_146 rfl ?_
      refine sx_bipush (pc := 123) (v := 16) dX12_segments_123 (by decide) ?_
      refine sx_iadd (pc := 125) dX12_segments_125 ?_
      refine sx_iconst (pc := 126) (v := 2) dX12_segments_126 (by decide) ?_
      refine sx_iload (pc := 127) dX12_segments_127 sx_m2 ?_
      refine sx_imul (pc := 129) dX12_segments_129 ?_
      refine sx_iadd (pc := 130) dX12_segments_130 ?_
      refine sx_iconst (pc := 131) (v := 2) dX12_segments_131 (by decide) ?_
      refine sx_iload (pc := 132) dX12_segments_132 sx_m4 ?_
      refine sx_imul (pc := 134) dX12_segments_134 ?_
      refine sx_iadd (pc := 135) dX12_segments_135 ?_
      obtain ⟨⟨x9, V7⟩, g8, h⟩ := sx_bnd h
      refine sv_cV (pc := 136) (y := qX12_u2) (o := (some (.int x9))) (as := [.int ((((V3.1 146 21) + (16 : Int32)) + ((2 : Int32) * l4)) + ((2 : Int32) * l6))]) (V1 := V7) hG dX12_segments_136 l_X12_213 y0X12_u2 yvX12_u2 rfl (Nat.le_of_ble_eq_true rfl) lay_146 kr_12 (by decide) (Nat.le_of_ble_eq_true rfl) rfl rfl rfl (t_X12_u2 hG ⟨rfl, rfl⟩ g8) ?_
      refine sx_iload (pc := 139) dX12_segments_139 sx_m0 ?_
      refine sx_icmp_gt (pc := 141) (tgt := 171) dX12_segments_141 (by decide) (fun c10 => ?_) (fun c10 => ?_)
      · have h := sx_pos c10 h
        refine sx_iconst (pc := 171) (v := 0) dX12_segments_171 (by decide) ?_
        exact sv_zret (pc := 172) dX12_segments_172 rfl rfl h hP
      · have h := sx_neg c10 h
        refine sx_aload_n (pc := 144) dX12_segments_144 sx_m1 ?_
        refine sx_aload_n (pc := 145) dX12_segments_145 sx_m1 ?_
        refine sv_getI (pc := 146) hG dX12_segments_146 f_12_384 lay_146 rfl ?_
        refine sx_bipush (pc := 149) (v := 16) dX12_segments_149 (by decide) ?_
        refine sx_iadd (pc := 151) dX12_segments_151 ?_
        refine sx_bipush (pc := 152) (v := 6) dX12_segments_152 (by decide) ?_
        refine sx_iload (pc := 154) dX12_segments_154 sx_m2 ?_
        refine sx_imul (pc := 156) dX12_segments_156 ?_
        refine sx_iadd (pc := 157) dX12_segments_157 ?_
        refine sx_iconst (pc := 158) (v := 2) dX12_segments_158 (by decide) ?_
        refine sx_iload (pc := 159) dX12_segments_159 sx_m4 ?_
        refine sx_imul (pc := 161) dX12_segments_161 ?_
        refine sx_iadd (pc := 162) dX12_segments_162 ?_
        obtain ⟨⟨x13, V11⟩, g12, h⟩ := sx_bnd h
        refine sv_cV (pc := 163) (y := qX12_u2) (o := (some (.int x13))) (as := [.int ((((V7.1 146 21) + (16 : Int32)) + ((6 : Int32) * l4)) + ((2 : Int32) * l6))]) (V1 := V11) hG dX12_segments_163 l_X12_213 y0X12_u2 yvX12_u2 rfl (Nat.le_of_ble_eq_true rfl) lay_146 kr_12 (by decide) (Nat.le_of_ble_eq_true rfl) rfl rfl rfl (t_X12_u2 hG ⟨rfl, rfl⟩ g12) ?_
        refine sx_iconst (pc := 166) (v := 2) dX12_segments_166 (by decide) ?_
        refine sx_irem (pc := 167) dX12_segments_167 (by decide) ?_
        refine sx_if_eq (pc := 168) (tgt := 173) dX12_segments_168 (by decide) (fun c14 => ?_) (fun c14 => ?_)
        · have h := sx_pos c14 h
          refine sx_iload (pc := 173) dX12_segments_173 sx_m0 ?_
          refine sx_istore (pc := 175) (lo' := [(5, .int x5), (7, .int x5), (0, .ref 146), (4, .int l4), (6, .int l6)]) dX12_segments_175 (by decide) rfl ?_
          obtain ⟨x15, hx15⟩ : ∃ z : Int32, z = l6 + 1 := ⟨_, rfl⟩
          have h := sx_letE hx15 h
          refine sx_iinc (pc := 177) (v := x15) (lo' := [(6, .int x15), (5, .int x5), (7, .int x5), (0, .ref 146), (4, .int l4)]) dX12_segments_177 sx_m4 (by rw [hx15]; rfl) (by decide) rfl ?_
          refine sx_goto (pc := 180) (tgt := 86) dX12_segments_180 (by decide) ?_
          refine sx_wk (sx_s1 sx_m3 (sx_s1 sx_m4 (sx_s1 sx_m1 (sx_s1 sx_m0 sx_s0)))) ?_
          exact hk86 _ _ _ _ h
        · have h := sx_neg c14 h
          refine sx_iconst (pc := 171) (v := 0) dX12_segments_171 (by decide) ?_
          exact sv_zret (pc := 172) dX12_segments_172 rfl rfl h hP
theorem tL_X12_segments_86 {g : sx_G} (hG : sx_Go g) {P : Option Value → sv_V → Prop} {r : Int32} {Vr : sv_V} (hP : P (some (.int r)) Vr) {N : Nat}   : ∀ (n : Nat) (l4 : Int32) (l5 : Int32) (l6 : Int32) (V : sv_V), sx_lp4 (B_X12_segments_86 N ) n l4 l5 l6 V = some (r, Vr) → sv_N g qX12_segments 2 86 [(0, .ref 146), (4, .int l4), (5, .int l5), (6, .int l6)] [] V P :=
  sx_lp4_ind (fun k0 ih _ _ _ V h => tB_X12_segments_86 hG hP ih h)
def F_X12_segments (N : Nat) (l1 : Int32) (V : sv_V) : Option (Int32 × sv_V) := (F_X12_u2 ((V.1 146 21) + (2 : Int32)) V).bind (fun (x18, V16) => if l1 < x18 then (some ((0 : Int32), V16)) else (if (16 : Int32) ≤ x18 then ((F_X12_u2 ((V16.1 146 21) + (6 : Int32)) V16).bind (fun (x23, V21) => sx_let (x23 / (2 : Int32)) (fun x24 => if (x23 - x23 / (2 : Int32) * (2 : Int32)) = 0 then ((F_X12_in x24.toInt64 (1 : Int64) (40 : Int64) V21).bind (fun (x28, V26) => if x28 = 0 then (some ((0 : Int32), V26)) else (if ((16 : Int32) + ((8 : Int32) * x24)) ≤ x18 then (sx_let (sv_I V26 146 23 x24) (fun V31 => sx_lp4 (B_X12_segments_86 N ) N x24 (-1 : Int32) (0 : Int32) V31)) else (some ((0 : Int32), V26))))) else (some ((0 : Int32), V21))))) else (some ((0 : Int32), V16))))
set_option maxRecDepth 20000 in
theorem t_X12_segments {g : sx_G} (hG : sx_Go g) {P : Option Value → sv_V → Prop} {r : Int32} {Vr : sv_V} (hP : P (some (.int r)) Vr) {N : Nat} {l1 : Int32} {V : sv_V} (h : F_X12_segments N l1 V = some (r, Vr)) : sv_N g qX12_segments 2 0 [(0, .ref 146), (1, .int l1)] [] V P := by
  unfold F_X12_segments at h
  refine sx_aload_n (pc := 0) dX12_segments_0 sx_m0 ?_
  refine sx_aload_n (pc := 1) dX12_segments_1 sx_m0 ?_
  refine sv_getI (pc := 2) hG dX12_segments_2 f_12_384 lay_146 rfl ?_
  refine sx_iconst (pc := 5) (v := 2) dX12_segments_5 (by decide) ?_
  refine sx_iadd (pc := 6) dX12_segments_6 ?_
  obtain ⟨⟨x18, V16⟩, g17, h⟩ := sx_bnd h
  refine sv_cV (pc := 7) (y := qX12_u2) (o := (some (.int x18))) (as := [.int ((V.1 146 21) + (2 : Int32))]) (V1 := V16) hG dX12_segments_7 l_X12_213 y0X12_u2 yvX12_u2 rfl (Nat.le_of_ble_eq_true rfl) lay_146 kr_12 (by decide) (Nat.le_of_ble_eq_true rfl) rfl rfl rfl (t_X12_u2 hG ⟨rfl, rfl⟩ g17) ?_
  refine sx_istore_n (pc := 10) (lo' := [(2, .int x18), (0, .ref 146), (1, .int l1)]) dX12_segments_10 (by decide) rfl ?_
  refine sx_iload_n (pc := 11) dX12_segments_11 sx_m0 ?_
  refine sx_iload_n (pc := 12) dX12_segments_12 sx_m2 ?_
  refine sx_icmp_gt (pc := 13) (tgt := 22) dX12_segments_13 (by decide) (fun c19 => ?_) (fun c19 => ?_)
  · have h := sx_pos c19 h
    refine sx_iconst (pc := 22) (v := 0) dX12_segments_22 (by decide) ?_
    exact sv_zret (pc := 23) dX12_segments_23 rfl rfl h hP
  · have h := sx_neg c19 h
    refine sx_iload_n (pc := 16) dX12_segments_16 sx_m0 ?_
    refine sx_bipush (pc := 17) (v := 16) dX12_segments_17 (by decide) ?_
    refine sx_icmp_ge (pc := 19) (tgt := 24) dX12_segments_19 (by decide) (fun c20 => ?_) (fun c20 => ?_)
    · have h := sx_pos c20 h
      refine sx_aload_n (pc := 24) dX12_segments_24 sx_m1 ?_
      refine sx_aload_n (pc := 25) dX12_segments_25 sx_m1 ?_
      refine sv_getI (pc := 26) hG dX12_segments_26 f_12_384 lay_146 rfl ?_
      refine sx_bipush (pc := 29) (v := 6) dX12_segments_29 (by decide) ?_
      refine sx_iadd (pc := 31) dX12_segments_31 ?_
      obtain ⟨⟨x23, V21⟩, g22, h⟩ := sx_bnd h
      refine sv_cV (pc := 32) (y := qX12_u2) (o := (some (.int x23))) (as := [.int ((V16.1 146 21) + (6 : Int32))]) (V1 := V21) hG dX12_segments_32 l_X12_213 y0X12_u2 yvX12_u2 rfl (Nat.le_of_ble_eq_true rfl) lay_146 kr_12 (by decide) (Nat.le_of_ble_eq_true rfl) rfl rfl rfl (t_X12_u2 hG ⟨rfl, rfl⟩ g22) ?_
      refine sx_istore_n (pc := 35) (lo' := [(3, .int x23), (2, .int x18), (0, .ref 146), (1, .int l1)]) dX12_segments_35 (by decide) rfl ?_
      refine sx_iload_n (pc := 36) dX12_segments_36 sx_m0 ?_
      refine sx_iconst (pc := 37) (v := 2) dX12_segments_37 (by decide) ?_
      refine sx_idiv (pc := 38) dX12_segments_38 (by decide) ?_
      refine sv_tI (fun x24 hx24 => ?_)
      have h := sx_letE hx24 h
      refine sx_istore (pc := 39) (lo' := [(4, .int x24), (3, .int x23), (2, .int x18), (0, .ref 146), (1, .int l1)]) dX12_segments_39 (by decide) rfl ?_
      refine sx_iload_n (pc := 41) dX12_segments_41 sx_m1 ?_
      refine sx_iconst (pc := 42) (v := 2) dX12_segments_42 (by decide) ?_
      refine sx_irem (pc := 43) dX12_segments_43 (by decide) ?_
      refine sx_if_ne (pc := 44) (tgt := 72) dX12_segments_44 (by decide) (fun c25 => ?_) (fun c25 => ?_)
      · have h := sx_neg c25 h
        refine sx_iconst (pc := 72) (v := 0) dX12_segments_72 (by decide) ?_
        exact sv_zret (pc := 73) dX12_segments_73 rfl rfl h hP
      · have h := sx_pos c25 h
        refine sx_iload (pc := 47) dX12_segments_47 sx_m0 ?_
        refine sx_i2l (pc := 49) dX12_segments_49 ?_
        refine sx_lconst (pc := 50) (v := 1) dX12_segments_50 rfl ?_
        refine sx_ldc2 (pc := 51) dX12_segments_51 k_X12_402 ?_
        obtain ⟨⟨x28, V26⟩, g27, h⟩ := sx_bnd h
        refine sv_cS (pc := 54) (y := qX12_in) (o := (some (.int x28))) (as := [.long x24.toInt64, .long (1 : Int64), .long (40 : Int64)]) (V1 := V26) dX12_segments_54 l_X12_263 y0X12_in ysX12_in rfl (Nat.le_of_ble_eq_true rfl) (by decide) (Nat.le_of_ble_eq_true rfl) rfl rfl rfl (t_X12_in hG ⟨rfl, rfl⟩ g27) ?_
        refine sx_if_eq (pc := 57) (tgt := 72) dX12_segments_57 (by decide) (fun c29 => ?_) (fun c29 => ?_)
        · have h := sx_pos c29 h
          refine sx_iconst (pc := 72) (v := 0) dX12_segments_72 (by decide) ?_
          exact sv_zret (pc := 73) dX12_segments_73 rfl rfl h hP
        · have h := sx_neg c29 h
          refine sx_bipush (pc := 60) (v := 16) dX12_segments_60 (by decide) ?_
          refine sx_bipush (pc := 62) (v := 8) dX12_segments_62 (by decide) ?_
          refine sx_iload (pc := 64) dX12_segments_64 sx_m0 ?_
          refine sx_imul (pc := 66) dX12_segments_66 ?_
          refine sx_iadd (pc := 67) dX12_segments_67 ?_
          refine sx_iload_n (pc := 68) dX12_segments_68 sx_m2 ?_
          refine sx_icmp_le (pc := 69) (tgt := 74) dX12_segments_69 (by decide) (fun c30 => ?_) (fun c30 => ?_)
          · have h := sx_pos c30 h
            refine sx_aload_n (pc := 74) dX12_segments_74 sx_m3 ?_
            refine sx_iload (pc := 75) dX12_segments_75 sx_m0 ?_
            obtain ⟨V31, hV31⟩ : ∃ z : sv_V, z = sv_I V26 146 23 x24 := ⟨_, rfl⟩
            have h := sx_letE hV31 h
            refine sv_putI (pc := 77) hG dX12_segments_77 f_12_399 lay_146 rfl hV31 ?_
            refine sx_iconst (pc := 80) (v := (-1)) dX12_segments_80 (by decide) ?_
            refine sx_istore (pc := 81) (lo' := [(5, .int (-1 : Int32)), (4, .int x24), (3, .int x23), (2, .int x18), (0, .ref 146), (1, .int l1)]) dX12_segments_81 (by decide) rfl ?_
            refine sx_iconst (pc := 83) (v := 0) dX12_segments_83 (by decide) ?_
            refine sx_istore (pc := 84) (lo' := [(6, .int (0 : Int32)), (5, .int (-1 : Int32)), (4, .int x24), (3, .int x23), (2, .int x18), (0, .ref 146), (1, .int l1)]) dX12_segments_84 (by decide) rfl ?_
            refine sx_wk (sx_s1 sx_m5 (sx_s1 sx_m2 (sx_s1 sx_m1 (sx_s1 sx_m0 sx_s0)))) ?_
            exact tL_X12_segments_86 hG hP  N _ _ _ _ h
          · have h := sx_neg c30 h
            refine sx_iconst (pc := 72) (v := 0) dX12_segments_72 (by decide) ?_
            exact sv_zret (pc := 73) dX12_segments_73 rfl rfl h hP
    · have h := sx_neg c20 h
      refine sx_iconst (pc := 22) (v := 0) dX12_segments_22 (by decide) ?_
      exact sv_zret (pc := 23) dX12_segments_23 rfl rfl h hP
def ncX12_groups : Nat := 916661877668771855064308618447090737776388786033369285619004446587346167515402179289495949825858332357807779039100278824716628028995547816906472123876034794837351544071409651523020548587324409157679931495096916025230172170748186017084908624179397250612162207037234752808993229921601950403705509508758080345128805217782916399449062625398073820513587516094589030912084192657140228690396844059
theorem kcX12_groups : CK cX12_groups ncX12_groups 162 := ⟨by decide +kernel, by decide +kernel⟩
theorem dX12_groups_0 : decode cX12_groups 0 = .ok (.iload_n 1, 1) := dl_o27 kcX12_groups (by decide +kernel)
theorem dX12_groups_1 : decode cX12_groups 1 = .ok (.bipush 16, 2) := dl_o16 kcX12_groups 16 (by decide +kernel) (by decide +kernel)
theorem dX12_groups_3 : decode cX12_groups 3 = .ok (.if_icmp .ge 5, 3) := dl_o162 kcX12_groups 5 (by decide +kernel) (by decide +kernel)
theorem dX12_groups_6 : decode cX12_groups 6 = .ok (.iconst 0, 1) := dl_o3 kcX12_groups (by decide +kernel)
theorem dX12_groups_7 : decode cX12_groups 7 = .ok (.ireturn, 1) := dl_o172 kcX12_groups (by decide +kernel)
theorem dX12_groups_8 : decode cX12_groups 8 = .ok (.aload_n 0, 1) := dl_o42 kcX12_groups (by decide +kernel)
theorem dX12_groups_9 : decode cX12_groups 9 = .ok (.aload_n 0, 1) := dl_o42 kcX12_groups (by decide +kernel)
theorem dX12_groups_10 : decode cX12_groups 10 = .ok (.getfield 384, 3) := dl_o180 kcX12_groups (by decide +kernel)
theorem dX12_groups_13 : decode cX12_groups 13 = .ok (.iconst 4, 1) := dl_o7 kcX12_groups (by decide +kernel)
theorem dX12_groups_14 : decode cX12_groups 14 = .ok (.iadd, 1) := dl_o96 kcX12_groups (by decide +kernel)
theorem dX12_groups_15 : decode cX12_groups 15 = .ok (.invokevirtual 297, 3) := dl_o182 kcX12_groups (by decide +kernel)
theorem dX12_groups_18 : decode cX12_groups 18 = .ok (.lstore_n 2, 1) := dl_o65 kcX12_groups (by decide +kernel)
theorem dX12_groups_19 : decode cX12_groups 19 = .ok (.aload_n 0, 1) := dl_o42 kcX12_groups (by decide +kernel)
theorem dX12_groups_20 : decode cX12_groups 20 = .ok (.aload_n 0, 1) := dl_o42 kcX12_groups (by decide +kernel)
theorem dX12_groups_21 : decode cX12_groups 21 = .ok (.getfield 384, 3) := dl_o180 kcX12_groups (by decide +kernel)
theorem dX12_groups_24 : decode cX12_groups 24 = .ok (.bipush 12, 2) := dl_o16 kcX12_groups 12 (by decide +kernel) (by decide +kernel)
theorem dX12_groups_26 : decode cX12_groups 26 = .ok (.iadd, 1) := dl_o96 kcX12_groups (by decide +kernel)
theorem dX12_groups_27 : decode cX12_groups 27 = .ok (.invokevirtual 297, 3) := dl_o182 kcX12_groups (by decide +kernel)
theorem dX12_groups_30 : decode cX12_groups 30 = .ok (.lstore 4, 2) := dl_o55 kcX12_groups (by decide +kernel)
theorem dX12_groups_32 : decode cX12_groups 32 = .ok (.lload_n 2, 1) := dl_o32 kcX12_groups (by decide +kernel)
theorem dX12_groups_33 : decode cX12_groups 33 = .ok (.iload_n 1, 1) := dl_o27 kcX12_groups (by decide +kernel)
theorem dX12_groups_34 : decode cX12_groups 34 = .ok (.i2l, 1) := dl_o133 kcX12_groups (by decide +kernel)
theorem dX12_groups_35 : decode cX12_groups 35 = .ok (.lcmp, 1) := dl_o148 kcX12_groups (by decide +kernel)
theorem dX12_groups_36 : decode cX12_groups 36 = .ok (.ifCond .gt 30, 3) := dl_o157 kcX12_groups 30 (by decide +kernel) (by decide +kernel)
theorem dX12_groups_39 : decode cX12_groups 39 = .ok (.lload 4, 2) := dl_o22 kcX12_groups (by decide +kernel)
theorem dX12_groups_41 : decode cX12_groups 41 = .ok (.lconst 1, 1) := dl_o10 kcX12_groups (by decide +kernel)
theorem dX12_groups_42 : decode cX12_groups 42 = .ok (.ldc2_w 402, 3) := dl_o20 kcX12_groups (by decide +kernel)
theorem dX12_groups_45 : decode cX12_groups 45 = .ok (.invokestatic 263, 3) := dl_o184 kcX12_groups (by decide +kernel)
theorem dX12_groups_48 : decode cX12_groups 48 = .ok (.ifCond .eq 18, 3) := dl_o153 kcX12_groups 18 (by decide +kernel) (by decide +kernel)
theorem dX12_groups_51 : decode cX12_groups 51 = .ok (.ldc2_w 232, 3) := dl_o20 kcX12_groups (by decide +kernel)
theorem dX12_groups_54 : decode cX12_groups 54 = .ok (.ldc2_w 230, 3) := dl_o20 kcX12_groups (by decide +kernel)
theorem dX12_groups_57 : decode cX12_groups 57 = .ok (.lload 4, 2) := dl_o22 kcX12_groups (by decide +kernel)
theorem dX12_groups_59 : decode cX12_groups 59 = .ok (.lmul, 1) := dl_o105 kcX12_groups (by decide +kernel)
theorem dX12_groups_60 : decode cX12_groups 60 = .ok (.ladd, 1) := dl_o97 kcX12_groups (by decide +kernel)
theorem dX12_groups_61 : decode cX12_groups 61 = .ok (.lload_n 2, 1) := dl_o32 kcX12_groups (by decide +kernel)
theorem dX12_groups_62 : decode cX12_groups 62 = .ok (.lcmp, 1) := dl_o148 kcX12_groups (by decide +kernel)
theorem dX12_groups_63 : decode cX12_groups 63 = .ok (.ifCond .le 5, 3) := dl_o158 kcX12_groups 5 (by decide +kernel) (by decide +kernel)
theorem dX12_groups_66 : decode cX12_groups 66 = .ok (.iconst 0, 1) := dl_o3 kcX12_groups (by decide +kernel)
theorem dX12_groups_67 : decode cX12_groups 67 = .ok (.ireturn, 1) := dl_o172 kcX12_groups (by decide +kernel)
theorem dX12_groups_68 : decode cX12_groups 68 = .ok (.aload_n 0, 1) := dl_o42 kcX12_groups (by decide +kernel)
theorem dX12_groups_69 : decode cX12_groups 69 = .ok (.lload 4, 2) := dl_o22 kcX12_groups (by decide +kernel)
theorem dX12_groups_71 : decode cX12_groups 71 = .ok (.l2i, 1) := dl_o136 kcX12_groups (by decide +kernel)
theorem dX12_groups_72 : decode cX12_groups 72 = .ok (.putfield 399, 3) := dl_o181 kcX12_groups (by decide +kernel)
theorem dX12_groups_75 : decode cX12_groups 75 = .ok (.iconst 0, 1) := dl_o3 kcX12_groups (by decide +kernel)
theorem dX12_groups_76 : decode cX12_groups 76 = .ok (.istore 6, 2) := dl_o54 kcX12_groups (by decide +kernel)
theorem dX12_groups_78 : decode cX12_groups 78 = .ok (.iload 6, 2) := dl_o21 kcX12_groups (by decide +kernel)
theorem dX12_groups_80 : decode cX12_groups 80 = .ok (.aload_n 0, 1) := dl_o42 kcX12_groups (by decide +kernel)
theorem dX12_groups_81 : decode cX12_groups 81 = .ok (.getfield 399, 3) := dl_o180 kcX12_groups (by decide +kernel)
theorem dX12_groups_84 : decode cX12_groups 84 = .ok (.if_icmp .ge 76, 3) := dl_o162 kcX12_groups 76 (by decide +kernel) (by decide +kernel)
theorem dX12_groups_87 : decode cX12_groups 87 = .ok (.aload_n 0, 1) := dl_o42 kcX12_groups (by decide +kernel)
theorem dX12_groups_88 : decode cX12_groups 88 = .ok (.getfield 384, 3) := dl_o180 kcX12_groups (by decide +kernel)
theorem dX12_groups_91 : decode cX12_groups 91 = .ok (.bipush 16, 2) := dl_o16 kcX12_groups 16 (by decide +kernel) (by decide +kernel)
theorem dX12_groups_93 : decode cX12_groups 93 = .ok (.iadd, 1) := dl_o96 kcX12_groups (by decide +kernel)
theorem dX12_groups_94 : decode cX12_groups 94 = .ok (.bipush 12, 2) := dl_o16 kcX12_groups 12 (by decide +kernel) (by decide +kernel)
theorem dX12_groups_96 : decode cX12_groups 96 = .ok (.iload 6, 2) := dl_o21 kcX12_groups (by decide +kernel)
theorem dX12_groups_98 : decode cX12_groups 98 = .ok (.imul, 1) := dl_o104 kcX12_groups (by decide +kernel)
theorem dX12_groups_99 : decode cX12_groups 99 = .ok (.iadd, 1) := dl_o96 kcX12_groups (by decide +kernel)
theorem dX12_groups_100 : decode cX12_groups 100 = .ok (.istore 7, 2) := dl_o54 kcX12_groups (by decide +kernel)
theorem dX12_groups_102 : decode cX12_groups 102 = .ok (.aload_n 0, 1) := dl_o42 kcX12_groups (by decide +kernel)
theorem dX12_groups_103 : decode cX12_groups 103 = .ok (.iload 7, 2) := dl_o21 kcX12_groups (by decide +kernel)
theorem dX12_groups_105 : decode cX12_groups 105 = .ok (.invokevirtual 297, 3) := dl_o182 kcX12_groups (by decide +kernel)
theorem dX12_groups_108 : decode cX12_groups 108 = .ok (.aload_n 0, 1) := dl_o42 kcX12_groups (by decide +kernel)
theorem dX12_groups_109 : decode cX12_groups 109 = .ok (.iload 7, 2) := dl_o21 kcX12_groups (by decide +kernel)
theorem dX12_groups_111 : decode cX12_groups 111 = .ok (.iconst 4, 1) := dl_o7 kcX12_groups (by decide +kernel)
theorem dX12_groups_112 : decode cX12_groups 112 = .ok (.iadd, 1) := dl_o96 kcX12_groups (by decide +kernel)
theorem dX12_groups_113 : decode cX12_groups 113 = .ok (.invokevirtual 297, 3) := dl_o182 kcX12_groups (by decide +kernel)
theorem dX12_groups_116 : decode cX12_groups 116 = .ok (.lcmp, 1) := dl_o148 kcX12_groups (by decide +kernel)
theorem dX12_groups_117 : decode cX12_groups 117 = .ok (.ifCond .gt 35, 3) := dl_o157 kcX12_groups 35 (by decide +kernel) (by decide +kernel)
theorem dX12_groups_120 : decode cX12_groups 120 = .ok (.iload 6, 2) := dl_o21 kcX12_groups (by decide +kernel)
theorem dX12_groups_122 : decode cX12_groups 122 = .ok (.iconst 1, 1) := dl_o4 kcX12_groups (by decide +kernel)
theorem dX12_groups_123 : decode cX12_groups 123 = .ok (.iadd, 1) := dl_o96 kcX12_groups (by decide +kernel)
theorem dX12_groups_124 : decode cX12_groups 124 = .ok (.aload_n 0, 1) := dl_o42 kcX12_groups (by decide +kernel)
theorem dX12_groups_125 : decode cX12_groups 125 = .ok (.getfield 399, 3) := dl_o180 kcX12_groups (by decide +kernel)
theorem dX12_groups_128 : decode cX12_groups 128 = .ok (.if_icmp .ge 26, 3) := dl_o162 kcX12_groups 26 (by decide +kernel) (by decide +kernel)
theorem dX12_groups_131 : decode cX12_groups 131 = .ok (.aload_n 0, 1) := dl_o42 kcX12_groups (by decide +kernel)
theorem dX12_groups_132 : decode cX12_groups 132 = .ok (.iload 7, 2) := dl_o21 kcX12_groups (by decide +kernel)
theorem dX12_groups_134 : decode cX12_groups 134 = .ok (.iconst 4, 1) := dl_o7 kcX12_groups (by decide +kernel)
theorem dX12_groups_135 : decode cX12_groups 135 = .ok (.iadd, 1) := dl_o96 kcX12_groups (by decide +kernel)
theorem dX12_groups_136 : decode cX12_groups 136 = .ok (.invokevirtual 297, 3) := dl_o182 kcX12_groups (by decide +kernel)
theorem dX12_groups_139 : decode cX12_groups 139 = .ok (.aload_n 0, 1) := dl_o42 kcX12_groups (by decide +kernel)
theorem dX12_groups_140 : decode cX12_groups 140 = .ok (.iload 7, 2) := dl_o21 kcX12_groups (by decide +kernel)
theorem dX12_groups_142 : decode cX12_groups 142 = .ok (.bipush 12, 2) := dl_o16 kcX12_groups 12 (by decide +kernel) (by decide +kernel)
theorem dX12_groups_144 : decode cX12_groups 144 = .ok (.iadd, 1) := dl_o96 kcX12_groups (by decide +kernel)
theorem dX12_groups_145 : decode cX12_groups 145 = .ok (.invokevirtual 297, 3) := dl_o182 kcX12_groups (by decide +kernel)
theorem dX12_groups_148 : decode cX12_groups 148 = .ok (.lcmp, 1) := dl_o148 kcX12_groups (by decide +kernel)
theorem dX12_groups_149 : decode cX12_groups 149 = .ok (.ifCond .lt 5, 3) := dl_o155 kcX12_groups 5 (by decide +kernel) (by decide +kernel)
theorem dX12_groups_152 : decode cX12_groups 152 = .ok (.iconst 0, 1) := dl_o3 kcX12_groups (by decide +kernel)
theorem dX12_groups_153 : decode cX12_groups 153 = .ok (.ireturn, 1) := dl_o172 kcX12_groups (by decide +kernel)
theorem dX12_groups_154 : decode cX12_groups 154 = .ok (.iinc 6 1, 3) := by decide +kernel
theorem dX12_groups_157 : decode cX12_groups 157 = .ok (.goto (-79), 3) := dl_o167 kcX12_groups 65457 (by decide +kernel) (by decide +kernel)
theorem dX12_groups_160 : decode cX12_groups 160 = .ok (.iconst 1, 1) := dl_o4 kcX12_groups (by decide +kernel)
theorem dX12_groups_161 : decode cX12_groups 161 = .ok (.ireturn, 1) := dl_o172 kcX12_groups (by decide +kernel)
def B_X12_groups_154 (N : Nat) (k78 : Int32 → sv_V → Option (Int32 × sv_V)) (l6 : Int32) (V : sv_V) : Option (Int32 × sv_V) := sx_let (l6 + 1) (fun x1 => k78 x1 V)
set_option maxRecDepth 20000 in
theorem tB_X12_groups_154 {g : sx_G} (hG : sx_Go g) {P : Option Value → sv_V → Prop} {r : Int32} {Vr : sv_V} (hP : P (some (.int r)) Vr) {N : Nat} {k78 : Int32 → sv_V → Option (Int32 × sv_V)} (hk78 : ∀ (l6 : Int32) (V : sv_V), k78 l6 V = some (r, Vr) → sv_N g qX12_groups 3 78 [(0, .ref 146), (6, .int l6)] [] V P) {l6 : Int32} {V : sv_V} (h : B_X12_groups_154 N k78 l6 V = some (r, Vr)) : sv_N g qX12_groups 3 154 [(0, .ref 146), (6, .int l6)] [] V P := by
  unfold B_X12_groups_154 at h
  obtain ⟨x1, hx1⟩ : ∃ z : Int32, z = l6 + 1 := ⟨_, rfl⟩
  have h := sx_letE hx1 h
  refine sx_iinc (pc := 154) (v := x1) (lo' := [(6, .int x1), (0, .ref 146)]) dX12_groups_154 sx_m1 (by rw [hx1]; rfl) (by decide) rfl ?_
  refine sx_goto (pc := 157) (tgt := 78) dX12_groups_157 (by decide) ?_
  refine sx_wk (sx_s1 sx_m1 (sx_s1 sx_m0 sx_s0)) ?_
  exact hk78 _ _ h
def B_X12_groups_78 (N : Nat) (k78 : Int32 → sv_V → Option (Int32 × sv_V)) (l6 : Int32) (V : sv_V) : Option (Int32 × sv_V) := if (V.1 146 23) ≤ l6 then (some ((1 : Int32), V)) else (sx_let (((V.1 146 21) + (16 : Int32)) + ((12 : Int32) * l6)) (fun x3 => (F_X12_u4 x3 V).bind (fun (x6, V4) => (F_X12_u4 (x3 + (4 : Int32)) V4).bind (fun (x9, V7) => if 0 < (lg_cmp x6 x9) then (some ((0 : Int32), V7)) else (if (V7.1 146 23) ≤ (l6 + (1 : Int32)) then (B_X12_groups_154 N k78 l6 V7) else ((F_X12_u4 (x3 + (4 : Int32)) V7).bind (fun (x14, V12) => (F_X12_u4 (x3 + (12 : Int32)) V12).bind (fun (x17, V15) => if (lg_cmp x14 x17) < 0 then (B_X12_groups_154 N k78 l6 V15) else (some ((0 : Int32), V15))))))))))
set_option maxRecDepth 20000 in
theorem tB_X12_groups_78 {g : sx_G} (hG : sx_Go g) {P : Option Value → sv_V → Prop} {r : Int32} {Vr : sv_V} (hP : P (some (.int r)) Vr) {N : Nat} {k78 : Int32 → sv_V → Option (Int32 × sv_V)} (hk78 : ∀ (l6 : Int32) (V : sv_V), k78 l6 V = some (r, Vr) → sv_N g qX12_groups 3 78 [(0, .ref 146), (6, .int l6)] [] V P) {l6 : Int32} {V : sv_V} (h : B_X12_groups_78 N k78 l6 V = some (r, Vr)) : sv_N g qX12_groups 3 78 [(0, .ref 146), (6, .int l6)] [] V P := by
  unfold B_X12_groups_78 at h
  refine sx_iload (pc := 78) dX12_groups_78 sx_m1 ?_
  refine sx_aload_n (pc := 80) dX12_groups_80 sx_m0 ?_
  refine sv_getI (pc := 81) hG dX12_groups_81 f_12_399 lay_146 rfl ?_
  refine sx_icmp_ge (pc := 84) (tgt := 160) dX12_groups_84 (by decide) (fun c2 => ?_) (fun c2 => ?_)
  · have h := sx_pos c2 h
    refine sx_iconst (pc := 160) (v := 1) dX12_groups_160 (by decide) ?_
    exact sv_zret (pc := 161) dX12_groups_161 rfl rfl h hP
  · have h := sx_neg c2 h
    refine sx_aload_n (pc := 87) dX12_groups_87 sx_m0 ?_
    refine sv_getI (pc := 88) hG dX12_groups_88 f_12_384 lay_146 rfl ?_
    refine sx_bipush (pc := 91) (v := 16) dX12_groups_91 (by decide) ?_
    refine sx_iadd (pc := 93) dX12_groups_93 ?_
    refine sx_bipush (pc := 94) (v := 12) dX12_groups_94 (by decide) ?_
    refine sx_iload (pc := 96) dX12_groups_96 sx_m1 ?_
    refine sx_imul (pc := 98) dX12_groups_98 ?_
    refine sx_iadd (pc := 99) dX12_groups_99 ?_
    refine sv_tI (fun x3 hx3 => ?_)
    have h := sx_letE hx3 h
    refine sx_istore (pc := 100) (lo' := [(7, .int x3), (0, .ref 146), (6, .int l6)]) dX12_groups_100 (by decide) rfl ?_
    refine sx_aload_n (pc := 102) dX12_groups_102 sx_m1 ?_
    refine sx_iload (pc := 103) dX12_groups_103 sx_m0 ?_
    obtain ⟨⟨x6, V4⟩, g5, h⟩ := sx_bnd h
    refine sv_cV (pc := 105) (y := qX12_u4) (o := (some (.long x6))) (as := [.int x3]) (V1 := V4) hG dX12_groups_105 l_X12_297 y0X12_u4 yvX12_u4 rfl (Nat.le_of_ble_eq_true rfl) lay_146 kr_12 (by decide) (Nat.le_of_ble_eq_true rfl) rfl rfl rfl (t_X12_u4 hG ⟨rfl, rfl⟩ g5) ?_
    refine sx_aload_n (pc := 108) dX12_groups_108 sx_m1 ?_
    refine sx_iload (pc := 109) dX12_groups_109 sx_m0 ?_
    refine sx_iconst (pc := 111) (v := 4) dX12_groups_111 (by decide) ?_
    refine sx_iadd (pc := 112) dX12_groups_112 ?_
    obtain ⟨⟨x9, V7⟩, g8, h⟩ := sx_bnd h
    refine sv_cV (pc := 113) (y := qX12_u4) (o := (some (.long x9))) (as := [.int (x3 + (4 : Int32))]) (V1 := V7) hG dX12_groups_113 l_X12_297 y0X12_u4 yvX12_u4 rfl (Nat.le_of_ble_eq_true rfl) lay_146 kr_12 (by decide) (Nat.le_of_ble_eq_true rfl) rfl rfl rfl (t_X12_u4 hG ⟨rfl, rfl⟩ g8) ?_
    refine sx_lcmp (pc := 116) dX12_groups_116 ?_
    refine sx_if_gt (pc := 117) (tgt := 152) dX12_groups_117 (by decide) (fun c10 => ?_) (fun c10 => ?_)
    · have h := sx_pos c10 h
      refine sx_iconst (pc := 152) (v := 0) dX12_groups_152 (by decide) ?_
      exact sv_zret (pc := 153) dX12_groups_153 rfl rfl h hP
    · have h := sx_neg c10 h
      refine sx_iload (pc := 120) dX12_groups_120 sx_m2 ?_
      refine sx_iconst (pc := 122) (v := 1) dX12_groups_122 (by decide) ?_
      refine sx_iadd (pc := 123) dX12_groups_123 ?_
      refine sx_aload_n (pc := 124) dX12_groups_124 sx_m1 ?_
      refine sv_getI (pc := 125) hG dX12_groups_125 f_12_399 lay_146 rfl ?_
      refine sx_icmp_ge (pc := 128) (tgt := 154) dX12_groups_128 (by decide) (fun c11 => ?_) (fun c11 => ?_)
      · have h := sx_pos c11 h
        refine sx_wk (sx_s1 sx_m1 (sx_s1 sx_m2 sx_s0)) ?_
        exact tB_X12_groups_154 hG hP hk78 h
      · have h := sx_neg c11 h
        refine sx_aload_n (pc := 131) dX12_groups_131 sx_m1 ?_
        refine sx_iload (pc := 132) dX12_groups_132 sx_m0 ?_
        refine sx_iconst (pc := 134) (v := 4) dX12_groups_134 (by decide) ?_
        refine sx_iadd (pc := 135) dX12_groups_135 ?_
        obtain ⟨⟨x14, V12⟩, g13, h⟩ := sx_bnd h
        refine sv_cV (pc := 136) (y := qX12_u4) (o := (some (.long x14))) (as := [.int (x3 + (4 : Int32))]) (V1 := V12) hG dX12_groups_136 l_X12_297 y0X12_u4 yvX12_u4 rfl (Nat.le_of_ble_eq_true rfl) lay_146 kr_12 (by decide) (Nat.le_of_ble_eq_true rfl) rfl rfl rfl (t_X12_u4 hG ⟨rfl, rfl⟩ g13) ?_
        refine sx_aload_n (pc := 139) dX12_groups_139 sx_m1 ?_
        refine sx_iload (pc := 140) dX12_groups_140 sx_m0 ?_
        refine sx_bipush (pc := 142) (v := 12) dX12_groups_142 (by decide) ?_
        refine sx_iadd (pc := 144) dX12_groups_144 ?_
        obtain ⟨⟨x17, V15⟩, g16, h⟩ := sx_bnd h
        refine sv_cV (pc := 145) (y := qX12_u4) (o := (some (.long x17))) (as := [.int (x3 + (12 : Int32))]) (V1 := V15) hG dX12_groups_145 l_X12_297 y0X12_u4 yvX12_u4 rfl (Nat.le_of_ble_eq_true rfl) lay_146 kr_12 (by decide) (Nat.le_of_ble_eq_true rfl) rfl rfl rfl (t_X12_u4 hG ⟨rfl, rfl⟩ g16) ?_
        refine sx_lcmp (pc := 148) dX12_groups_148 ?_
        refine sx_if_lt (pc := 149) (tgt := 154) dX12_groups_149 (by decide) (fun c18 => ?_) (fun c18 => ?_)
        · have h := sx_pos c18 h
          refine sx_wk (sx_s1 sx_m1 (sx_s1 sx_m2 sx_s0)) ?_
          exact tB_X12_groups_154 hG hP hk78 h
        · have h := sx_neg c18 h
          refine sx_iconst (pc := 152) (v := 0) dX12_groups_152 (by decide) ?_
          exact sv_zret (pc := 153) dX12_groups_153 rfl rfl h hP
theorem tL_X12_groups_78 {g : sx_G} (hG : sx_Go g) {P : Option Value → sv_V → Prop} {r : Int32} {Vr : sv_V} (hP : P (some (.int r)) Vr) {N : Nat}   : ∀ (n : Nat) (l6 : Int32) (V : sv_V), sx_lp2 (B_X12_groups_78 N ) n l6 V = some (r, Vr) → sv_N g qX12_groups 3 78 [(0, .ref 146), (6, .int l6)] [] V P :=
  sx_lp2_ind (fun k0 ih _ V h => tB_X12_groups_78 hG hP ih h)
def F_X12_groups (N : Nat) (l1 : Int32) (V : sv_V) : Option (Int32 × sv_V) := if (16 : Int32) ≤ l1 then ((F_X12_u4 ((V.1 146 21) + (4 : Int32)) V).bind (fun (x22, V20) => (F_X12_u4 ((V20.1 146 21) + (12 : Int32)) V20).bind (fun (x25, V23) => if 0 < (lg_cmp x22 l1.toInt64) then (some ((0 : Int32), V23)) else ((F_X12_in x25 (1 : Int64) (40 : Int64) V23).bind (fun (x29, V27) => if x29 = 0 then (some ((0 : Int32), V27)) else (if (lg_cmp ((16 : Int64) + ((12 : Int64) * x25)) x22) ≤ 0 then (sx_let (sv_I V27 146 23 x25.toInt32) (fun V32 => sx_lp2 (B_X12_groups_78 N ) N (0 : Int32) V32)) else (some ((0 : Int32), V27)))))))) else (some ((0 : Int32), V))
set_option maxRecDepth 20000 in
theorem t_X12_groups {g : sx_G} (hG : sx_Go g) {P : Option Value → sv_V → Prop} {r : Int32} {Vr : sv_V} (hP : P (some (.int r)) Vr) {N : Nat} {l1 : Int32} {V : sv_V} (h : F_X12_groups N l1 V = some (r, Vr)) : sv_N g qX12_groups 3 0 [(0, .ref 146), (1, .int l1)] [] V P := by
  unfold F_X12_groups at h
  refine sx_iload_n (pc := 0) dX12_groups_0 sx_m1 ?_
  refine sx_bipush (pc := 1) (v := 16) dX12_groups_1 (by decide) ?_
  refine sx_icmp_ge (pc := 3) (tgt := 8) dX12_groups_3 (by decide) (fun c19 => ?_) (fun c19 => ?_)
  · have h := sx_pos c19 h
    refine sx_aload_n (pc := 8) dX12_groups_8 sx_m0 ?_
    refine sx_aload_n (pc := 9) dX12_groups_9 sx_m0 ?_
    refine sv_getI (pc := 10) hG dX12_groups_10 f_12_384 lay_146 rfl ?_
    refine sx_iconst (pc := 13) (v := 4) dX12_groups_13 (by decide) ?_
    refine sx_iadd (pc := 14) dX12_groups_14 ?_
    obtain ⟨⟨x22, V20⟩, g21, h⟩ := sx_bnd h
    refine sv_cV (pc := 15) (y := qX12_u4) (o := (some (.long x22))) (as := [.int ((V.1 146 21) + (4 : Int32))]) (V1 := V20) hG dX12_groups_15 l_X12_297 y0X12_u4 yvX12_u4 rfl (Nat.le_of_ble_eq_true rfl) lay_146 kr_12 (by decide) (Nat.le_of_ble_eq_true rfl) rfl rfl rfl (t_X12_u4 hG ⟨rfl, rfl⟩ g21) ?_
    refine sx_lstore_n (pc := 18) (lo' := [(2, .long x22), (0, .ref 146), (1, .int l1)]) dX12_groups_18 (by decide) rfl ?_
    refine sx_aload_n (pc := 19) dX12_groups_19 sx_m1 ?_
    refine sx_aload_n (pc := 20) dX12_groups_20 sx_m1 ?_
    refine sv_getI (pc := 21) hG dX12_groups_21 f_12_384 lay_146 rfl ?_
    refine sx_bipush (pc := 24) (v := 12) dX12_groups_24 (by decide) ?_
    refine sx_iadd (pc := 26) dX12_groups_26 ?_
    obtain ⟨⟨x25, V23⟩, g24, h⟩ := sx_bnd h
    refine sv_cV (pc := 27) (y := qX12_u4) (o := (some (.long x25))) (as := [.int ((V20.1 146 21) + (12 : Int32))]) (V1 := V23) hG dX12_groups_27 l_X12_297 y0X12_u4 yvX12_u4 rfl (Nat.le_of_ble_eq_true rfl) lay_146 kr_12 (by decide) (Nat.le_of_ble_eq_true rfl) rfl rfl rfl (t_X12_u4 hG ⟨rfl, rfl⟩ g24) ?_
    refine sx_lstore (pc := 30) (lo' := [(4, .long x25), (2, .long x22), (0, .ref 146), (1, .int l1)]) dX12_groups_30 (by decide) rfl ?_
    refine sx_lload_n (pc := 32) dX12_groups_32 sx_m1 ?_
    refine sx_iload_n (pc := 33) dX12_groups_33 sx_m3 ?_
    refine sx_i2l (pc := 34) dX12_groups_34 ?_
    refine sx_lcmp (pc := 35) dX12_groups_35 ?_
    refine sx_if_gt (pc := 36) (tgt := 66) dX12_groups_36 (by decide) (fun c26 => ?_) (fun c26 => ?_)
    · have h := sx_pos c26 h
      refine sx_iconst (pc := 66) (v := 0) dX12_groups_66 (by decide) ?_
      exact sv_zret (pc := 67) dX12_groups_67 rfl rfl h hP
    · have h := sx_neg c26 h
      refine sx_lload (pc := 39) dX12_groups_39 sx_m0 ?_
      refine sx_lconst (pc := 41) (v := 1) dX12_groups_41 rfl ?_
      refine sx_ldc2 (pc := 42) dX12_groups_42 k_X12_402 ?_
      obtain ⟨⟨x29, V27⟩, g28, h⟩ := sx_bnd h
      refine sv_cS (pc := 45) (y := qX12_in) (o := (some (.int x29))) (as := [.long x25, .long (1 : Int64), .long (40 : Int64)]) (V1 := V27) dX12_groups_45 l_X12_263 y0X12_in ysX12_in rfl (Nat.le_of_ble_eq_true rfl) (by decide) (Nat.le_of_ble_eq_true rfl) rfl rfl rfl (t_X12_in hG ⟨rfl, rfl⟩ g28) ?_
      refine sx_if_eq (pc := 48) (tgt := 66) dX12_groups_48 (by decide) (fun c30 => ?_) (fun c30 => ?_)
      · have h := sx_pos c30 h
        refine sx_iconst (pc := 66) (v := 0) dX12_groups_66 (by decide) ?_
        exact sv_zret (pc := 67) dX12_groups_67 rfl rfl h hP
      · have h := sx_neg c30 h
        refine sx_ldc2 (pc := 51) dX12_groups_51 k_X12_232 ?_
        refine sx_ldc2 (pc := 54) dX12_groups_54 k_X12_230 ?_
        refine sx_lload (pc := 57) dX12_groups_57 sx_m0 ?_
        refine sx_lmul (pc := 59) dX12_groups_59 ?_
        refine sx_ladd (pc := 60) dX12_groups_60 ?_
        refine sx_lload_n (pc := 61) dX12_groups_61 sx_m1 ?_
        refine sx_lcmp (pc := 62) dX12_groups_62 ?_
        refine sx_if_le (pc := 63) (tgt := 68) dX12_groups_63 (by decide) (fun c31 => ?_) (fun c31 => ?_)
        · have h := sx_pos c31 h
          refine sx_aload_n (pc := 68) dX12_groups_68 sx_m2 ?_
          refine sx_lload (pc := 69) dX12_groups_69 sx_m0 ?_
          refine sx_l2i (pc := 71) dX12_groups_71 ?_
          obtain ⟨V32, hV32⟩ : ∃ z : sv_V, z = sv_I V27 146 23 x25.toInt32 := ⟨_, rfl⟩
          have h := sx_letE hV32 h
          refine sv_putI (pc := 72) hG dX12_groups_72 f_12_399 lay_146 rfl hV32 ?_
          refine sx_iconst (pc := 75) (v := 0) dX12_groups_75 (by decide) ?_
          refine sx_istore (pc := 76) (lo' := [(6, .int (0 : Int32)), (4, .long x25), (2, .long x22), (0, .ref 146), (1, .int l1)]) dX12_groups_76 (by decide) rfl ?_
          refine sx_wk (sx_s1 sx_m3 (sx_s1 sx_m0 sx_s0)) ?_
          exact tL_X12_groups_78 hG hP  N _ _ h
        · have h := sx_neg c31 h
          refine sx_iconst (pc := 66) (v := 0) dX12_groups_66 (by decide) ?_
          exact sv_zret (pc := 67) dX12_groups_67 rfl rfl h hP
  · have h := sx_neg c19 h
    refine sx_iconst (pc := 6) (v := 0) dX12_groups_6 (by decide) ?_
    exact sv_zret (pc := 7) dX12_groups_7 rfl rfl h hP
end
