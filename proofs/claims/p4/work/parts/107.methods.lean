/-! methods: X12_pushBytes, X12_setVectors, X12_unknown, X12_isZone, X12_setZone, X12_callFunction, X12_defineFunction, X12_defineOwn, X12_one, X12_singled, X12_atLeast, X12_ownRounding, X12_keep, X12_bring, X12_failedNow, X12_failOutside, X12_node, X12_cross, X12_between0 -/
theorem dX12_pushBytes_0 : decode cX12_pushBytes 0 = .ok (.iload_n 2, 1) := by decide +kernel
theorem dX12_pushBytes_1 : decode cX12_pushBytes 1 = .ok (.ifCond .eq 7, 3) := by decide +kernel
theorem dX12_pushBytes_4 : decode cX12_pushBytes 4 = .ok (.iconst 2, 1) := by decide +kernel
theorem dX12_pushBytes_5 : decode cX12_pushBytes 5 = .ok (.goto 4, 3) := by decide +kernel
theorem dX12_pushBytes_8 : decode cX12_pushBytes 8 = .ok (.iconst 1, 1) := by decide +kernel
theorem dX12_pushBytes_9 : decode cX12_pushBytes 9 = .ok (.istore 4, 2) := by decide +kernel
theorem dX12_pushBytes_11 : decode cX12_pushBytes 11 = .ok (.iload_n 3, 1) := by decide +kernel
theorem dX12_pushBytes_12 : decode cX12_pushBytes 12 = .ok (.iload 4, 2) := by decide +kernel
theorem dX12_pushBytes_14 : decode cX12_pushBytes 14 = .ok (.iload_n 1, 1) := by decide +kernel
theorem dX12_pushBytes_15 : decode cX12_pushBytes 15 = .ok (.imul, 1) := by decide +kernel
theorem dX12_pushBytes_16 : decode cX12_pushBytes 16 = .ok (.iadd, 1) := by decide +kernel
theorem dX12_pushBytes_17 : decode cX12_pushBytes 17 = .ok (.aload_n 0, 1) := by decide +kernel
theorem dX12_pushBytes_18 : decode cX12_pushBytes 18 = .ok (.getfield 97, 3) := by decide +kernel
theorem dX12_pushBytes_21 : decode cX12_pushBytes 21 = .ok (.aload_n 0, 1) := by decide +kernel
theorem dX12_pushBytes_22 : decode cX12_pushBytes 22 = .ok (.getfield 427, 3) := by decide +kernel
theorem dX12_pushBytes_25 : decode cX12_pushBytes 25 = .ok (.iaload, 1) := by decide +kernel
theorem dX12_pushBytes_26 : decode cX12_pushBytes 26 = .ok (.if_icmp .le 9, 3) := by decide +kernel
theorem dX12_pushBytes_29 : decode cX12_pushBytes 29 = .ok (.aload_n 0, 1) := by decide +kernel
theorem dX12_pushBytes_30 : decode cX12_pushBytes 30 = .ok (.iconst 4, 1) := by decide +kernel
theorem dX12_pushBytes_31 : decode cX12_pushBytes 31 = .ok (.invokevirtual 421, 3) := by decide +kernel
theorem dX12_pushBytes_34 : decode cX12_pushBytes 34 = .ok (.return_, 1) := by decide +kernel
theorem dX12_pushBytes_35 : decode cX12_pushBytes 35 = .ok (.iconst 0, 1) := by decide +kernel
theorem dX12_pushBytes_36 : decode cX12_pushBytes 36 = .ok (.istore 5, 2) := by decide +kernel
theorem dX12_pushBytes_38 : decode cX12_pushBytes 38 = .ok (.iload 5, 2) := by decide +kernel
theorem dX12_pushBytes_40 : decode cX12_pushBytes 40 = .ok (.iload_n 1, 1) := by decide +kernel
theorem dX12_pushBytes_41 : decode cX12_pushBytes 41 = .ok (.if_icmp .ge 60, 3) := by decide +kernel
theorem dX12_pushBytes_44 : decode cX12_pushBytes 44 = .ok (.aload_n 0, 1) := by decide +kernel
theorem dX12_pushBytes_45 : decode cX12_pushBytes 45 = .ok (.getfield 409, 3) := by decide +kernel
theorem dX12_pushBytes_48 : decode cX12_pushBytes 48 = .ok (.ifCond .ne 53, 3) := by decide +kernel
theorem dX12_pushBytes_51 : decode cX12_pushBytes 51 = .ok (.aload_n 0, 1) := by decide +kernel
theorem dX12_pushBytes_52 : decode cX12_pushBytes 52 = .ok (.getfield 94, 3) := by decide +kernel
theorem dX12_pushBytes_55 : decode cX12_pushBytes 55 = .ok (.aload_n 0, 1) := by decide +kernel
theorem dX12_pushBytes_56 : decode cX12_pushBytes 56 = .ok (.getfield 427, 3) := by decide +kernel
theorem dX12_pushBytes_59 : decode cX12_pushBytes 59 = .ok (.iaload, 1) := by decide +kernel
theorem dX12_pushBytes_60 : decode cX12_pushBytes 60 = .ok (.iload_n 3, 1) := by decide +kernel
theorem dX12_pushBytes_61 : decode cX12_pushBytes 61 = .ok (.iadd, 1) := by decide +kernel
theorem dX12_pushBytes_62 : decode cX12_pushBytes 62 = .ok (.iload 4, 2) := by decide +kernel
theorem dX12_pushBytes_64 : decode cX12_pushBytes 64 = .ok (.iload 5, 2) := by decide +kernel
theorem dX12_pushBytes_66 : decode cX12_pushBytes 66 = .ok (.imul, 1) := by decide +kernel
theorem dX12_pushBytes_67 : decode cX12_pushBytes 67 = .ok (.iadd, 1) := by decide +kernel
theorem dX12_pushBytes_68 : decode cX12_pushBytes 68 = .ok (.istore 6, 2) := by decide +kernel
theorem dX12_pushBytes_70 : decode cX12_pushBytes 70 = .ok (.aload_n 0, 1) := by decide +kernel
theorem dX12_pushBytes_71 : decode cX12_pushBytes 71 = .ok (.iload_n 2, 1) := by decide +kernel
theorem dX12_pushBytes_72 : decode cX12_pushBytes 72 = .ok (.ifCond .eq 13, 3) := by decide +kernel
theorem dX12_pushBytes_75 : decode cX12_pushBytes 75 = .ok (.aload_n 0, 1) := by decide +kernel
theorem dX12_pushBytes_76 : decode cX12_pushBytes 76 = .ok (.iload 6, 2) := by decide +kernel
theorem dX12_pushBytes_78 : decode cX12_pushBytes 78 = .ok (.invokevirtual 305, 3) := by decide +kernel
theorem dX12_pushBytes_81 : decode cX12_pushBytes 81 = .ok (.i2l, 1) := by decide +kernel
theorem dX12_pushBytes_82 : decode cX12_pushBytes 82 = .ok (.goto 10, 3) := by decide +kernel
theorem dX12_pushBytes_85 : decode cX12_pushBytes 85 = .ok (.aload_n 0, 1) := by decide +kernel
theorem dX12_pushBytes_86 : decode cX12_pushBytes 86 = .ok (.iload 6, 2) := by decide +kernel
theorem dX12_pushBytes_88 : decode cX12_pushBytes 88 = .ok (.invokevirtual 209, 3) := by decide +kernel
theorem dX12_pushBytes_91 : decode cX12_pushBytes 91 = .ok (.i2l, 1) := by decide +kernel
theorem dX12_pushBytes_92 : decode cX12_pushBytes 92 = .ok (.invokevirtual 564, 3) := by decide +kernel
theorem dX12_pushBytes_95 : decode cX12_pushBytes 95 = .ok (.iinc 5 1, 3) := by decide +kernel
theorem dX12_pushBytes_98 : decode cX12_pushBytes 98 = .ok (.goto (-60), 3) := by decide +kernel
theorem dX12_pushBytes_101 : decode cX12_pushBytes 101 = .ok (.aload_n 0, 1) := by decide +kernel
theorem dX12_pushBytes_102 : decode cX12_pushBytes 102 = .ok (.iload_n 3, 1) := by decide +kernel
theorem dX12_pushBytes_103 : decode cX12_pushBytes 103 = .ok (.iload 4, 2) := by decide +kernel
theorem dX12_pushBytes_105 : decode cX12_pushBytes 105 = .ok (.iload_n 1, 1) := by decide +kernel
theorem dX12_pushBytes_106 : decode cX12_pushBytes 106 = .ok (.imul, 1) := by decide +kernel
theorem dX12_pushBytes_107 : decode cX12_pushBytes 107 = .ok (.iadd, 1) := by decide +kernel
theorem dX12_pushBytes_108 : decode cX12_pushBytes 108 = .ok (.putfield 496, 3) := by decide +kernel
theorem dX12_pushBytes_111 : decode cX12_pushBytes 111 = .ok (.return_, 1) := by decide +kernel
def B_X12_pushBytes_92 (N : Nat) (k38 : Int32 → Int32 → Int32 → Int32 → Int32 → sv_V → Option sv_V) (l1 : Int32) (l2 : Int32) (l3 : Int32) (l4 : Int32) (l5 : Int32) (s1 : Int64) (V : sv_V) : Option sv_V := (F_X12_push s1 V).bind (fun V1 => sx_let (l5 + 1) (fun x3 => k38 l1 l2 l3 l4 x3 V1))
set_option maxRecDepth 20000 in
theorem tB_X12_pushBytes_92 {g : sx_G} (hG : sx_Go g) {P : Option Value → sv_V → Prop} {Vr : sv_V} (hP : P none Vr) {N : Nat} {k38 : Int32 → Int32 → Int32 → Int32 → Int32 → sv_V → Option sv_V} (hk38 : ∀ (l1 : Int32) (l2 : Int32) (l3 : Int32) (l4 : Int32) (l5 : Int32) (V : sv_V), k38 l1 l2 l3 l4 l5 V = some Vr → sv_N g qX12_pushBytes 3 38 [(0, .ref 146), (1, .int l1), (2, .int l2), (3, .int l3), (4, .int l4), (5, .int l5)] [] V P) {l1 : Int32} {l2 : Int32} {l3 : Int32} {l4 : Int32} {l5 : Int32} {s1 : Int64} {V : sv_V} (h : B_X12_pushBytes_92 N k38 l1 l2 l3 l4 l5 s1 V = some Vr) : sv_N g qX12_pushBytes 3 92 [(0, .ref 146), (1, .int l1), (2, .int l2), (3, .int l3), (4, .int l4), (5, .int l5)] [.long s1, .ref 146] V P := by
  unfold B_X12_pushBytes_92 at h
  obtain ⟨V1, g2, h⟩ := sx_bnd h
  refine sv_cV (pc := 92) (y := qX12_push) (o := none) (as := [.long s1]) (V1 := V1) hG dX12_pushBytes_92 l_X12_564 y0X12_push yvX12_push rfl (Nat.le_of_ble_eq_true rfl) lay_146 kr_12 (by decide) (Nat.le_of_ble_eq_true rfl) rfl rfl rfl (t_X12_push hG ⟨rfl, rfl⟩ g2) ?_
  obtain ⟨x3, hx3⟩ : ∃ z : Int32, z = l5 + 1 := ⟨_, rfl⟩
  have h := sx_letE hx3 h
  refine sx_iinc (pc := 95) (v := x3) (lo' := [(5, .int x3), (0, .ref 146), (1, .int l1), (2, .int l2), (3, .int l3), (4, .int l4)]) dX12_pushBytes_95 sx_m5 (by rw [hx3]; rfl) (by decide) rfl ?_
  refine sx_goto (pc := 98) (tgt := 38) dX12_pushBytes_98 (by decide) ?_
  refine sx_wk (sx_s1 sx_m1 (sx_s1 sx_m2 (sx_s1 sx_m3 (sx_s1 sx_m4 (sx_s1 sx_m5 (sx_s1 sx_m0 sx_s0)))))) ?_
  exact hk38 _ _ _ _ _ _ h
def B_X12_pushBytes_101 (N : Nat)  (l1 : Int32) (l3 : Int32) (l4 : Int32) (V : sv_V) : Option sv_V := sx_let (sv_I V 146 93 (l3 + (l4 * l1))) (fun V4 => some V4)
set_option maxRecDepth 20000 in
theorem tB_X12_pushBytes_101 {g : sx_G} (hG : sx_Go g) {P : Option Value → sv_V → Prop} {Vr : sv_V} (hP : P none Vr) {N : Nat}   {l1 : Int32} {l3 : Int32} {l4 : Int32} {V : sv_V} (h : B_X12_pushBytes_101 N  l1 l3 l4 V = some Vr) : sv_N g qX12_pushBytes 3 101 [(0, .ref 146), (1, .int l1), (3, .int l3), (4, .int l4)] [] V P := by
  unfold B_X12_pushBytes_101 at h
  refine sx_aload_n (pc := 101) dX12_pushBytes_101 sx_m0 ?_
  refine sx_iload_n (pc := 102) dX12_pushBytes_102 sx_m2 ?_
  refine sx_iload (pc := 103) dX12_pushBytes_103 sx_m3 ?_
  refine sx_iload_n (pc := 105) dX12_pushBytes_105 sx_m1 ?_
  refine sx_imul (pc := 106) dX12_pushBytes_106 ?_
  refine sx_iadd (pc := 107) dX12_pushBytes_107 ?_
  obtain ⟨V4, hV4⟩ : ∃ z : sv_V, z = sv_I V 146 93 (l3 + (l4 * l1)) := ⟨_, rfl⟩
  have h := sx_letE hV4 h
  refine sv_putI (pc := 108) hG dX12_pushBytes_108 f_12_496 lay_146 rfl hV4 ?_
  exact sv_vret (pc := 111) dX12_pushBytes_111 rfl h hP
def B_X12_pushBytes_38 (N : Nat) (k38 : Int32 → Int32 → Int32 → Int32 → Int32 → sv_V → Option sv_V) (l1 : Int32) (l2 : Int32) (l3 : Int32) (l4 : Int32) (l5 : Int32) (V : sv_V) : Option sv_V := if l1 ≤ l5 then (B_X12_pushBytes_101 N  l1 l3 l4 V) else (if (V.1 146 59) = 0 then (if sx_in (V.1 146 92) 3 = true then sx_let (((V.1 174 (V.1 146 92).toNatClampNeg) + l3) + (l4 * l5)) (fun x8 => if l2 = 0 then ((F_X12_u1 x8 V).bind (fun (x12, V10) => B_X12_pushBytes_92 N k38 l1 l2 l3 l4 l5 x12.toInt64 V10)) else ((F_X12_s2 x8 V).bind (fun (x15, V13) => B_X12_pushBytes_92 N k38 l1 l2 l3 l4 l5 x15.toInt64 V13))) else none) else (B_X12_pushBytes_101 N  l1 l3 l4 V))
set_option maxRecDepth 20000 in
theorem tB_X12_pushBytes_38 {g : sx_G} (hG : sx_Go g) {P : Option Value → sv_V → Prop} {Vr : sv_V} (hP : P none Vr) {N : Nat} {k38 : Int32 → Int32 → Int32 → Int32 → Int32 → sv_V → Option sv_V} (hk38 : ∀ (l1 : Int32) (l2 : Int32) (l3 : Int32) (l4 : Int32) (l5 : Int32) (V : sv_V), k38 l1 l2 l3 l4 l5 V = some Vr → sv_N g qX12_pushBytes 3 38 [(0, .ref 146), (1, .int l1), (2, .int l2), (3, .int l3), (4, .int l4), (5, .int l5)] [] V P) {l1 : Int32} {l2 : Int32} {l3 : Int32} {l4 : Int32} {l5 : Int32} {V : sv_V} (h : B_X12_pushBytes_38 N k38 l1 l2 l3 l4 l5 V = some Vr) : sv_N g qX12_pushBytes 3 38 [(0, .ref 146), (1, .int l1), (2, .int l2), (3, .int l3), (4, .int l4), (5, .int l5)] [] V P := by
  unfold B_X12_pushBytes_38 at h
  refine sx_iload (pc := 38) dX12_pushBytes_38 sx_m5 ?_
  refine sx_iload_n (pc := 40) dX12_pushBytes_40 sx_m1 ?_
  refine sx_icmp_ge (pc := 41) (tgt := 101) dX12_pushBytes_41 (by decide) (fun c5 => ?_) (fun c5 => ?_)
  · have h := sx_pos c5 h
    refine sx_wk (sx_s1 sx_m0 (sx_s1 sx_m1 (sx_s1 sx_m3 (sx_s1 sx_m4 sx_s0)))) ?_
    exact tB_X12_pushBytes_101 hG hP  h
  · have h := sx_neg c5 h
    refine sx_aload_n (pc := 44) dX12_pushBytes_44 sx_m0 ?_
    refine sv_getI (pc := 45) hG dX12_pushBytes_45 f_12_409 lay_146 rfl ?_
    refine sx_if_ne (pc := 48) (tgt := 101) dX12_pushBytes_48 (by decide) (fun c6 => ?_) (fun c6 => ?_)
    · have h := sx_neg c6 h
      refine sx_wk (sx_s1 sx_m0 (sx_s1 sx_m1 (sx_s1 sx_m3 (sx_s1 sx_m4 sx_s0)))) ?_
      exact tB_X12_pushBytes_101 hG hP  h
    · have h := sx_pos c6 h
      refine sx_aload_n (pc := 51) dX12_pushBytes_51 sx_m0 ?_
      refine sv_getA (pc := 52) hG dX12_pushBytes_52 f_12_94 lay_146 rfl cr_146_89 ?_
      refine sx_aload_n (pc := 55) dX12_pushBytes_55 sx_m0 ?_
      refine sv_getI (pc := 56) hG dX12_pushBytes_56 f_12_427 lay_146 rfl ?_
      obtain ⟨g7, h⟩ := sx_grd h
      refine sv_iald (pc := 59) hG dX12_pushBytes_59 lay_174 g7 ?_
      refine sx_iload_n (pc := 60) dX12_pushBytes_60 sx_m3 ?_
      refine sx_iadd (pc := 61) dX12_pushBytes_61 ?_
      refine sx_iload (pc := 62) dX12_pushBytes_62 sx_m4 ?_
      refine sx_iload (pc := 64) dX12_pushBytes_64 sx_m5 ?_
      refine sx_imul (pc := 66) dX12_pushBytes_66 ?_
      refine sx_iadd (pc := 67) dX12_pushBytes_67 ?_
      refine sv_tI (fun x8 hx8 => ?_)
      have h := sx_letE hx8 h
      refine sx_istore (pc := 68) (lo' := [(6, .int x8), (0, .ref 146), (1, .int l1), (2, .int l2), (3, .int l3), (4, .int l4), (5, .int l5)]) dX12_pushBytes_68 (by decide) rfl ?_
      refine sx_aload_n (pc := 70) dX12_pushBytes_70 sx_m1 ?_
      refine sx_iload_n (pc := 71) dX12_pushBytes_71 sx_m3 ?_
      refine sx_if_eq (pc := 72) (tgt := 85) dX12_pushBytes_72 (by decide) (fun c9 => ?_) (fun c9 => ?_)
      · have h := sx_pos c9 h
        refine sx_aload_n (pc := 85) dX12_pushBytes_85 sx_m1 ?_
        refine sx_iload (pc := 86) dX12_pushBytes_86 sx_m0 ?_
        obtain ⟨⟨x12, V10⟩, g11, h⟩ := sx_bnd h
        refine sv_cV (pc := 88) (y := qX12_u1) (o := (some (.int x12))) (as := [.int x8]) (V1 := V10) hG dX12_pushBytes_88 l_X12_209 y0X12_u1 yvX12_u1 rfl (Nat.le_of_ble_eq_true rfl) lay_146 kr_12 (by decide) (Nat.le_of_ble_eq_true rfl) rfl rfl rfl (t_X12_u1 hG ⟨rfl, rfl⟩ g11) ?_
        refine sx_i2l (pc := 91) dX12_pushBytes_91 ?_
        refine sx_wk (sx_s1 sx_m1 (sx_s1 sx_m2 (sx_s1 sx_m3 (sx_s1 sx_m4 (sx_s1 sx_m5 (sx_s1 sx_m6 sx_s0)))))) ?_
        exact tB_X12_pushBytes_92 hG hP hk38 h
      · have h := sx_neg c9 h
        refine sx_aload_n (pc := 75) dX12_pushBytes_75 sx_m1 ?_
        refine sx_iload (pc := 76) dX12_pushBytes_76 sx_m0 ?_
        obtain ⟨⟨x15, V13⟩, g14, h⟩ := sx_bnd h
        refine sv_cV (pc := 78) (y := qX12_s2) (o := (some (.int x15))) (as := [.int x8]) (V1 := V13) hG dX12_pushBytes_78 l_X12_305 y0X12_s2 yvX12_s2 rfl (Nat.le_of_ble_eq_true rfl) lay_146 kr_12 (by decide) (Nat.le_of_ble_eq_true rfl) rfl rfl rfl (t_X12_s2 hG ⟨rfl, rfl⟩ g14) ?_
        refine sx_i2l (pc := 81) dX12_pushBytes_81 ?_
        refine sx_goto (pc := 82) (tgt := 92) dX12_pushBytes_82 (by decide) ?_
        refine sx_wk (sx_s1 sx_m1 (sx_s1 sx_m2 (sx_s1 sx_m3 (sx_s1 sx_m4 (sx_s1 sx_m5 (sx_s1 sx_m6 sx_s0)))))) ?_
        exact tB_X12_pushBytes_92 hG hP hk38 h
theorem tL_X12_pushBytes_38 {g : sx_G} (hG : sx_Go g) {P : Option Value → sv_V → Prop} {Vr : sv_V} (hP : P none Vr) {N : Nat}   : ∀ (n : Nat) (l1 : Int32) (l2 : Int32) (l3 : Int32) (l4 : Int32) (l5 : Int32) (V : sv_V), sx_lp6 (B_X12_pushBytes_38 N ) n l1 l2 l3 l4 l5 V = some Vr → sv_N g qX12_pushBytes 3 38 [(0, .ref 146), (1, .int l1), (2, .int l2), (3, .int l3), (4, .int l4), (5, .int l5)] [] V P :=
  sx_lp6_ind (fun k0 ih _ _ _ _ _ V h => tB_X12_pushBytes_38 hG hP ih h)
def B_X12_pushBytes_9 (N : Nat)  (l1 : Int32) (l2 : Int32) (l3 : Int32) (s0 : Int32) (V : sv_V) : Option sv_V := if sx_in (V.1 146 92) 3 = true then if (l3 + (s0 * l1)) ≤ (V.1 175 (V.1 146 92).toNatClampNeg) then (sx_lp6 (B_X12_pushBytes_38 N ) N l1 l2 l3 s0 (0 : Int32) V) else ((F_X12_fail (4 : Int32) V).bind (fun V18 => some V18)) else none
set_option maxRecDepth 20000 in
theorem tB_X12_pushBytes_9 {g : sx_G} (hG : sx_Go g) {P : Option Value → sv_V → Prop} {Vr : sv_V} (hP : P none Vr) {N : Nat}   {l1 : Int32} {l2 : Int32} {l3 : Int32} {s0 : Int32} {V : sv_V} (h : B_X12_pushBytes_9 N  l1 l2 l3 s0 V = some Vr) : sv_N g qX12_pushBytes 3 9 [(0, .ref 146), (1, .int l1), (2, .int l2), (3, .int l3)] [.int s0] V P := by
  unfold B_X12_pushBytes_9 at h
  refine sx_istore (pc := 9) (lo' := [(4, .int s0), (0, .ref 146), (1, .int l1), (2, .int l2), (3, .int l3)]) dX12_pushBytes_9 (by decide) rfl ?_
  refine sx_iload_n (pc := 11) dX12_pushBytes_11 sx_m4 ?_
  refine sx_iload (pc := 12) dX12_pushBytes_12 sx_m0 ?_
  refine sx_iload_n (pc := 14) dX12_pushBytes_14 sx_m2 ?_
  refine sx_imul (pc := 15) dX12_pushBytes_15 ?_
  refine sx_iadd (pc := 16) dX12_pushBytes_16 ?_
  refine sx_aload_n (pc := 17) dX12_pushBytes_17 sx_m1 ?_
  refine sv_getA (pc := 18) hG dX12_pushBytes_18 f_12_97 lay_146 rfl cr_146_90 ?_
  refine sx_aload_n (pc := 21) dX12_pushBytes_21 sx_m1 ?_
  refine sv_getI (pc := 22) hG dX12_pushBytes_22 f_12_427 lay_146 rfl ?_
  obtain ⟨g16, h⟩ := sx_grd h
  refine sv_iald (pc := 25) hG dX12_pushBytes_25 lay_175 g16 ?_
  refine sx_icmp_le (pc := 26) (tgt := 35) dX12_pushBytes_26 (by decide) (fun c17 => ?_) (fun c17 => ?_)
  · have h := sx_pos c17 h
    refine sx_iconst (pc := 35) (v := 0) dX12_pushBytes_35 (by decide) ?_
    refine sx_istore (pc := 36) (lo' := [(5, .int (0 : Int32)), (4, .int s0), (0, .ref 146), (1, .int l1), (2, .int l2), (3, .int l3)]) dX12_pushBytes_36 (by decide) rfl ?_
    refine sx_wk (sx_s1 sx_m2 (sx_s1 sx_m3 (sx_s1 sx_m4 (sx_s1 sx_m5 (sx_s1 sx_m1 (sx_s1 sx_m0 sx_s0)))))) ?_
    exact tL_X12_pushBytes_38 hG hP  N _ _ _ _ _ _ h
  · have h := sx_neg c17 h
    refine sx_aload_n (pc := 29) dX12_pushBytes_29 sx_m1 ?_
    refine sx_iconst (pc := 30) (v := 4) dX12_pushBytes_30 (by decide) ?_
    obtain ⟨V18, g19, h⟩ := sx_bnd h
    refine sv_cV (pc := 31) (y := qX12_fail) (o := none) (as := [.int (4 : Int32)]) (V1 := V18) hG dX12_pushBytes_31 l_X12_421 y0X12_fail yvX12_fail rfl (Nat.le_of_ble_eq_true rfl) lay_146 kr_12 (by decide) (Nat.le_of_ble_eq_true rfl) rfl rfl rfl (t_X12_fail hG ⟨rfl, rfl⟩ g19) ?_
    exact sv_vret (pc := 34) dX12_pushBytes_34 rfl h hP
def F_X12_pushBytes (N : Nat) (l1 : Int32) (l2 : Int32) (l3 : Int32) (V : sv_V) : Option sv_V := if l2 = 0 then (B_X12_pushBytes_9 N  l1 l2 l3 (1 : Int32) V) else (B_X12_pushBytes_9 N  l1 l2 l3 (2 : Int32) V)
set_option maxRecDepth 20000 in
theorem t_X12_pushBytes {g : sx_G} (hG : sx_Go g) {P : Option Value → sv_V → Prop} {Vr : sv_V} (hP : P none Vr) {N : Nat} {l1 : Int32} {l2 : Int32} {l3 : Int32} {V : sv_V} (h : F_X12_pushBytes N l1 l2 l3 V = some Vr) : sv_N g qX12_pushBytes 3 0 [(0, .ref 146), (1, .int l1), (2, .int l2), (3, .int l3)] [] V P := by
  unfold F_X12_pushBytes at h
  refine sx_iload_n (pc := 0) dX12_pushBytes_0 sx_m2 ?_
  refine sx_if_eq (pc := 1) (tgt := 8) dX12_pushBytes_1 (by decide) (fun c20 => ?_) (fun c20 => ?_)
  · have h := sx_pos c20 h
    refine sx_iconst (pc := 8) (v := 1) dX12_pushBytes_8 (by decide) ?_
    refine sx_wk (sx_s1 sx_m0 (sx_s1 sx_m1 (sx_s1 sx_m2 (sx_s1 sx_m3 sx_s0)))) ?_
    exact tB_X12_pushBytes_9 hG hP  h
  · have h := sx_neg c20 h
    refine sx_iconst (pc := 4) (v := 2) dX12_pushBytes_4 (by decide) ?_
    refine sx_goto (pc := 5) (tgt := 9) dX12_pushBytes_5 (by decide) ?_
    refine sx_wk (sx_s1 sx_m0 (sx_s1 sx_m1 (sx_s1 sx_m2 (sx_s1 sx_m3 sx_s0)))) ?_
    exact tB_X12_pushBytes_9 hG hP  h
theorem dX12_setVectors_0 : decode cX12_setVectors 0 = .ok (.iload_n 3, 1) := by decide +kernel
theorem dX12_setVectors_1 : decode cX12_setVectors 1 = .ok (.ifCond .eq 13, 3) := by decide +kernel
theorem dX12_setVectors_4 : decode cX12_setVectors 4 = .ok (.aload_n 0, 1) := by decide +kernel
theorem dX12_setVectors_5 : decode cX12_setVectors 5 = .ok (.iload_n 1, 1) := by decide +kernel
theorem dX12_setVectors_6 : decode cX12_setVectors 6 = .ok (.putfield 433, 3) := by decide +kernel
theorem dX12_setVectors_9 : decode cX12_setVectors 9 = .ok (.aload_n 0, 1) := by decide +kernel
theorem dX12_setVectors_10 : decode cX12_setVectors 10 = .ok (.iload_n 2, 1) := by decide +kernel
theorem dX12_setVectors_11 : decode cX12_setVectors 11 = .ok (.putfield 436, 3) := by decide +kernel
theorem dX12_setVectors_14 : decode cX12_setVectors 14 = .ok (.iload 4, 2) := by decide +kernel
theorem dX12_setVectors_16 : decode cX12_setVectors 16 = .ok (.ifCond .eq 23, 3) := by decide +kernel
theorem dX12_setVectors_19 : decode cX12_setVectors 19 = .ok (.aload_n 0, 1) := by decide +kernel
theorem dX12_setVectors_20 : decode cX12_setVectors 20 = .ok (.iload_n 1, 1) := by decide +kernel
theorem dX12_setVectors_21 : decode cX12_setVectors 21 = .ok (.putfield 439, 3) := by decide +kernel
theorem dX12_setVectors_24 : decode cX12_setVectors 24 = .ok (.aload_n 0, 1) := by decide +kernel
theorem dX12_setVectors_25 : decode cX12_setVectors 25 = .ok (.iload_n 2, 1) := by decide +kernel
theorem dX12_setVectors_26 : decode cX12_setVectors 26 = .ok (.putfield 442, 3) := by decide +kernel
theorem dX12_setVectors_29 : decode cX12_setVectors 29 = .ok (.aload_n 0, 1) := by decide +kernel
theorem dX12_setVectors_30 : decode cX12_setVectors 30 = .ok (.iload_n 1, 1) := by decide +kernel
theorem dX12_setVectors_31 : decode cX12_setVectors 31 = .ok (.putfield 445, 3) := by decide +kernel
theorem dX12_setVectors_34 : decode cX12_setVectors 34 = .ok (.aload_n 0, 1) := by decide +kernel
theorem dX12_setVectors_35 : decode cX12_setVectors 35 = .ok (.iload_n 2, 1) := by decide +kernel
theorem dX12_setVectors_36 : decode cX12_setVectors 36 = .ok (.putfield 448, 3) := by decide +kernel
theorem dX12_setVectors_39 : decode cX12_setVectors 39 = .ok (.return_, 1) := by decide +kernel
def B_X12_setVectors_14  (l1 : Int32) (l2 : Int32) (l4 : Int32) (V : sv_V) : Option sv_V := if l4 = 0 then (some V) else (sx_let (sv_I V 146 65 l1) (fun V2 => sx_let (sv_I V2 146 66 l2) (fun V3 => sx_let (sv_I V3 146 67 l1) (fun V4 => sx_let (sv_I V4 146 68 l2) (fun V5 => some V5)))))
set_option maxRecDepth 20000 in
theorem tB_X12_setVectors_14 {g : sx_G} (hG : sx_Go g) {P : Option Value → sv_V → Prop} {Vr : sv_V} (hP : P none Vr)   {l1 : Int32} {l2 : Int32} {l4 : Int32} {V : sv_V} (h : B_X12_setVectors_14  l1 l2 l4 V = some Vr) : sv_N g qX12_setVectors 0 14 [(0, .ref 146), (1, .int l1), (2, .int l2), (4, .int l4)] [] V P := by
  unfold B_X12_setVectors_14 at h
  refine sx_iload (pc := 14) dX12_setVectors_14 sx_m3 ?_
  refine sx_if_eq (pc := 16) (tgt := 39) dX12_setVectors_16 (by decide) (fun c1 => ?_) (fun c1 => ?_)
  · have h := sx_pos c1 h
    exact sv_vret (pc := 39) dX12_setVectors_39 rfl h hP
  · have h := sx_neg c1 h
    refine sx_aload_n (pc := 19) dX12_setVectors_19 sx_m0 ?_
    refine sx_iload_n (pc := 20) dX12_setVectors_20 sx_m1 ?_
    obtain ⟨V2, hV2⟩ : ∃ z : sv_V, z = sv_I V 146 65 l1 := ⟨_, rfl⟩
    have h := sx_letE hV2 h
    refine sv_putI (pc := 21) hG dX12_setVectors_21 f_12_439 lay_146 rfl hV2 ?_
    refine sx_aload_n (pc := 24) dX12_setVectors_24 sx_m0 ?_
    refine sx_iload_n (pc := 25) dX12_setVectors_25 sx_m2 ?_
    obtain ⟨V3, hV3⟩ : ∃ z : sv_V, z = sv_I V2 146 66 l2 := ⟨_, rfl⟩
    have h := sx_letE hV3 h
    refine sv_putI (pc := 26) hG dX12_setVectors_26 f_12_442 lay_146 rfl hV3 ?_
    refine sx_aload_n (pc := 29) dX12_setVectors_29 sx_m0 ?_
    refine sx_iload_n (pc := 30) dX12_setVectors_30 sx_m1 ?_
    obtain ⟨V4, hV4⟩ : ∃ z : sv_V, z = sv_I V3 146 67 l1 := ⟨_, rfl⟩
    have h := sx_letE hV4 h
    refine sv_putI (pc := 31) hG dX12_setVectors_31 f_12_445 lay_146 rfl hV4 ?_
    refine sx_aload_n (pc := 34) dX12_setVectors_34 sx_m0 ?_
    refine sx_iload_n (pc := 35) dX12_setVectors_35 sx_m2 ?_
    obtain ⟨V5, hV5⟩ : ∃ z : sv_V, z = sv_I V4 146 68 l2 := ⟨_, rfl⟩
    have h := sx_letE hV5 h
    refine sv_putI (pc := 36) hG dX12_setVectors_36 f_12_448 lay_146 rfl hV5 ?_
    exact sv_vret (pc := 39) dX12_setVectors_39 rfl h hP
def F_X12_setVectors (l1 : Int32) (l2 : Int32) (l3 : Int32) (l4 : Int32) (V : sv_V) : Option sv_V := if l3 = 0 then (B_X12_setVectors_14  l1 l2 l4 V) else (sx_let (sv_I V 146 63 l1) (fun V7 => sx_let (sv_I V7 146 64 l2) (fun V8 => B_X12_setVectors_14  l1 l2 l4 V8)))
set_option maxRecDepth 20000 in
theorem t_X12_setVectors {g : sx_G} (hG : sx_Go g) {P : Option Value → sv_V → Prop} {Vr : sv_V} (hP : P none Vr) {l1 : Int32} {l2 : Int32} {l3 : Int32} {l4 : Int32} {V : sv_V} (h : F_X12_setVectors l1 l2 l3 l4 V = some Vr) : sv_N g qX12_setVectors 0 0 [(0, .ref 146), (1, .int l1), (2, .int l2), (3, .int l3), (4, .int l4)] [] V P := by
  unfold F_X12_setVectors at h
  refine sx_iload_n (pc := 0) dX12_setVectors_0 sx_m3 ?_
  refine sx_if_eq (pc := 1) (tgt := 14) dX12_setVectors_1 (by decide) (fun c6 => ?_) (fun c6 => ?_)
  · have h := sx_pos c6 h
    refine sx_wk (sx_s1 sx_m0 (sx_s1 sx_m1 (sx_s1 sx_m2 (sx_s1 sx_m4 sx_s0)))) ?_
    exact tB_X12_setVectors_14 hG hP  h
  · have h := sx_neg c6 h
    refine sx_aload_n (pc := 4) dX12_setVectors_4 sx_m0 ?_
    refine sx_iload_n (pc := 5) dX12_setVectors_5 sx_m1 ?_
    obtain ⟨V7, hV7⟩ : ∃ z : sv_V, z = sv_I V 146 63 l1 := ⟨_, rfl⟩
    have h := sx_letE hV7 h
    refine sv_putI (pc := 6) hG dX12_setVectors_6 f_12_433 lay_146 rfl hV7 ?_
    refine sx_aload_n (pc := 9) dX12_setVectors_9 sx_m0 ?_
    refine sx_iload_n (pc := 10) dX12_setVectors_10 sx_m2 ?_
    obtain ⟨V8, hV8⟩ : ∃ z : sv_V, z = sv_I V7 146 64 l2 := ⟨_, rfl⟩
    have h := sx_letE hV8 h
    refine sv_putI (pc := 11) hG dX12_setVectors_11 f_12_436 lay_146 rfl hV8 ?_
    refine sx_wk (sx_s1 sx_m0 (sx_s1 sx_m1 (sx_s1 sx_m2 (sx_s1 sx_m4 sx_s0)))) ?_
    exact tB_X12_setVectors_14 hG hP  h
theorem dX12_unknown_0 : decode cX12_unknown 0 = .ok (.aload_n 0, 1) := by decide +kernel
theorem dX12_unknown_1 : decode cX12_unknown 1 = .ok (.getfield 106, 3) := by decide +kernel
theorem dX12_unknown_4 : decode cX12_unknown 4 = .ok (.iload_n 1, 1) := by decide +kernel
theorem dX12_unknown_5 : decode cX12_unknown 5 = .ok (.iaload, 1) := by decide +kernel
theorem dX12_unknown_6 : decode cX12_unknown 6 = .ok (.ifCond .ge 11, 3) := by decide +kernel
theorem dX12_unknown_9 : decode cX12_unknown 9 = .ok (.aload_n 0, 1) := by decide +kernel
theorem dX12_unknown_10 : decode cX12_unknown 10 = .ok (.iconst 3, 1) := by decide +kernel
theorem dX12_unknown_11 : decode cX12_unknown 11 = .ok (.invokevirtual 421, 3) := by decide +kernel
theorem dX12_unknown_14 : decode cX12_unknown 14 = .ok (.goto 20, 3) := by decide +kernel
theorem dX12_unknown_17 : decode cX12_unknown 17 = .ok (.aload_n 0, 1) := by decide +kernel
theorem dX12_unknown_18 : decode cX12_unknown 18 = .ok (.aload_n 0, 1) := by decide +kernel
theorem dX12_unknown_19 : decode cX12_unknown 19 = .ok (.getfield 109, 3) := by decide +kernel
theorem dX12_unknown_22 : decode cX12_unknown 22 = .ok (.iload_n 1, 1) := by decide +kernel
theorem dX12_unknown_23 : decode cX12_unknown 23 = .ok (.iaload, 1) := by decide +kernel
theorem dX12_unknown_24 : decode cX12_unknown 24 = .ok (.aload_n 0, 1) := by decide +kernel
theorem dX12_unknown_25 : decode cX12_unknown 25 = .ok (.getfield 106, 3) := by decide +kernel
theorem dX12_unknown_28 : decode cX12_unknown 28 = .ok (.iload_n 1, 1) := by decide +kernel
theorem dX12_unknown_29 : decode cX12_unknown 29 = .ok (.iaload, 1) := by decide +kernel
theorem dX12_unknown_30 : decode cX12_unknown 30 = .ok (.iconst 1, 1) := by decide +kernel
theorem dX12_unknown_31 : decode cX12_unknown 31 = .ok (.invokevirtual 568, 3) := by decide +kernel
theorem dX12_unknown_34 : decode cX12_unknown 34 = .ok (.return_, 1) := by decide +kernel
def F_X12_unknown (l1 : Int32) (V : sv_V) : Option sv_V := if sx_in l1 256 = true then if 0 ≤ (V.1 178 l1.toNatClampNeg) then (if sx_in l1 256 = true then if sx_in l1 256 = true then (F_X12_call (V.1 179 l1.toNatClampNeg) (V.1 178 l1.toNatClampNeg) (1 : Int32) V).bind (fun V5 => some V5) else none else none) else ((F_X12_fail (3 : Int32) V).bind (fun V7 => some V7)) else none
set_option maxRecDepth 20000 in
theorem t_X12_unknown {g : sx_G} (hG : sx_Go g) {P : Option Value → sv_V → Prop} {Vr : sv_V} (hP : P none Vr) {l1 : Int32} {V : sv_V} (h : F_X12_unknown l1 V = some Vr) : sv_N g qX12_unknown 2 0 [(0, .ref 146), (1, .int l1)] [] V P := by
  unfold F_X12_unknown at h
  refine sx_aload_n (pc := 0) dX12_unknown_0 sx_m0 ?_
  refine sv_getA (pc := 1) hG dX12_unknown_1 f_12_106 lay_146 rfl cr_146_96 ?_
  refine sx_iload_n (pc := 4) dX12_unknown_4 sx_m1 ?_
  obtain ⟨g1, h⟩ := sx_grd h
  refine sv_iald (pc := 5) hG dX12_unknown_5 lay_178 g1 ?_
  refine sx_if_ge (pc := 6) (tgt := 17) dX12_unknown_6 (by decide) (fun c2 => ?_) (fun c2 => ?_)
  · have h := sx_pos c2 h
    refine sx_aload_n (pc := 17) dX12_unknown_17 sx_m0 ?_
    refine sx_aload_n (pc := 18) dX12_unknown_18 sx_m0 ?_
    refine sv_getA (pc := 19) hG dX12_unknown_19 f_12_109 lay_146 rfl cr_146_97 ?_
    refine sx_iload_n (pc := 22) dX12_unknown_22 sx_m1 ?_
    obtain ⟨g3, h⟩ := sx_grd h
    refine sv_iald (pc := 23) hG dX12_unknown_23 lay_179 g3 ?_
    refine sx_aload_n (pc := 24) dX12_unknown_24 sx_m0 ?_
    refine sv_getA (pc := 25) hG dX12_unknown_25 f_12_106 lay_146 rfl cr_146_96 ?_
    refine sx_iload_n (pc := 28) dX12_unknown_28 sx_m1 ?_
    obtain ⟨g4, h⟩ := sx_grd h
    refine sv_iald (pc := 29) hG dX12_unknown_29 lay_178 g4 ?_
    refine sx_iconst (pc := 30) (v := 1) dX12_unknown_30 (by decide) ?_
    obtain ⟨V5, g6, h⟩ := sx_bnd h
    refine sv_cV (pc := 31) (y := qX12_call) (o := none) (as := [.int (V.1 179 l1.toNatClampNeg), .int (V.1 178 l1.toNatClampNeg), .int (1 : Int32)]) (V1 := V5) hG dX12_unknown_31 l_X12_568 y0X12_call yvX12_call rfl (Nat.le_of_ble_eq_true rfl) lay_146 kr_12 (by decide) (Nat.le_of_ble_eq_true rfl) rfl rfl rfl (t_X12_call hG ⟨rfl, rfl⟩ g6) ?_
    exact sv_vret (pc := 34) dX12_unknown_34 rfl h hP
  · have h := sx_neg c2 h
    refine sx_aload_n (pc := 9) dX12_unknown_9 sx_m0 ?_
    refine sx_iconst (pc := 10) (v := 3) dX12_unknown_10 (by decide) ?_
    obtain ⟨V7, g8, h⟩ := sx_bnd h
    refine sv_cV (pc := 11) (y := qX12_fail) (o := none) (as := [.int (3 : Int32)]) (V1 := V7) hG dX12_unknown_11 l_X12_421 y0X12_fail yvX12_fail rfl (Nat.le_of_ble_eq_true rfl) lay_146 kr_12 (by decide) (Nat.le_of_ble_eq_true rfl) rfl rfl rfl (t_X12_fail hG ⟨rfl, rfl⟩ g8) ?_
    refine sx_goto (pc := 14) (tgt := 34) dX12_unknown_14 (by decide) ?_
    exact sv_vret (pc := 34) dX12_unknown_34 rfl h hP
theorem dX12_isZone_0 : decode cX12_isZone 0 = .ok (.iload_n 1, 1) := by decide +kernel
theorem dX12_isZone_1 : decode cX12_isZone 1 = .ok (.iconst 1, 1) := by decide +kernel
theorem dX12_isZone_2 : decode cX12_isZone 2 = .ok (.if_icmp .eq 15, 3) := by decide +kernel
theorem dX12_isZone_5 : decode cX12_isZone 5 = .ok (.iload_n 1, 1) := by decide +kernel
theorem dX12_isZone_6 : decode cX12_isZone 6 = .ok (.ifCond .ne 15, 3) := by decide +kernel
theorem dX12_isZone_9 : decode cX12_isZone 9 = .ok (.aload_n 0, 1) := by decide +kernel
theorem dX12_isZone_10 : decode cX12_isZone 10 = .ok (.getfield 313, 3) := by decide +kernel
theorem dX12_isZone_13 : decode cX12_isZone 13 = .ok (.iconst 2, 1) := by decide +kernel
theorem dX12_isZone_14 : decode cX12_isZone 14 = .ok (.if_icmp .ne 7, 3) := by decide +kernel
theorem dX12_isZone_17 : decode cX12_isZone 17 = .ok (.iconst 1, 1) := by decide +kernel
theorem dX12_isZone_18 : decode cX12_isZone 18 = .ok (.goto 4, 3) := by decide +kernel
theorem dX12_isZone_21 : decode cX12_isZone 21 = .ok (.iconst 0, 1) := by decide +kernel
theorem dX12_isZone_22 : decode cX12_isZone 22 = .ok (.ireturn, 1) := by decide +kernel
def B_X12_isZone_17   (V : sv_V) : Option (Int32 × sv_V) := some ((1 : Int32), V)
set_option maxRecDepth 20000 in
theorem tB_X12_isZone_17 {g : sx_G} (hG : sx_Go g) {P : Option Value → sv_V → Prop} {r : Int32} {Vr : sv_V} (hP : P (some (.int r)) Vr)    {V : sv_V} (h : B_X12_isZone_17   V = some (r, Vr)) : sv_N g qX12_isZone 0 17 [] [] V P := by
  unfold B_X12_isZone_17 at h
  refine sx_iconst (pc := 17) (v := 1) dX12_isZone_17 (by decide) ?_
  refine sx_goto (pc := 18) (tgt := 22) dX12_isZone_18 (by decide) ?_
  exact sv_zret (pc := 22) dX12_isZone_22 rfl rfl h hP
def F_X12_isZone (l1 : Int32) (V : sv_V) : Option (Int32 × sv_V) := if l1 = (1 : Int32) then (B_X12_isZone_17   V) else (if l1 = 0 then (if (V.1 146 13) = (2 : Int32) then (B_X12_isZone_17   V) else (some ((0 : Int32), V))) else (some ((0 : Int32), V)))
set_option maxRecDepth 20000 in
theorem t_X12_isZone {g : sx_G} (hG : sx_Go g) {P : Option Value → sv_V → Prop} {r : Int32} {Vr : sv_V} (hP : P (some (.int r)) Vr) {l1 : Int32} {V : sv_V} (h : F_X12_isZone l1 V = some (r, Vr)) : sv_N g qX12_isZone 0 0 [(0, .ref 146), (1, .int l1)] [] V P := by
  unfold F_X12_isZone at h
  refine sx_iload_n (pc := 0) dX12_isZone_0 sx_m1 ?_
  refine sx_iconst (pc := 1) (v := 1) dX12_isZone_1 (by decide) ?_
  refine sx_icmp_eq (pc := 2) (tgt := 17) dX12_isZone_2 (by decide) (fun c1 => ?_) (fun c1 => ?_)
  · have h := sx_pos c1 h
    refine sx_wk sx_s0 ?_
    exact tB_X12_isZone_17 hG hP  h
  · have h := sx_neg c1 h
    refine sx_iload_n (pc := 5) dX12_isZone_5 sx_m1 ?_
    refine sx_if_ne (pc := 6) (tgt := 21) dX12_isZone_6 (by decide) (fun c2 => ?_) (fun c2 => ?_)
    · have h := sx_neg c2 h
      refine sx_iconst (pc := 21) (v := 0) dX12_isZone_21 (by decide) ?_
      exact sv_zret (pc := 22) dX12_isZone_22 rfl rfl h hP
    · have h := sx_pos c2 h
      refine sx_aload_n (pc := 9) dX12_isZone_9 sx_m0 ?_
      refine sv_getI (pc := 10) hG dX12_isZone_10 f_12_313 lay_146 rfl ?_
      refine sx_iconst (pc := 13) (v := 2) dX12_isZone_13 (by decide) ?_
      refine sx_icmp_ne (pc := 14) (tgt := 21) dX12_isZone_14 (by decide) (fun c3 => ?_) (fun c3 => ?_)
      · have h := sx_neg c3 h
        refine sx_iconst (pc := 21) (v := 0) dX12_isZone_21 (by decide) ?_
        exact sv_zret (pc := 22) dX12_isZone_22 rfl rfl h hP
      · have h := sx_pos c3 h
        refine sx_wk sx_s0 ?_
        exact tB_X12_isZone_17 hG hP  h
theorem dX12_setZone_0 : decode cX12_setZone 0 = .ok (.aload_n 0, 1) := by decide +kernel
theorem dX12_setZone_1 : decode cX12_setZone 1 = .ok (.iconst 1, 1) := by decide +kernel
theorem dX12_setZone_2 : decode cX12_setZone 2 = .ok (.invokevirtual 576, 3) := by decide +kernel
theorem dX12_setZone_5 : decode cX12_setZone 5 = .ok (.ifCond .ne 4, 3) := by decide +kernel
theorem dX12_setZone_8 : decode cX12_setZone 8 = .ok (.return_, 1) := by decide +kernel
theorem dX12_setZone_9 : decode cX12_setZone 9 = .ok (.aload_n 0, 1) := by decide +kernel
theorem dX12_setZone_10 : decode cX12_setZone 10 = .ok (.invokevirtual 579, 3) := by decide +kernel
theorem dX12_setZone_13 : decode cX12_setZone 13 = .ok (.istore_n 2, 1) := by decide +kernel
theorem dX12_setZone_14 : decode cX12_setZone 14 = .ok (.aload_n 0, 1) := by decide +kernel
theorem dX12_setZone_15 : decode cX12_setZone 15 = .ok (.iload_n 2, 1) := by decide +kernel
theorem dX12_setZone_16 : decode cX12_setZone 16 = .ok (.invokevirtual 624, 3) := by decide +kernel
theorem dX12_setZone_19 : decode cX12_setZone 19 = .ok (.ifCond .ne 9, 3) := by decide +kernel
theorem dX12_setZone_22 : decode cX12_setZone 22 = .ok (.aload_n 0, 1) := by decide +kernel
theorem dX12_setZone_23 : decode cX12_setZone 23 = .ok (.iconst 5, 1) := by decide +kernel
theorem dX12_setZone_24 : decode cX12_setZone 24 = .ok (.invokevirtual 421, 3) := by decide +kernel
theorem dX12_setZone_27 : decode cX12_setZone 27 = .ok (.return_, 1) := by decide +kernel
theorem dX12_setZone_28 : decode cX12_setZone 28 = .ok (.aload_n 0, 1) := by decide +kernel
theorem dX12_setZone_29 : decode cX12_setZone 29 = .ok (.iload_n 1, 1) := by decide +kernel
theorem dX12_setZone_30 : decode cX12_setZone 30 = .ok (.bipush 19, 2) := by decide +kernel
theorem dX12_setZone_32 : decode cX12_setZone 32 = .ok (.if_icmp .eq 9, 3) := by decide +kernel
theorem dX12_setZone_35 : decode cX12_setZone 35 = .ok (.iload_n 1, 1) := by decide +kernel
theorem dX12_setZone_36 : decode cX12_setZone 36 = .ok (.bipush 22, 2) := by decide +kernel
theorem dX12_setZone_38 : decode cX12_setZone 38 = .ok (.if_icmp .ne 7, 3) := by decide +kernel
theorem dX12_setZone_41 : decode cX12_setZone 41 = .ok (.iload_n 2, 1) := by decide +kernel
theorem dX12_setZone_42 : decode cX12_setZone 42 = .ok (.goto 7, 3) := by decide +kernel
theorem dX12_setZone_45 : decode cX12_setZone 45 = .ok (.aload_n 0, 1) := by decide +kernel
theorem dX12_setZone_46 : decode cX12_setZone 46 = .ok (.getfield 460, 3) := by decide +kernel
theorem dX12_setZone_49 : decode cX12_setZone 49 = .ok (.putfield 460, 3) := by decide +kernel
theorem dX12_setZone_52 : decode cX12_setZone 52 = .ok (.aload_n 0, 1) := by decide +kernel
theorem dX12_setZone_53 : decode cX12_setZone 53 = .ok (.iload_n 1, 1) := by decide +kernel
theorem dX12_setZone_54 : decode cX12_setZone 54 = .ok (.bipush 20, 2) := by decide +kernel
theorem dX12_setZone_56 : decode cX12_setZone 56 = .ok (.if_icmp .eq 9, 3) := by decide +kernel
theorem dX12_setZone_59 : decode cX12_setZone 59 = .ok (.iload_n 1, 1) := by decide +kernel
theorem dX12_setZone_60 : decode cX12_setZone 60 = .ok (.bipush 22, 2) := by decide +kernel
theorem dX12_setZone_62 : decode cX12_setZone 62 = .ok (.if_icmp .ne 7, 3) := by decide +kernel
theorem dX12_setZone_65 : decode cX12_setZone 65 = .ok (.iload_n 2, 1) := by decide +kernel
theorem dX12_setZone_66 : decode cX12_setZone 66 = .ok (.goto 7, 3) := by decide +kernel
theorem dX12_setZone_69 : decode cX12_setZone 69 = .ok (.aload_n 0, 1) := by decide +kernel
theorem dX12_setZone_70 : decode cX12_setZone 70 = .ok (.getfield 463, 3) := by decide +kernel
theorem dX12_setZone_73 : decode cX12_setZone 73 = .ok (.putfield 463, 3) := by decide +kernel
theorem dX12_setZone_76 : decode cX12_setZone 76 = .ok (.aload_n 0, 1) := by decide +kernel
theorem dX12_setZone_77 : decode cX12_setZone 77 = .ok (.iload_n 1, 1) := by decide +kernel
theorem dX12_setZone_78 : decode cX12_setZone 78 = .ok (.bipush 21, 2) := by decide +kernel
theorem dX12_setZone_80 : decode cX12_setZone 80 = .ok (.if_icmp .eq 9, 3) := by decide +kernel
theorem dX12_setZone_83 : decode cX12_setZone 83 = .ok (.iload_n 1, 1) := by decide +kernel
theorem dX12_setZone_84 : decode cX12_setZone 84 = .ok (.bipush 22, 2) := by decide +kernel
theorem dX12_setZone_86 : decode cX12_setZone 86 = .ok (.if_icmp .ne 7, 3) := by decide +kernel
theorem dX12_setZone_89 : decode cX12_setZone 89 = .ok (.iload_n 2, 1) := by decide +kernel
theorem dX12_setZone_90 : decode cX12_setZone 90 = .ok (.goto 7, 3) := by decide +kernel
theorem dX12_setZone_93 : decode cX12_setZone 93 = .ok (.aload_n 0, 1) := by decide +kernel
theorem dX12_setZone_94 : decode cX12_setZone 94 = .ok (.getfield 466, 3) := by decide +kernel
theorem dX12_setZone_97 : decode cX12_setZone 97 = .ok (.putfield 466, 3) := by decide +kernel
theorem dX12_setZone_100 : decode cX12_setZone 100 = .ok (.return_, 1) := by decide +kernel
def B_X12_setZone_89  (l2 : Int32) (V : sv_V) : Option sv_V := sx_let (sv_I V 146 74 l2) (fun V1 => some V1)
set_option maxRecDepth 20000 in
theorem tB_X12_setZone_89 {g : sx_G} (hG : sx_Go g) {P : Option Value → sv_V → Prop} {Vr : sv_V} (hP : P none Vr)   {l2 : Int32} {V : sv_V} (h : B_X12_setZone_89  l2 V = some Vr) : sv_N g qX12_setZone 2 89 [(2, .int l2)] [.ref 146] V P := by
  unfold B_X12_setZone_89 at h
  refine sx_iload_n (pc := 89) dX12_setZone_89 sx_m0 ?_
  refine sx_goto (pc := 90) (tgt := 97) dX12_setZone_90 (by decide) ?_
  obtain ⟨V1, hV1⟩ : ∃ z : sv_V, z = sv_I V 146 74 l2 := ⟨_, rfl⟩
  have h := sx_letE hV1 h
  refine sv_putI (pc := 97) hG dX12_setZone_97 f_12_466 lay_146 rfl hV1 ?_
  exact sv_vret (pc := 100) dX12_setZone_100 rfl h hP
def B_X12_setZone_73  (l1 : Int32) (l2 : Int32) (s1 : Int32) (V : sv_V) : Option sv_V := sx_let (sv_I V 146 73 s1) (fun V2 => if l1 = (21 : Int32) then (B_X12_setZone_89  l2 V2) else (if l1 = (22 : Int32) then (B_X12_setZone_89  l2 V2) else (sx_let (sv_I V2 146 74 (V2.1 146 74)) (fun V5 => some V5))))
set_option maxRecDepth 20000 in
theorem tB_X12_setZone_73 {g : sx_G} (hG : sx_Go g) {P : Option Value → sv_V → Prop} {Vr : sv_V} (hP : P none Vr)   {l1 : Int32} {l2 : Int32} {s1 : Int32} {V : sv_V} (h : B_X12_setZone_73  l1 l2 s1 V = some Vr) : sv_N g qX12_setZone 2 73 [(0, .ref 146), (1, .int l1), (2, .int l2)] [.int s1, .ref 146] V P := by
  unfold B_X12_setZone_73 at h
  obtain ⟨V2, hV2⟩ : ∃ z : sv_V, z = sv_I V 146 73 s1 := ⟨_, rfl⟩
  have h := sx_letE hV2 h
  refine sv_putI (pc := 73) hG dX12_setZone_73 f_12_463 lay_146 rfl hV2 ?_
  refine sx_aload_n (pc := 76) dX12_setZone_76 sx_m0 ?_
  refine sx_iload_n (pc := 77) dX12_setZone_77 sx_m1 ?_
  refine sx_bipush (pc := 78) (v := 21) dX12_setZone_78 (by decide) ?_
  refine sx_icmp_eq (pc := 80) (tgt := 89) dX12_setZone_80 (by decide) (fun c3 => ?_) (fun c3 => ?_)
  · have h := sx_pos c3 h
    refine sx_wk (sx_s1 sx_m2 sx_s0) ?_
    exact tB_X12_setZone_89 hG hP  h
  · have h := sx_neg c3 h
    refine sx_iload_n (pc := 83) dX12_setZone_83 sx_m1 ?_
    refine sx_bipush (pc := 84) (v := 22) dX12_setZone_84 (by decide) ?_
    refine sx_icmp_ne (pc := 86) (tgt := 93) dX12_setZone_86 (by decide) (fun c4 => ?_) (fun c4 => ?_)
    · have h := sx_neg c4 h
      refine sx_aload_n (pc := 93) dX12_setZone_93 sx_m0 ?_
      refine sv_getI (pc := 94) hG dX12_setZone_94 f_12_466 lay_146 rfl ?_
      obtain ⟨V5, hV5⟩ : ∃ z : sv_V, z = sv_I V2 146 74 (V2.1 146 74) := ⟨_, rfl⟩
      have h := sx_letE hV5 h
      refine sv_putI (pc := 97) hG dX12_setZone_97 f_12_466 lay_146 rfl hV5 ?_
      exact sv_vret (pc := 100) dX12_setZone_100 rfl h hP
    · have h := sx_pos c4 h
      refine sx_wk (sx_s1 sx_m2 sx_s0) ?_
      exact tB_X12_setZone_89 hG hP  h
def B_X12_setZone_65  (l1 : Int32) (l2 : Int32) (V : sv_V) : Option sv_V := B_X12_setZone_73  l1 l2 l2 V
set_option maxRecDepth 20000 in
theorem tB_X12_setZone_65 {g : sx_G} (hG : sx_Go g) {P : Option Value → sv_V → Prop} {Vr : sv_V} (hP : P none Vr)   {l1 : Int32} {l2 : Int32} {V : sv_V} (h : B_X12_setZone_65  l1 l2 V = some Vr) : sv_N g qX12_setZone 2 65 [(0, .ref 146), (1, .int l1), (2, .int l2)] [.ref 146] V P := by
  unfold B_X12_setZone_65 at h
  refine sx_iload_n (pc := 65) dX12_setZone_65 sx_m2 ?_
  refine sx_goto (pc := 66) (tgt := 73) dX12_setZone_66 (by decide) ?_
  refine sx_wk (sx_s1 sx_m0 (sx_s1 sx_m1 (sx_s1 sx_m2 sx_s0))) ?_
  exact tB_X12_setZone_73 hG hP  h
def B_X12_setZone_49  (l1 : Int32) (l2 : Int32) (s1 : Int32) (V : sv_V) : Option sv_V := sx_let (sv_I V 146 72 s1) (fun V6 => if l1 = (20 : Int32) then (B_X12_setZone_65  l1 l2 V6) else (if l1 = (22 : Int32) then (B_X12_setZone_65  l1 l2 V6) else (B_X12_setZone_73  l1 l2 (V6.1 146 73) V6)))
set_option maxRecDepth 20000 in
theorem tB_X12_setZone_49 {g : sx_G} (hG : sx_Go g) {P : Option Value → sv_V → Prop} {Vr : sv_V} (hP : P none Vr)   {l1 : Int32} {l2 : Int32} {s1 : Int32} {V : sv_V} (h : B_X12_setZone_49  l1 l2 s1 V = some Vr) : sv_N g qX12_setZone 2 49 [(0, .ref 146), (1, .int l1), (2, .int l2)] [.int s1, .ref 146] V P := by
  unfold B_X12_setZone_49 at h
  obtain ⟨V6, hV6⟩ : ∃ z : sv_V, z = sv_I V 146 72 s1 := ⟨_, rfl⟩
  have h := sx_letE hV6 h
  refine sv_putI (pc := 49) hG dX12_setZone_49 f_12_460 lay_146 rfl hV6 ?_
  refine sx_aload_n (pc := 52) dX12_setZone_52 sx_m0 ?_
  refine sx_iload_n (pc := 53) dX12_setZone_53 sx_m1 ?_
  refine sx_bipush (pc := 54) (v := 20) dX12_setZone_54 (by decide) ?_
  refine sx_icmp_eq (pc := 56) (tgt := 65) dX12_setZone_56 (by decide) (fun c7 => ?_) (fun c7 => ?_)
  · have h := sx_pos c7 h
    refine sx_wk (sx_s1 sx_m0 (sx_s1 sx_m1 (sx_s1 sx_m2 sx_s0))) ?_
    exact tB_X12_setZone_65 hG hP  h
  · have h := sx_neg c7 h
    refine sx_iload_n (pc := 59) dX12_setZone_59 sx_m1 ?_
    refine sx_bipush (pc := 60) (v := 22) dX12_setZone_60 (by decide) ?_
    refine sx_icmp_ne (pc := 62) (tgt := 69) dX12_setZone_62 (by decide) (fun c8 => ?_) (fun c8 => ?_)
    · have h := sx_neg c8 h
      refine sx_aload_n (pc := 69) dX12_setZone_69 sx_m0 ?_
      refine sv_getI (pc := 70) hG dX12_setZone_70 f_12_463 lay_146 rfl ?_
      refine sx_wk (sx_s1 sx_m0 (sx_s1 sx_m1 (sx_s1 sx_m2 sx_s0))) ?_
      exact tB_X12_setZone_73 hG hP  h
    · have h := sx_pos c8 h
      refine sx_wk (sx_s1 sx_m0 (sx_s1 sx_m1 (sx_s1 sx_m2 sx_s0))) ?_
      exact tB_X12_setZone_65 hG hP  h
def B_X12_setZone_41  (l1 : Int32) (l2 : Int32) (V : sv_V) : Option sv_V := B_X12_setZone_49  l1 l2 l2 V
set_option maxRecDepth 20000 in
theorem tB_X12_setZone_41 {g : sx_G} (hG : sx_Go g) {P : Option Value → sv_V → Prop} {Vr : sv_V} (hP : P none Vr)   {l1 : Int32} {l2 : Int32} {V : sv_V} (h : B_X12_setZone_41  l1 l2 V = some Vr) : sv_N g qX12_setZone 2 41 [(0, .ref 146), (1, .int l1), (2, .int l2)] [.ref 146] V P := by
  unfold B_X12_setZone_41 at h
  refine sx_iload_n (pc := 41) dX12_setZone_41 sx_m2 ?_
  refine sx_goto (pc := 42) (tgt := 49) dX12_setZone_42 (by decide) ?_
  refine sx_wk (sx_s1 sx_m0 (sx_s1 sx_m1 (sx_s1 sx_m2 sx_s0))) ?_
  exact tB_X12_setZone_49 hG hP  h
def F_X12_setZone (l1 : Int32) (V : sv_V) : Option sv_V := (F_X12_has (1 : Int32) V).bind (fun (x11, V9) => if x11 = 0 then (some V9) else ((F_X12_pop  V9).bind (fun (x15, V13) => (F_X12_isZone x15 V13).bind (fun (x18, V16) => if x18 = 0 then ((F_X12_fail (5 : Int32) V16).bind (fun V22 => some V22)) else (if l1 = (19 : Int32) then (B_X12_setZone_41  l1 x15 V16) else (if l1 = (22 : Int32) then (B_X12_setZone_41  l1 x15 V16) else (B_X12_setZone_49  l1 x15 (V16.1 146 72) V16)))))))
set_option maxRecDepth 20000 in
theorem t_X12_setZone {g : sx_G} (hG : sx_Go g) {P : Option Value → sv_V → Prop} {Vr : sv_V} (hP : P none Vr) {l1 : Int32} {V : sv_V} (h : F_X12_setZone l1 V = some Vr) : sv_N g qX12_setZone 2 0 [(0, .ref 146), (1, .int l1)] [] V P := by
  unfold F_X12_setZone at h
  refine sx_aload_n (pc := 0) dX12_setZone_0 sx_m0 ?_
  refine sx_iconst (pc := 1) (v := 1) dX12_setZone_1 (by decide) ?_
  obtain ⟨⟨x11, V9⟩, g10, h⟩ := sx_bnd h
  refine sv_cV (pc := 2) (y := qX12_has) (o := (some (.int x11))) (as := [.int (1 : Int32)]) (V1 := V9) hG dX12_setZone_2 l_X12_576 y0X12_has yvX12_has rfl (Nat.le_of_ble_eq_true rfl) lay_146 kr_12 (by decide) (Nat.le_of_ble_eq_true rfl) rfl rfl rfl (t_X12_has hG ⟨rfl, rfl⟩ g10) ?_
  refine sx_if_ne (pc := 5) (tgt := 9) dX12_setZone_5 (by decide) (fun c12 => ?_) (fun c12 => ?_)
  · have h := sx_neg c12 h
    refine sx_aload_n (pc := 9) dX12_setZone_9 sx_m0 ?_
    obtain ⟨⟨x15, V13⟩, g14, h⟩ := sx_bnd h
    refine sv_cV (pc := 10) (y := qX12_pop) (o := (some (.int x15))) (as := []) (V1 := V13) hG dX12_setZone_10 l_X12_579 y0X12_pop yvX12_pop rfl (Nat.le_of_ble_eq_true rfl) lay_146 kr_12 (by decide) (Nat.le_of_ble_eq_true rfl) rfl rfl rfl (t_X12_pop hG ⟨rfl, rfl⟩ g14) ?_
    refine sx_istore_n (pc := 13) (lo' := [(2, .int x15), (0, .ref 146), (1, .int l1)]) dX12_setZone_13 (by decide) rfl ?_
    refine sx_aload_n (pc := 14) dX12_setZone_14 sx_m1 ?_
    refine sx_iload_n (pc := 15) dX12_setZone_15 sx_m0 ?_
    obtain ⟨⟨x18, V16⟩, g17, h⟩ := sx_bnd h
    refine sv_cV (pc := 16) (y := qX12_isZone) (o := (some (.int x18))) (as := [.int x15]) (V1 := V16) hG dX12_setZone_16 l_X12_624 y0X12_isZone yvX12_isZone rfl (Nat.le_of_ble_eq_true rfl) lay_146 kr_12 (by decide) (Nat.le_of_ble_eq_true rfl) rfl rfl rfl (t_X12_isZone hG ⟨rfl, rfl⟩ g17) ?_
    refine sx_if_ne (pc := 19) (tgt := 28) dX12_setZone_19 (by decide) (fun c19 => ?_) (fun c19 => ?_)
    · have h := sx_neg c19 h
      refine sx_aload_n (pc := 28) dX12_setZone_28 sx_m1 ?_
      refine sx_iload_n (pc := 29) dX12_setZone_29 sx_m2 ?_
      refine sx_bipush (pc := 30) (v := 19) dX12_setZone_30 (by decide) ?_
      refine sx_icmp_eq (pc := 32) (tgt := 41) dX12_setZone_32 (by decide) (fun c20 => ?_) (fun c20 => ?_)
      · have h := sx_pos c20 h
        refine sx_wk (sx_s1 sx_m1 (sx_s1 sx_m2 (sx_s1 sx_m0 sx_s0))) ?_
        exact tB_X12_setZone_41 hG hP  h
      · have h := sx_neg c20 h
        refine sx_iload_n (pc := 35) dX12_setZone_35 sx_m2 ?_
        refine sx_bipush (pc := 36) (v := 22) dX12_setZone_36 (by decide) ?_
        refine sx_icmp_ne (pc := 38) (tgt := 45) dX12_setZone_38 (by decide) (fun c21 => ?_) (fun c21 => ?_)
        · have h := sx_neg c21 h
          refine sx_aload_n (pc := 45) dX12_setZone_45 sx_m1 ?_
          refine sv_getI (pc := 46) hG dX12_setZone_46 f_12_460 lay_146 rfl ?_
          refine sx_wk (sx_s1 sx_m1 (sx_s1 sx_m2 (sx_s1 sx_m0 sx_s0))) ?_
          exact tB_X12_setZone_49 hG hP  h
        · have h := sx_pos c21 h
          refine sx_wk (sx_s1 sx_m1 (sx_s1 sx_m2 (sx_s1 sx_m0 sx_s0))) ?_
          exact tB_X12_setZone_41 hG hP  h
    · have h := sx_pos c19 h
      refine sx_aload_n (pc := 22) dX12_setZone_22 sx_m1 ?_
      refine sx_iconst (pc := 23) (v := 5) dX12_setZone_23 (by decide) ?_
      obtain ⟨V22, g23, h⟩ := sx_bnd h
      refine sv_cV (pc := 24) (y := qX12_fail) (o := none) (as := [.int (5 : Int32)]) (V1 := V22) hG dX12_setZone_24 l_X12_421 y0X12_fail yvX12_fail rfl (Nat.le_of_ble_eq_true rfl) lay_146 kr_12 (by decide) (Nat.le_of_ble_eq_true rfl) rfl rfl rfl (t_X12_fail hG ⟨rfl, rfl⟩ g23) ?_
      exact sv_vret (pc := 27) dX12_setZone_27 rfl h hP
  · have h := sx_pos c12 h
    exact sv_vret (pc := 8) dX12_setZone_8 rfl h hP
theorem dX12_callFunction_0 : decode cX12_callFunction 0 = .ok (.aload_n 0, 1) := by decide +kernel
theorem dX12_callFunction_1 : decode cX12_callFunction 1 = .ok (.iload_n 1, 1) := by decide +kernel
theorem dX12_callFunction_2 : decode cX12_callFunction 2 = .ok (.ifCond .eq 7, 3) := by decide +kernel
theorem dX12_callFunction_5 : decode cX12_callFunction 5 = .ok (.iconst 2, 1) := by decide +kernel
theorem dX12_callFunction_6 : decode cX12_callFunction 6 = .ok (.goto 4, 3) := by decide +kernel
theorem dX12_callFunction_9 : decode cX12_callFunction 9 = .ok (.iconst 1, 1) := by decide +kernel
theorem dX12_callFunction_10 : decode cX12_callFunction 10 = .ok (.invokevirtual 576, 3) := by decide +kernel
theorem dX12_callFunction_13 : decode cX12_callFunction 13 = .ok (.ifCond .ne 4, 3) := by decide +kernel
theorem dX12_callFunction_16 : decode cX12_callFunction 16 = .ok (.return_, 1) := by decide +kernel
theorem dX12_callFunction_17 : decode cX12_callFunction 17 = .ok (.aload_n 0, 1) := by decide +kernel
theorem dX12_callFunction_18 : decode cX12_callFunction 18 = .ok (.invokevirtual 579, 3) := by decide +kernel
theorem dX12_callFunction_21 : decode cX12_callFunction 21 = .ok (.istore_n 2, 1) := by decide +kernel
theorem dX12_callFunction_22 : decode cX12_callFunction 22 = .ok (.iload_n 1, 1) := by decide +kernel
theorem dX12_callFunction_23 : decode cX12_callFunction 23 = .ok (.ifCond .eq 10, 3) := by decide +kernel
theorem dX12_callFunction_26 : decode cX12_callFunction 26 = .ok (.aload_n 0, 1) := by decide +kernel
theorem dX12_callFunction_27 : decode cX12_callFunction 27 = .ok (.invokevirtual 579, 3) := by decide +kernel
theorem dX12_callFunction_30 : decode cX12_callFunction 30 = .ok (.goto 4, 3) := by decide +kernel
theorem dX12_callFunction_33 : decode cX12_callFunction 33 = .ok (.iconst 1, 1) := by decide +kernel
theorem dX12_callFunction_34 : decode cX12_callFunction 34 = .ok (.istore_n 3, 1) := by decide +kernel
theorem dX12_callFunction_35 : decode cX12_callFunction 35 = .ok (.iload_n 2, 1) := by decide +kernel
theorem dX12_callFunction_36 : decode cX12_callFunction 36 = .ok (.ifCond .lt 20, 3) := by decide +kernel
theorem dX12_callFunction_39 : decode cX12_callFunction 39 = .ok (.iload_n 2, 1) := by decide +kernel
theorem dX12_callFunction_40 : decode cX12_callFunction 40 = .ok (.aload_n 0, 1) := by decide +kernel
theorem dX12_callFunction_41 : decode cX12_callFunction 41 = .ok (.getfield 322, 3) := by decide +kernel
theorem dX12_callFunction_44 : decode cX12_callFunction 44 = .ok (.if_icmp .ge 12, 3) := by decide +kernel
theorem dX12_callFunction_47 : decode cX12_callFunction 47 = .ok (.aload_n 0, 1) := by decide +kernel
theorem dX12_callFunction_48 : decode cX12_callFunction 48 = .ok (.getfield 100, 3) := by decide +kernel
theorem dX12_callFunction_51 : decode cX12_callFunction 51 = .ok (.iload_n 2, 1) := by decide +kernel
theorem dX12_callFunction_52 : decode cX12_callFunction 52 = .ok (.iaload, 1) := by decide +kernel
theorem dX12_callFunction_53 : decode cX12_callFunction 53 = .ok (.ifCond .ge 12, 3) := by decide +kernel
theorem dX12_callFunction_56 : decode cX12_callFunction 56 = .ok (.aload_n 0, 1) := by decide +kernel
theorem dX12_callFunction_57 : decode cX12_callFunction 57 = .ok (.bipush 6, 2) := by decide +kernel
theorem dX12_callFunction_59 : decode cX12_callFunction 59 = .ok (.invokevirtual 421, 3) := by decide +kernel
theorem dX12_callFunction_62 : decode cX12_callFunction 62 = .ok (.goto 24, 3) := by decide +kernel
theorem dX12_callFunction_65 : decode cX12_callFunction 65 = .ok (.iload_n 3, 1) := by decide +kernel
theorem dX12_callFunction_66 : decode cX12_callFunction 66 = .ok (.ifCond .le 20, 3) := by decide +kernel
theorem dX12_callFunction_69 : decode cX12_callFunction 69 = .ok (.aload_n 0, 1) := by decide +kernel
theorem dX12_callFunction_70 : decode cX12_callFunction 70 = .ok (.aload_n 0, 1) := by decide +kernel
theorem dX12_callFunction_71 : decode cX12_callFunction 71 = .ok (.getfield 103, 3) := by decide +kernel
theorem dX12_callFunction_74 : decode cX12_callFunction 74 = .ok (.iload_n 2, 1) := by decide +kernel
theorem dX12_callFunction_75 : decode cX12_callFunction 75 = .ok (.iaload, 1) := by decide +kernel
theorem dX12_callFunction_76 : decode cX12_callFunction 76 = .ok (.aload_n 0, 1) := by decide +kernel
theorem dX12_callFunction_77 : decode cX12_callFunction 77 = .ok (.getfield 100, 3) := by decide +kernel
theorem dX12_callFunction_80 : decode cX12_callFunction 80 = .ok (.iload_n 2, 1) := by decide +kernel
theorem dX12_callFunction_81 : decode cX12_callFunction 81 = .ok (.iaload, 1) := by decide +kernel
theorem dX12_callFunction_82 : decode cX12_callFunction 82 = .ok (.iload_n 3, 1) := by decide +kernel
theorem dX12_callFunction_83 : decode cX12_callFunction 83 = .ok (.invokevirtual 568, 3) := by decide +kernel
theorem dX12_callFunction_86 : decode cX12_callFunction 86 = .ok (.return_, 1) := by decide +kernel
def B_X12_callFunction_56   (V : sv_V) : Option sv_V := (F_X12_fail (6 : Int32) V).bind (fun V1 => some V1)
set_option maxRecDepth 20000 in
theorem tB_X12_callFunction_56 {g : sx_G} (hG : sx_Go g) {P : Option Value → sv_V → Prop} {Vr : sv_V} (hP : P none Vr)    {V : sv_V} (h : B_X12_callFunction_56   V = some Vr) : sv_N g qX12_callFunction 2 56 [(0, .ref 146)] [] V P := by
  unfold B_X12_callFunction_56 at h
  refine sx_aload_n (pc := 56) dX12_callFunction_56 sx_m0 ?_
  refine sx_bipush (pc := 57) (v := 6) dX12_callFunction_57 (by decide) ?_
  obtain ⟨V1, g2, h⟩ := sx_bnd h
  refine sv_cV (pc := 59) (y := qX12_fail) (o := none) (as := [.int (6 : Int32)]) (V1 := V1) hG dX12_callFunction_59 l_X12_421 y0X12_fail yvX12_fail rfl (Nat.le_of_ble_eq_true rfl) lay_146 kr_12 (by decide) (Nat.le_of_ble_eq_true rfl) rfl rfl rfl (t_X12_fail hG ⟨rfl, rfl⟩ g2) ?_
  refine sx_goto (pc := 62) (tgt := 86) dX12_callFunction_62 (by decide) ?_
  exact sv_vret (pc := 86) dX12_callFunction_86 rfl h hP
def B_X12_callFunction_34  (l2 : Int32) (s0 : Int32) (V : sv_V) : Option sv_V := if l2 < 0 then (B_X12_callFunction_56   V) else (if (V.1 146 16) ≤ l2 then (B_X12_callFunction_56   V) else (if sx_in l2 64 = true then if 0 ≤ (V.1 176 l2.toNatClampNeg) then (if s0 ≤ 0 then (some V) else (if sx_in l2 64 = true then if sx_in l2 64 = true then (F_X12_call (V.1 177 l2.toNatClampNeg) (V.1 176 l2.toNatClampNeg) s0 V).bind (fun V10 => some V10) else none else none)) else (B_X12_callFunction_56   V) else none))
set_option maxRecDepth 20000 in
theorem tB_X12_callFunction_34 {g : sx_G} (hG : sx_Go g) {P : Option Value → sv_V → Prop} {Vr : sv_V} (hP : P none Vr)   {l2 : Int32} {s0 : Int32} {V : sv_V} (h : B_X12_callFunction_34  l2 s0 V = some Vr) : sv_N g qX12_callFunction 2 34 [(0, .ref 146), (2, .int l2)] [.int s0] V P := by
  unfold B_X12_callFunction_34 at h
  refine sx_istore_n (pc := 34) (lo' := [(3, .int s0), (0, .ref 146), (2, .int l2)]) dX12_callFunction_34 (by decide) rfl ?_
  refine sx_iload_n (pc := 35) dX12_callFunction_35 sx_m2 ?_
  refine sx_if_lt (pc := 36) (tgt := 56) dX12_callFunction_36 (by decide) (fun c3 => ?_) (fun c3 => ?_)
  · have h := sx_pos c3 h
    refine sx_wk (sx_s1 sx_m1 sx_s0) ?_
    exact tB_X12_callFunction_56 hG hP  h
  · have h := sx_neg c3 h
    refine sx_iload_n (pc := 39) dX12_callFunction_39 sx_m2 ?_
    refine sx_aload_n (pc := 40) dX12_callFunction_40 sx_m1 ?_
    refine sv_getI (pc := 41) hG dX12_callFunction_41 f_12_322 lay_146 rfl ?_
    refine sx_icmp_ge (pc := 44) (tgt := 56) dX12_callFunction_44 (by decide) (fun c4 => ?_) (fun c4 => ?_)
    · have h := sx_pos c4 h
      refine sx_wk (sx_s1 sx_m1 sx_s0) ?_
      exact tB_X12_callFunction_56 hG hP  h
    · have h := sx_neg c4 h
      refine sx_aload_n (pc := 47) dX12_callFunction_47 sx_m1 ?_
      refine sv_getA (pc := 48) hG dX12_callFunction_48 f_12_100 lay_146 rfl cr_146_94 ?_
      refine sx_iload_n (pc := 51) dX12_callFunction_51 sx_m2 ?_
      obtain ⟨g5, h⟩ := sx_grd h
      refine sv_iald (pc := 52) hG dX12_callFunction_52 lay_176 g5 ?_
      refine sx_if_ge (pc := 53) (tgt := 65) dX12_callFunction_53 (by decide) (fun c6 => ?_) (fun c6 => ?_)
      · have h := sx_pos c6 h
        refine sx_iload_n (pc := 65) dX12_callFunction_65 sx_m0 ?_
        refine sx_if_le (pc := 66) (tgt := 86) dX12_callFunction_66 (by decide) (fun c7 => ?_) (fun c7 => ?_)
        · have h := sx_pos c7 h
          exact sv_vret (pc := 86) dX12_callFunction_86 rfl h hP
        · have h := sx_neg c7 h
          refine sx_aload_n (pc := 69) dX12_callFunction_69 sx_m1 ?_
          refine sx_aload_n (pc := 70) dX12_callFunction_70 sx_m1 ?_
          refine sv_getA (pc := 71) hG dX12_callFunction_71 f_12_103 lay_146 rfl cr_146_95 ?_
          refine sx_iload_n (pc := 74) dX12_callFunction_74 sx_m2 ?_
          obtain ⟨g8, h⟩ := sx_grd h
          refine sv_iald (pc := 75) hG dX12_callFunction_75 lay_177 g8 ?_
          refine sx_aload_n (pc := 76) dX12_callFunction_76 sx_m1 ?_
          refine sv_getA (pc := 77) hG dX12_callFunction_77 f_12_100 lay_146 rfl cr_146_94 ?_
          refine sx_iload_n (pc := 80) dX12_callFunction_80 sx_m2 ?_
          obtain ⟨g9, h⟩ := sx_grd h
          refine sv_iald (pc := 81) hG dX12_callFunction_81 lay_176 g9 ?_
          refine sx_iload_n (pc := 82) dX12_callFunction_82 sx_m0 ?_
          obtain ⟨V10, g11, h⟩ := sx_bnd h
          refine sv_cV (pc := 83) (y := qX12_call) (o := none) (as := [.int (V.1 177 l2.toNatClampNeg), .int (V.1 176 l2.toNatClampNeg), .int s0]) (V1 := V10) hG dX12_callFunction_83 l_X12_568 y0X12_call yvX12_call rfl (Nat.le_of_ble_eq_true rfl) lay_146 kr_12 (by decide) (Nat.le_of_ble_eq_true rfl) rfl rfl rfl (t_X12_call hG ⟨rfl, rfl⟩ g11) ?_
          exact sv_vret (pc := 86) dX12_callFunction_86 rfl h hP
      · have h := sx_neg c6 h
        refine sx_wk (sx_s1 sx_m1 sx_s0) ?_
        exact tB_X12_callFunction_56 hG hP  h
def B_X12_callFunction_10  (l1 : Int32) (s1 : Int32) (V : sv_V) : Option sv_V := (F_X12_has s1 V).bind (fun (x14, V12) => if x14 = 0 then (some V12) else ((F_X12_pop  V12).bind (fun (x18, V16) => if l1 = 0 then (B_X12_callFunction_34  x18 (1 : Int32) V16) else ((F_X12_pop  V16).bind (fun (x22, V20) => B_X12_callFunction_34  x18 x22 V20)))))
set_option maxRecDepth 20000 in
theorem tB_X12_callFunction_10 {g : sx_G} (hG : sx_Go g) {P : Option Value → sv_V → Prop} {Vr : sv_V} (hP : P none Vr)   {l1 : Int32} {s1 : Int32} {V : sv_V} (h : B_X12_callFunction_10  l1 s1 V = some Vr) : sv_N g qX12_callFunction 2 10 [(0, .ref 146), (1, .int l1)] [.int s1, .ref 146] V P := by
  unfold B_X12_callFunction_10 at h
  obtain ⟨⟨x14, V12⟩, g13, h⟩ := sx_bnd h
  refine sv_cV (pc := 10) (y := qX12_has) (o := (some (.int x14))) (as := [.int s1]) (V1 := V12) hG dX12_callFunction_10 l_X12_576 y0X12_has yvX12_has rfl (Nat.le_of_ble_eq_true rfl) lay_146 kr_12 (by decide) (Nat.le_of_ble_eq_true rfl) rfl rfl rfl (t_X12_has hG ⟨rfl, rfl⟩ g13) ?_
  refine sx_if_ne (pc := 13) (tgt := 17) dX12_callFunction_13 (by decide) (fun c15 => ?_) (fun c15 => ?_)
  · have h := sx_neg c15 h
    refine sx_aload_n (pc := 17) dX12_callFunction_17 sx_m0 ?_
    obtain ⟨⟨x18, V16⟩, g17, h⟩ := sx_bnd h
    refine sv_cV (pc := 18) (y := qX12_pop) (o := (some (.int x18))) (as := []) (V1 := V16) hG dX12_callFunction_18 l_X12_579 y0X12_pop yvX12_pop rfl (Nat.le_of_ble_eq_true rfl) lay_146 kr_12 (by decide) (Nat.le_of_ble_eq_true rfl) rfl rfl rfl (t_X12_pop hG ⟨rfl, rfl⟩ g17) ?_
    refine sx_istore_n (pc := 21) (lo' := [(2, .int x18), (0, .ref 146), (1, .int l1)]) dX12_callFunction_21 (by decide) rfl ?_
    refine sx_iload_n (pc := 22) dX12_callFunction_22 sx_m2 ?_
    refine sx_if_eq (pc := 23) (tgt := 33) dX12_callFunction_23 (by decide) (fun c19 => ?_) (fun c19 => ?_)
    · have h := sx_pos c19 h
      refine sx_iconst (pc := 33) (v := 1) dX12_callFunction_33 (by decide) ?_
      refine sx_wk (sx_s1 sx_m1 (sx_s1 sx_m0 sx_s0)) ?_
      exact tB_X12_callFunction_34 hG hP  h
    · have h := sx_neg c19 h
      refine sx_aload_n (pc := 26) dX12_callFunction_26 sx_m1 ?_
      obtain ⟨⟨x22, V20⟩, g21, h⟩ := sx_bnd h
      refine sv_cV (pc := 27) (y := qX12_pop) (o := (some (.int x22))) (as := []) (V1 := V20) hG dX12_callFunction_27 l_X12_579 y0X12_pop yvX12_pop rfl (Nat.le_of_ble_eq_true rfl) lay_146 kr_12 (by decide) (Nat.le_of_ble_eq_true rfl) rfl rfl rfl (t_X12_pop hG ⟨rfl, rfl⟩ g21) ?_
      refine sx_goto (pc := 30) (tgt := 34) dX12_callFunction_30 (by decide) ?_
      refine sx_wk (sx_s1 sx_m1 (sx_s1 sx_m0 sx_s0)) ?_
      exact tB_X12_callFunction_34 hG hP  h
  · have h := sx_pos c15 h
    exact sv_vret (pc := 16) dX12_callFunction_16 rfl h hP
def F_X12_callFunction (l1 : Int32) (V : sv_V) : Option sv_V := if l1 = 0 then (B_X12_callFunction_10  l1 (1 : Int32) V) else (B_X12_callFunction_10  l1 (2 : Int32) V)
set_option maxRecDepth 20000 in
theorem t_X12_callFunction {g : sx_G} (hG : sx_Go g) {P : Option Value → sv_V → Prop} {Vr : sv_V} (hP : P none Vr) {l1 : Int32} {V : sv_V} (h : F_X12_callFunction l1 V = some Vr) : sv_N g qX12_callFunction 2 0 [(0, .ref 146), (1, .int l1)] [] V P := by
  unfold F_X12_callFunction at h
  refine sx_aload_n (pc := 0) dX12_callFunction_0 sx_m0 ?_
  refine sx_iload_n (pc := 1) dX12_callFunction_1 sx_m1 ?_
  refine sx_if_eq (pc := 2) (tgt := 9) dX12_callFunction_2 (by decide) (fun c23 => ?_) (fun c23 => ?_)
  · have h := sx_pos c23 h
    refine sx_iconst (pc := 9) (v := 1) dX12_callFunction_9 (by decide) ?_
    refine sx_wk (sx_s1 sx_m0 (sx_s1 sx_m1 sx_s0)) ?_
    exact tB_X12_callFunction_10 hG hP  h
  · have h := sx_neg c23 h
    refine sx_iconst (pc := 5) (v := 2) dX12_callFunction_5 (by decide) ?_
    refine sx_goto (pc := 6) (tgt := 10) dX12_callFunction_6 (by decide) ?_
    refine sx_wk (sx_s1 sx_m0 (sx_s1 sx_m1 sx_s0)) ?_
    exact tB_X12_callFunction_10 hG hP  h
theorem dX12_defineFunction_0 : decode cX12_defineFunction 0 = .ok (.aload_n 0, 1) := by decide +kernel
theorem dX12_defineFunction_1 : decode cX12_defineFunction 1 = .ok (.iconst 1, 1) := by decide +kernel
theorem dX12_defineFunction_2 : decode cX12_defineFunction 2 = .ok (.invokevirtual 576, 3) := by decide +kernel
theorem dX12_defineFunction_5 : decode cX12_defineFunction 5 = .ok (.ifCond .ne 4, 3) := by decide +kernel
theorem dX12_defineFunction_8 : decode cX12_defineFunction 8 = .ok (.return_, 1) := by decide +kernel
theorem dX12_defineFunction_9 : decode cX12_defineFunction 9 = .ok (.aload_n 0, 1) := by decide +kernel
theorem dX12_defineFunction_10 : decode cX12_defineFunction 10 = .ok (.invokevirtual 579, 3) := by decide +kernel
theorem dX12_defineFunction_13 : decode cX12_defineFunction 13 = .ok (.istore_n 1, 1) := by decide +kernel
theorem dX12_defineFunction_14 : decode cX12_defineFunction 14 = .ok (.aload_n 0, 1) := by decide +kernel
theorem dX12_defineFunction_15 : decode cX12_defineFunction 15 = .ok (.getfield 493, 3) := by decide +kernel
theorem dX12_defineFunction_18 : decode cX12_defineFunction 18 = .ok (.iconst 2, 1) := by decide +kernel
theorem dX12_defineFunction_19 : decode cX12_defineFunction 19 = .ok (.if_icmp .ne 9, 3) := by decide +kernel
theorem dX12_defineFunction_22 : decode cX12_defineFunction 22 = .ok (.aload_n 0, 1) := by decide +kernel
theorem dX12_defineFunction_23 : decode cX12_defineFunction 23 = .ok (.iconst 3, 1) := by decide +kernel
theorem dX12_defineFunction_24 : decode cX12_defineFunction 24 = .ok (.invokevirtual 421, 3) := by decide +kernel
theorem dX12_defineFunction_27 : decode cX12_defineFunction 27 = .ok (.return_, 1) := by decide +kernel
theorem dX12_defineFunction_28 : decode cX12_defineFunction 28 = .ok (.iload_n 1, 1) := by decide +kernel
theorem dX12_defineFunction_29 : decode cX12_defineFunction 29 = .ok (.ifCond .lt 11, 3) := by decide +kernel
theorem dX12_defineFunction_32 : decode cX12_defineFunction 32 = .ok (.iload_n 1, 1) := by decide +kernel
theorem dX12_defineFunction_33 : decode cX12_defineFunction 33 = .ok (.aload_n 0, 1) := by decide +kernel
theorem dX12_defineFunction_34 : decode cX12_defineFunction 34 = .ok (.getfield 322, 3) := by decide +kernel
theorem dX12_defineFunction_37 : decode cX12_defineFunction 37 = .ok (.if_icmp .lt 10, 3) := by decide +kernel
theorem dX12_defineFunction_40 : decode cX12_defineFunction 40 = .ok (.aload_n 0, 1) := by decide +kernel
theorem dX12_defineFunction_41 : decode cX12_defineFunction 41 = .ok (.bipush 6, 2) := by decide +kernel
theorem dX12_defineFunction_43 : decode cX12_defineFunction 43 = .ok (.invokevirtual 421, 3) := by decide +kernel
theorem dX12_defineFunction_46 : decode cX12_defineFunction 46 = .ok (.return_, 1) := by decide +kernel
theorem dX12_defineFunction_47 : decode cX12_defineFunction 47 = .ok (.aload_n 0, 1) := by decide +kernel
theorem dX12_defineFunction_48 : decode cX12_defineFunction 48 = .ok (.getfield 496, 3) := by decide +kernel
theorem dX12_defineFunction_51 : decode cX12_defineFunction 51 = .ok (.istore_n 2, 1) := by decide +kernel
theorem dX12_defineFunction_52 : decode cX12_defineFunction 52 = .ok (.aload_n 0, 1) := by decide +kernel
theorem dX12_defineFunction_53 : decode cX12_defineFunction 53 = .ok (.getfield 427, 3) := by decide +kernel
theorem dX12_defineFunction_56 : decode cX12_defineFunction 56 = .ok (.istore_n 3, 1) := by decide +kernel
theorem dX12_defineFunction_57 : decode cX12_defineFunction 57 = .ok (.aload_n 0, 1) := by decide +kernel
theorem dX12_defineFunction_58 : decode cX12_defineFunction 58 = .ok (.aload_n 0, 1) := by decide +kernel
theorem dX12_defineFunction_59 : decode cX12_defineFunction 59 = .ok (.aload_n 0, 1) := by decide +kernel
theorem dX12_defineFunction_60 : decode cX12_defineFunction 60 = .ok (.getfield 496, 3) := by decide +kernel
theorem dX12_defineFunction_63 : decode cX12_defineFunction 63 = .ok (.bipush 45, 2) := by decide +kernel
theorem dX12_defineFunction_65 : decode cX12_defineFunction 65 = .ok (.bipush 45, 2) := by decide +kernel
theorem dX12_defineFunction_67 : decode cX12_defineFunction 67 = .ok (.iconst 0, 1) := by decide +kernel
theorem dX12_defineFunction_68 : decode cX12_defineFunction 68 = .ok (.invokevirtual 598, 3) := by decide +kernel
theorem dX12_defineFunction_71 : decode cX12_defineFunction 71 = .ok (.putfield 496, 3) := by decide +kernel
theorem dX12_defineFunction_74 : decode cX12_defineFunction 74 = .ok (.aload_n 0, 1) := by decide +kernel
theorem dX12_defineFunction_75 : decode cX12_defineFunction 75 = .ok (.getfield 409, 3) := by decide +kernel
theorem dX12_defineFunction_78 : decode cX12_defineFunction 78 = .ok (.ifCond .ne 17, 3) := by decide +kernel
theorem dX12_defineFunction_81 : decode cX12_defineFunction 81 = .ok (.aload_n 0, 1) := by decide +kernel
theorem dX12_defineFunction_82 : decode cX12_defineFunction 82 = .ok (.getfield 100, 3) := by decide +kernel
theorem dX12_defineFunction_85 : decode cX12_defineFunction 85 = .ok (.iload_n 1, 1) := by decide +kernel
theorem dX12_defineFunction_86 : decode cX12_defineFunction 86 = .ok (.iload_n 2, 1) := by decide +kernel
theorem dX12_defineFunction_87 : decode cX12_defineFunction 87 = .ok (.iastore, 1) := by decide +kernel
theorem dX12_defineFunction_88 : decode cX12_defineFunction 88 = .ok (.aload_n 0, 1) := by decide +kernel
theorem dX12_defineFunction_89 : decode cX12_defineFunction 89 = .ok (.getfield 103, 3) := by decide +kernel
theorem dX12_defineFunction_92 : decode cX12_defineFunction 92 = .ok (.iload_n 1, 1) := by decide +kernel
theorem dX12_defineFunction_93 : decode cX12_defineFunction 93 = .ok (.iload_n 3, 1) := by decide +kernel
theorem dX12_defineFunction_94 : decode cX12_defineFunction 94 = .ok (.iastore, 1) := by decide +kernel
theorem dX12_defineFunction_95 : decode cX12_defineFunction 95 = .ok (.return_, 1) := by decide +kernel
def B_X12_defineFunction_40 (N : Nat)   (V : sv_V) : Option sv_V := (F_X12_fail (6 : Int32) V).bind (fun V1 => some V1)
set_option maxRecDepth 20000 in
theorem tB_X12_defineFunction_40 {g : sx_G} (hG : sx_Go g) {P : Option Value → sv_V → Prop} {Vr : sv_V} (hP : P none Vr) {N : Nat}    {V : sv_V} (h : B_X12_defineFunction_40 N   V = some Vr) : sv_N g qX12_defineFunction 4 40 [(0, .ref 146)] [] V P := by
  unfold B_X12_defineFunction_40 at h
  refine sx_aload_n (pc := 40) dX12_defineFunction_40 sx_m0 ?_
  refine sx_bipush (pc := 41) (v := 6) dX12_defineFunction_41 (by decide) ?_
  obtain ⟨V1, g2, h⟩ := sx_bnd h
  refine sv_cV (pc := 43) (y := qX12_fail) (o := none) (as := [.int (6 : Int32)]) (V1 := V1) hG dX12_defineFunction_43 l_X12_421 y0X12_fail yvX12_fail rfl (Nat.le_of_ble_eq_true rfl) lay_146 kr_12 (by decide) (Nat.le_of_ble_eq_true rfl) rfl rfl rfl (t_X12_fail hG ⟨rfl, rfl⟩ g2) ?_
  exact sv_vret (pc := 46) dX12_defineFunction_46 rfl h hP
def F_X12_defineFunction (N : Nat)  (V : sv_V) : Option sv_V := (F_X12_has (1 : Int32) V).bind (fun (x5, V3) => if x5 = 0 then (some V3) else ((F_X12_pop  V3).bind (fun (x9, V7) => if (V7.1 146 91) = (2 : Int32) then ((F_X12_fail (3 : Int32) V7).bind (fun V24 => some V24)) else (if x9 < 0 then (B_X12_defineFunction_40 N   V7) else (if x9 < (V7.1 146 16) then (sx_let (V7.1 146 93) (fun x13 => sx_let (V7.1 146 92) (fun x14 => (F_X12_pass N (V7.1 146 93) (45 : Int32) (45 : Int32) (0 : Int32) V7).bind (fun (x17, V15) => sx_let (sv_I V15 146 93 x17) (fun V18 => if (V18.1 146 59) = 0 then (if sx_in x9 64 = true then sx_let (sv_I V18 176 x9.toNatClampNeg x13) (fun V21 => if sx_in x9 64 = true then sx_let (sv_I V21 177 x9.toNatClampNeg x14) (fun V23 => some V23) else none) else none) else (some V18)))))) else (B_X12_defineFunction_40 N   V7))))))
set_option maxRecDepth 20000 in
theorem t_X12_defineFunction {g : sx_G} (hG : sx_Go g) {P : Option Value → sv_V → Prop} {Vr : sv_V} (hP : P none Vr) {N : Nat}  {V : sv_V} (h : F_X12_defineFunction N  V = some Vr) : sv_N g qX12_defineFunction 4 0 [(0, .ref 146)] [] V P := by
  unfold F_X12_defineFunction at h
  refine sx_aload_n (pc := 0) dX12_defineFunction_0 sx_m0 ?_
  refine sx_iconst (pc := 1) (v := 1) dX12_defineFunction_1 (by decide) ?_
  obtain ⟨⟨x5, V3⟩, g4, h⟩ := sx_bnd h
  refine sv_cV (pc := 2) (y := qX12_has) (o := (some (.int x5))) (as := [.int (1 : Int32)]) (V1 := V3) hG dX12_defineFunction_2 l_X12_576 y0X12_has yvX12_has rfl (Nat.le_of_ble_eq_true rfl) lay_146 kr_12 (by decide) (Nat.le_of_ble_eq_true rfl) rfl rfl rfl (t_X12_has hG ⟨rfl, rfl⟩ g4) ?_
  refine sx_if_ne (pc := 5) (tgt := 9) dX12_defineFunction_5 (by decide) (fun c6 => ?_) (fun c6 => ?_)
  · have h := sx_neg c6 h
    refine sx_aload_n (pc := 9) dX12_defineFunction_9 sx_m0 ?_
    obtain ⟨⟨x9, V7⟩, g8, h⟩ := sx_bnd h
    refine sv_cV (pc := 10) (y := qX12_pop) (o := (some (.int x9))) (as := []) (V1 := V7) hG dX12_defineFunction_10 l_X12_579 y0X12_pop yvX12_pop rfl (Nat.le_of_ble_eq_true rfl) lay_146 kr_12 (by decide) (Nat.le_of_ble_eq_true rfl) rfl rfl rfl (t_X12_pop hG ⟨rfl, rfl⟩ g8) ?_
    refine sx_istore_n (pc := 13) (lo' := [(1, .int x9), (0, .ref 146)]) dX12_defineFunction_13 (by decide) rfl ?_
    refine sx_aload_n (pc := 14) dX12_defineFunction_14 sx_m1 ?_
    refine sv_getI (pc := 15) hG dX12_defineFunction_15 f_12_493 lay_146 rfl ?_
    refine sx_iconst (pc := 18) (v := 2) dX12_defineFunction_18 (by decide) ?_
    refine sx_icmp_ne (pc := 19) (tgt := 28) dX12_defineFunction_19 (by decide) (fun c10 => ?_) (fun c10 => ?_)
    · have h := sx_neg c10 h
      refine sx_iload_n (pc := 28) dX12_defineFunction_28 sx_m0 ?_
      refine sx_if_lt (pc := 29) (tgt := 40) dX12_defineFunction_29 (by decide) (fun c11 => ?_) (fun c11 => ?_)
      · have h := sx_pos c11 h
        refine sx_wk (sx_s1 sx_m1 sx_s0) ?_
        exact tB_X12_defineFunction_40 hG hP  h
      · have h := sx_neg c11 h
        refine sx_iload_n (pc := 32) dX12_defineFunction_32 sx_m0 ?_
        refine sx_aload_n (pc := 33) dX12_defineFunction_33 sx_m1 ?_
        refine sv_getI (pc := 34) hG dX12_defineFunction_34 f_12_322 lay_146 rfl ?_
        refine sx_icmp_lt (pc := 37) (tgt := 47) dX12_defineFunction_37 (by decide) (fun c12 => ?_) (fun c12 => ?_)
        · have h := sx_pos c12 h
          refine sx_aload_n (pc := 47) dX12_defineFunction_47 sx_m1 ?_
          refine sv_getI (pc := 48) hG dX12_defineFunction_48 f_12_496 lay_146 rfl ?_
          refine sv_tI (fun x13 hx13 => ?_)
          have h := sx_letE hx13 h
          refine sx_istore_n (pc := 51) (lo' := [(2, .int x13), (1, .int x9), (0, .ref 146)]) dX12_defineFunction_51 (by decide) rfl ?_
          refine sx_aload_n (pc := 52) dX12_defineFunction_52 sx_m2 ?_
          refine sv_getI (pc := 53) hG dX12_defineFunction_53 f_12_427 lay_146 rfl ?_
          refine sv_tI (fun x14 hx14 => ?_)
          have h := sx_letE hx14 h
          refine sx_istore_n (pc := 56) (lo' := [(3, .int x14), (2, .int x13), (1, .int x9), (0, .ref 146)]) dX12_defineFunction_56 (by decide) rfl ?_
          refine sx_aload_n (pc := 57) dX12_defineFunction_57 sx_m3 ?_
          refine sx_aload_n (pc := 58) dX12_defineFunction_58 sx_m3 ?_
          refine sx_aload_n (pc := 59) dX12_defineFunction_59 sx_m3 ?_
          refine sv_getI (pc := 60) hG dX12_defineFunction_60 f_12_496 lay_146 rfl ?_
          refine sx_bipush (pc := 63) (v := 45) dX12_defineFunction_63 (by decide) ?_
          refine sx_bipush (pc := 65) (v := 45) dX12_defineFunction_65 (by decide) ?_
          refine sx_iconst (pc := 67) (v := 0) dX12_defineFunction_67 (by decide) ?_
          obtain ⟨⟨x17, V15⟩, g16, h⟩ := sx_bnd h
          refine sv_cV (pc := 68) (y := qX12_pass) (o := (some (.int x17))) (as := [.int (V7.1 146 93), .int (45 : Int32), .int (45 : Int32), .int (0 : Int32)]) (V1 := V15) hG dX12_defineFunction_68 l_X12_598 y0X12_pass yvX12_pass rfl (Nat.le_of_ble_eq_true rfl) lay_146 kr_12 (by decide) (Nat.le_of_ble_eq_true rfl) rfl rfl rfl (t_X12_pass hG ⟨rfl, rfl⟩ g16) ?_
          obtain ⟨V18, hV18⟩ : ∃ z : sv_V, z = sv_I V15 146 93 x17 := ⟨_, rfl⟩
          have h := sx_letE hV18 h
          refine sv_putI (pc := 71) hG dX12_defineFunction_71 f_12_496 lay_146 rfl hV18 ?_
          refine sx_aload_n (pc := 74) dX12_defineFunction_74 sx_m3 ?_
          refine sv_getI (pc := 75) hG dX12_defineFunction_75 f_12_409 lay_146 rfl ?_
          refine sx_if_ne (pc := 78) (tgt := 95) dX12_defineFunction_78 (by decide) (fun c19 => ?_) (fun c19 => ?_)
          · have h := sx_neg c19 h
            exact sv_vret (pc := 95) dX12_defineFunction_95 rfl h hP
          · have h := sx_pos c19 h
            refine sx_aload_n (pc := 81) dX12_defineFunction_81 sx_m3 ?_
            refine sv_getA (pc := 82) hG dX12_defineFunction_82 f_12_100 lay_146 rfl cr_146_94 ?_
            refine sx_iload_n (pc := 85) dX12_defineFunction_85 sx_m2 ?_
            refine sx_iload_n (pc := 86) dX12_defineFunction_86 sx_m1 ?_
            obtain ⟨g20, h⟩ := sx_grd h
            obtain ⟨V21, hV21⟩ : ∃ z : sv_V, z = sv_I V18 176 x9.toNatClampNeg x13 := ⟨_, rfl⟩
            have h := sx_letE hV21 h
            refine sv_iast (pc := 87) hG dX12_defineFunction_87 lay_176 g20 hV21 ?_
            refine sx_aload_n (pc := 88) dX12_defineFunction_88 sx_m3 ?_
            refine sv_getA (pc := 89) hG dX12_defineFunction_89 f_12_103 lay_146 rfl cr_146_95 ?_
            refine sx_iload_n (pc := 92) dX12_defineFunction_92 sx_m2 ?_
            refine sx_iload_n (pc := 93) dX12_defineFunction_93 sx_m0 ?_
            obtain ⟨g22, h⟩ := sx_grd h
            obtain ⟨V23, hV23⟩ : ∃ z : sv_V, z = sv_I V21 177 x9.toNatClampNeg x14 := ⟨_, rfl⟩
            have h := sx_letE hV23 h
            refine sv_iast (pc := 94) hG dX12_defineFunction_94 lay_177 g22 hV23 ?_
            exact sv_vret (pc := 95) dX12_defineFunction_95 rfl h hP
        · have h := sx_neg c12 h
          refine sx_wk (sx_s1 sx_m1 sx_s0) ?_
          exact tB_X12_defineFunction_40 hG hP  h
    · have h := sx_pos c10 h
      refine sx_aload_n (pc := 22) dX12_defineFunction_22 sx_m1 ?_
      refine sx_iconst (pc := 23) (v := 3) dX12_defineFunction_23 (by decide) ?_
      obtain ⟨V24, g25, h⟩ := sx_bnd h
      refine sv_cV (pc := 24) (y := qX12_fail) (o := none) (as := [.int (3 : Int32)]) (V1 := V24) hG dX12_defineFunction_24 l_X12_421 y0X12_fail yvX12_fail rfl (Nat.le_of_ble_eq_true rfl) lay_146 kr_12 (by decide) (Nat.le_of_ble_eq_true rfl) rfl rfl rfl (t_X12_fail hG ⟨rfl, rfl⟩ g25) ?_
      exact sv_vret (pc := 27) dX12_defineFunction_27 rfl h hP
  · have h := sx_pos c6 h
    exact sv_vret (pc := 8) dX12_defineFunction_8 rfl h hP
theorem dX12_defineOwn_0 : decode cX12_defineOwn 0 = .ok (.aload_n 0, 1) := by decide +kernel
theorem dX12_defineOwn_1 : decode cX12_defineOwn 1 = .ok (.iconst 1, 1) := by decide +kernel
theorem dX12_defineOwn_2 : decode cX12_defineOwn 2 = .ok (.invokevirtual 576, 3) := by decide +kernel
theorem dX12_defineOwn_5 : decode cX12_defineOwn 5 = .ok (.ifCond .ne 4, 3) := by decide +kernel
theorem dX12_defineOwn_8 : decode cX12_defineOwn 8 = .ok (.return_, 1) := by decide +kernel
theorem dX12_defineOwn_9 : decode cX12_defineOwn 9 = .ok (.aload_n 0, 1) := by decide +kernel
theorem dX12_defineOwn_10 : decode cX12_defineOwn 10 = .ok (.invokevirtual 579, 3) := by decide +kernel
theorem dX12_defineOwn_13 : decode cX12_defineOwn 13 = .ok (.istore_n 1, 1) := by decide +kernel
theorem dX12_defineOwn_14 : decode cX12_defineOwn 14 = .ok (.aload_n 0, 1) := by decide +kernel
theorem dX12_defineOwn_15 : decode cX12_defineOwn 15 = .ok (.getfield 493, 3) := by decide +kernel
theorem dX12_defineOwn_18 : decode cX12_defineOwn 18 = .ok (.iconst 2, 1) := by decide +kernel
theorem dX12_defineOwn_19 : decode cX12_defineOwn 19 = .ok (.if_icmp .ne 9, 3) := by decide +kernel
theorem dX12_defineOwn_22 : decode cX12_defineOwn 22 = .ok (.aload_n 0, 1) := by decide +kernel
theorem dX12_defineOwn_23 : decode cX12_defineOwn 23 = .ok (.iconst 3, 1) := by decide +kernel
theorem dX12_defineOwn_24 : decode cX12_defineOwn 24 = .ok (.invokevirtual 421, 3) := by decide +kernel
theorem dX12_defineOwn_27 : decode cX12_defineOwn 27 = .ok (.return_, 1) := by decide +kernel
theorem dX12_defineOwn_28 : decode cX12_defineOwn 28 = .ok (.iload_n 1, 1) := by decide +kernel
theorem dX12_defineOwn_29 : decode cX12_defineOwn 29 = .ok (.i2l, 1) := by decide +kernel
theorem dX12_defineOwn_30 : decode cX12_defineOwn 30 = .ok (.lconst 0, 1) := by decide +kernel
theorem dX12_defineOwn_31 : decode cX12_defineOwn 31 = .ok (.ldc2_w 653, 3) := by decide +kernel
theorem dX12_defineOwn_34 : decode cX12_defineOwn 34 = .ok (.invokestatic 263, 3) := by decide +kernel
theorem dX12_defineOwn_37 : decode cX12_defineOwn 37 = .ok (.ifCond .ne 10, 3) := by decide +kernel
theorem dX12_defineOwn_40 : decode cX12_defineOwn 40 = .ok (.aload_n 0, 1) := by decide +kernel
theorem dX12_defineOwn_41 : decode cX12_defineOwn 41 = .ok (.bipush 11, 2) := by decide +kernel
theorem dX12_defineOwn_43 : decode cX12_defineOwn 43 = .ok (.invokevirtual 421, 3) := by decide +kernel
theorem dX12_defineOwn_46 : decode cX12_defineOwn 46 = .ok (.return_, 1) := by decide +kernel
theorem dX12_defineOwn_47 : decode cX12_defineOwn 47 = .ok (.aload_n 0, 1) := by decide +kernel
theorem dX12_defineOwn_48 : decode cX12_defineOwn 48 = .ok (.getfield 106, 3) := by decide +kernel
theorem dX12_defineOwn_51 : decode cX12_defineOwn 51 = .ok (.iload_n 1, 1) := by decide +kernel
theorem dX12_defineOwn_52 : decode cX12_defineOwn 52 = .ok (.iaload, 1) := by decide +kernel
theorem dX12_defineOwn_53 : decode cX12_defineOwn 53 = .ok (.ifCond .ge 21, 3) := by decide +kernel
theorem dX12_defineOwn_56 : decode cX12_defineOwn 56 = .ok (.aload_n 0, 1) := by decide +kernel
theorem dX12_defineOwn_57 : decode cX12_defineOwn 57 = .ok (.getfield 655, 3) := by decide +kernel
theorem dX12_defineOwn_60 : decode cX12_defineOwn 60 = .ok (.aload_n 0, 1) := by decide +kernel
theorem dX12_defineOwn_61 : decode cX12_defineOwn 61 = .ok (.getfield 325, 3) := by decide +kernel
theorem dX12_defineOwn_64 : decode cX12_defineOwn 64 = .ok (.if_icmp .ne 10, 3) := by decide +kernel
theorem dX12_defineOwn_67 : decode cX12_defineOwn 67 = .ok (.aload_n 0, 1) := by decide +kernel
theorem dX12_defineOwn_68 : decode cX12_defineOwn 68 = .ok (.bipush 6, 2) := by decide +kernel
theorem dX12_defineOwn_70 : decode cX12_defineOwn 70 = .ok (.invokevirtual 421, 3) := by decide +kernel
theorem dX12_defineOwn_73 : decode cX12_defineOwn 73 = .ok (.return_, 1) := by decide +kernel
theorem dX12_defineOwn_74 : decode cX12_defineOwn 74 = .ok (.aload_n 0, 1) := by decide +kernel
theorem dX12_defineOwn_75 : decode cX12_defineOwn 75 = .ok (.getfield 496, 3) := by decide +kernel
theorem dX12_defineOwn_78 : decode cX12_defineOwn 78 = .ok (.istore_n 2, 1) := by decide +kernel
theorem dX12_defineOwn_79 : decode cX12_defineOwn 79 = .ok (.aload_n 0, 1) := by decide +kernel
theorem dX12_defineOwn_80 : decode cX12_defineOwn 80 = .ok (.getfield 427, 3) := by decide +kernel
theorem dX12_defineOwn_83 : decode cX12_defineOwn 83 = .ok (.istore_n 3, 1) := by decide +kernel
theorem dX12_defineOwn_84 : decode cX12_defineOwn 84 = .ok (.aload_n 0, 1) := by decide +kernel
theorem dX12_defineOwn_85 : decode cX12_defineOwn 85 = .ok (.aload_n 0, 1) := by decide +kernel
theorem dX12_defineOwn_86 : decode cX12_defineOwn 86 = .ok (.aload_n 0, 1) := by decide +kernel
theorem dX12_defineOwn_87 : decode cX12_defineOwn 87 = .ok (.getfield 496, 3) := by decide +kernel
theorem dX12_defineOwn_90 : decode cX12_defineOwn 90 = .ok (.bipush 45, 2) := by decide +kernel
theorem dX12_defineOwn_92 : decode cX12_defineOwn 92 = .ok (.bipush 45, 2) := by decide +kernel
theorem dX12_defineOwn_94 : decode cX12_defineOwn 94 = .ok (.iconst 0, 1) := by decide +kernel
theorem dX12_defineOwn_95 : decode cX12_defineOwn 95 = .ok (.invokevirtual 598, 3) := by decide +kernel
theorem dX12_defineOwn_98 : decode cX12_defineOwn 98 = .ok (.putfield 496, 3) := by decide +kernel
theorem dX12_defineOwn_101 : decode cX12_defineOwn 101 = .ok (.aload_n 0, 1) := by decide +kernel
theorem dX12_defineOwn_102 : decode cX12_defineOwn 102 = .ok (.getfield 409, 3) := by decide +kernel
theorem dX12_defineOwn_105 : decode cX12_defineOwn 105 = .ok (.ifCond .ne 40, 3) := by decide +kernel
theorem dX12_defineOwn_108 : decode cX12_defineOwn 108 = .ok (.aload_n 0, 1) := by decide +kernel
theorem dX12_defineOwn_109 : decode cX12_defineOwn 109 = .ok (.dup, 1) := by decide +kernel
theorem dX12_defineOwn_110 : decode cX12_defineOwn 110 = .ok (.getfield 655, 3) := by decide +kernel
theorem dX12_defineOwn_113 : decode cX12_defineOwn 113 = .ok (.aload_n 0, 1) := by decide +kernel
theorem dX12_defineOwn_114 : decode cX12_defineOwn 114 = .ok (.getfield 106, 3) := by decide +kernel
theorem dX12_defineOwn_117 : decode cX12_defineOwn 117 = .ok (.iload_n 1, 1) := by decide +kernel
theorem dX12_defineOwn_118 : decode cX12_defineOwn 118 = .ok (.iaload, 1) := by decide +kernel
theorem dX12_defineOwn_119 : decode cX12_defineOwn 119 = .ok (.ifCond .ge 7, 3) := by decide +kernel
theorem dX12_defineOwn_122 : decode cX12_defineOwn 122 = .ok (.iconst 1, 1) := by decide +kernel
theorem dX12_defineOwn_123 : decode cX12_defineOwn 123 = .ok (.goto 4, 3) := by decide +kernel
theorem dX12_defineOwn_126 : decode cX12_defineOwn 126 = .ok (.iconst 0, 1) := by decide +kernel
theorem dX12_defineOwn_127 : decode cX12_defineOwn 127 = .ok (.iadd, 1) := by decide +kernel
theorem dX12_defineOwn_128 : decode cX12_defineOwn 128 = .ok (.putfield 655, 3) := by decide +kernel
theorem dX12_defineOwn_131 : decode cX12_defineOwn 131 = .ok (.aload_n 0, 1) := by decide +kernel
theorem dX12_defineOwn_132 : decode cX12_defineOwn 132 = .ok (.getfield 106, 3) := by decide +kernel
theorem dX12_defineOwn_135 : decode cX12_defineOwn 135 = .ok (.iload_n 1, 1) := by decide +kernel
theorem dX12_defineOwn_136 : decode cX12_defineOwn 136 = .ok (.iload_n 2, 1) := by decide +kernel
theorem dX12_defineOwn_137 : decode cX12_defineOwn 137 = .ok (.iastore, 1) := by decide +kernel
theorem dX12_defineOwn_138 : decode cX12_defineOwn 138 = .ok (.aload_n 0, 1) := by decide +kernel
theorem dX12_defineOwn_139 : decode cX12_defineOwn 139 = .ok (.getfield 109, 3) := by decide +kernel
theorem dX12_defineOwn_142 : decode cX12_defineOwn 142 = .ok (.iload_n 1, 1) := by decide +kernel
theorem dX12_defineOwn_143 : decode cX12_defineOwn 143 = .ok (.iload_n 3, 1) := by decide +kernel
theorem dX12_defineOwn_144 : decode cX12_defineOwn 144 = .ok (.iastore, 1) := by decide +kernel
theorem dX12_defineOwn_145 : decode cX12_defineOwn 145 = .ok (.return_, 1) := by decide +kernel
def B_X12_defineOwn_127 (N : Nat)  (l1 : Int32) (l2 : Int32) (l3 : Int32) (s1 : Int32) (s2 : Int32) (V : sv_V) : Option sv_V := sx_let (sv_I V 146 98 (s1 + s2)) (fun V1 => if sx_in l1 256 = true then sx_let (sv_I V1 178 l1.toNatClampNeg l2) (fun V3 => if sx_in l1 256 = true then sx_let (sv_I V3 179 l1.toNatClampNeg l3) (fun V5 => some V5) else none) else none)
set_option maxRecDepth 20000 in
theorem tB_X12_defineOwn_127 {g : sx_G} (hG : sx_Go g) {P : Option Value → sv_V → Prop} {Vr : sv_V} (hP : P none Vr) {N : Nat}   {l1 : Int32} {l2 : Int32} {l3 : Int32} {s1 : Int32} {s2 : Int32} {V : sv_V} (h : B_X12_defineOwn_127 N  l1 l2 l3 s1 s2 V = some Vr) : sv_N g qX12_defineOwn 4 127 [(0, .ref 146), (1, .int l1), (2, .int l2), (3, .int l3)] [.int s2, .int s1, .ref 146] V P := by
  unfold B_X12_defineOwn_127 at h
  refine sx_iadd (pc := 127) dX12_defineOwn_127 ?_
  obtain ⟨V1, hV1⟩ : ∃ z : sv_V, z = sv_I V 146 98 (s1 + s2) := ⟨_, rfl⟩
  have h := sx_letE hV1 h
  refine sv_putI (pc := 128) hG dX12_defineOwn_128 f_12_655 lay_146 rfl hV1 ?_
  refine sx_aload_n (pc := 131) dX12_defineOwn_131 sx_m0 ?_
  refine sv_getA (pc := 132) hG dX12_defineOwn_132 f_12_106 lay_146 rfl cr_146_96 ?_
  refine sx_iload_n (pc := 135) dX12_defineOwn_135 sx_m1 ?_
  refine sx_iload_n (pc := 136) dX12_defineOwn_136 sx_m2 ?_
  obtain ⟨g2, h⟩ := sx_grd h
  obtain ⟨V3, hV3⟩ : ∃ z : sv_V, z = sv_I V1 178 l1.toNatClampNeg l2 := ⟨_, rfl⟩
  have h := sx_letE hV3 h
  refine sv_iast (pc := 137) hG dX12_defineOwn_137 lay_178 g2 hV3 ?_
  refine sx_aload_n (pc := 138) dX12_defineOwn_138 sx_m0 ?_
  refine sv_getA (pc := 139) hG dX12_defineOwn_139 f_12_109 lay_146 rfl cr_146_97 ?_
  refine sx_iload_n (pc := 142) dX12_defineOwn_142 sx_m1 ?_
  refine sx_iload_n (pc := 143) dX12_defineOwn_143 sx_m3 ?_
  obtain ⟨g4, h⟩ := sx_grd h
  obtain ⟨V5, hV5⟩ : ∃ z : sv_V, z = sv_I V3 179 l1.toNatClampNeg l3 := ⟨_, rfl⟩
  have h := sx_letE hV5 h
  refine sv_iast (pc := 144) hG dX12_defineOwn_144 lay_179 g4 hV5 ?_
  exact sv_vret (pc := 145) dX12_defineOwn_145 rfl h hP
def B_X12_defineOwn_74 (N : Nat)  (l1 : Int32) (V : sv_V) : Option sv_V := sx_let (V.1 146 93) (fun x6 => sx_let (V.1 146 92) (fun x7 => (F_X12_pass N (V.1 146 93) (45 : Int32) (45 : Int32) (0 : Int32) V).bind (fun (x10, V8) => sx_let (sv_I V8 146 93 x10) (fun V11 => if (V11.1 146 59) = 0 then (if sx_in l1 256 = true then if 0 ≤ (V11.1 178 l1.toNatClampNeg) then (B_X12_defineOwn_127 N  l1 x6 x7 (V11.1 146 98) (0 : Int32) V11) else (B_X12_defineOwn_127 N  l1 x6 x7 (V11.1 146 98) (1 : Int32) V11) else none) else (some V11)))))
set_option maxRecDepth 20000 in
theorem tB_X12_defineOwn_74 {g : sx_G} (hG : sx_Go g) {P : Option Value → sv_V → Prop} {Vr : sv_V} (hP : P none Vr) {N : Nat}   {l1 : Int32} {V : sv_V} (h : B_X12_defineOwn_74 N  l1 V = some Vr) : sv_N g qX12_defineOwn 4 74 [(0, .ref 146), (1, .int l1)] [] V P := by
  unfold B_X12_defineOwn_74 at h
  refine sx_aload_n (pc := 74) dX12_defineOwn_74 sx_m0 ?_
  refine sv_getI (pc := 75) hG dX12_defineOwn_75 f_12_496 lay_146 rfl ?_
  refine sv_tI (fun x6 hx6 => ?_)
  have h := sx_letE hx6 h
  refine sx_istore_n (pc := 78) (lo' := [(2, .int x6), (0, .ref 146), (1, .int l1)]) dX12_defineOwn_78 (by decide) rfl ?_
  refine sx_aload_n (pc := 79) dX12_defineOwn_79 sx_m1 ?_
  refine sv_getI (pc := 80) hG dX12_defineOwn_80 f_12_427 lay_146 rfl ?_
  refine sv_tI (fun x7 hx7 => ?_)
  have h := sx_letE hx7 h
  refine sx_istore_n (pc := 83) (lo' := [(3, .int x7), (2, .int x6), (0, .ref 146), (1, .int l1)]) dX12_defineOwn_83 (by decide) rfl ?_
  refine sx_aload_n (pc := 84) dX12_defineOwn_84 sx_m2 ?_
  refine sx_aload_n (pc := 85) dX12_defineOwn_85 sx_m2 ?_
  refine sx_aload_n (pc := 86) dX12_defineOwn_86 sx_m2 ?_
  refine sv_getI (pc := 87) hG dX12_defineOwn_87 f_12_496 lay_146 rfl ?_
  refine sx_bipush (pc := 90) (v := 45) dX12_defineOwn_90 (by decide) ?_
  refine sx_bipush (pc := 92) (v := 45) dX12_defineOwn_92 (by decide) ?_
  refine sx_iconst (pc := 94) (v := 0) dX12_defineOwn_94 (by decide) ?_
  obtain ⟨⟨x10, V8⟩, g9, h⟩ := sx_bnd h
  refine sv_cV (pc := 95) (y := qX12_pass) (o := (some (.int x10))) (as := [.int (V.1 146 93), .int (45 : Int32), .int (45 : Int32), .int (0 : Int32)]) (V1 := V8) hG dX12_defineOwn_95 l_X12_598 y0X12_pass yvX12_pass rfl (Nat.le_of_ble_eq_true rfl) lay_146 kr_12 (by decide) (Nat.le_of_ble_eq_true rfl) rfl rfl rfl (t_X12_pass hG ⟨rfl, rfl⟩ g9) ?_
  obtain ⟨V11, hV11⟩ : ∃ z : sv_V, z = sv_I V8 146 93 x10 := ⟨_, rfl⟩
  have h := sx_letE hV11 h
  refine sv_putI (pc := 98) hG dX12_defineOwn_98 f_12_496 lay_146 rfl hV11 ?_
  refine sx_aload_n (pc := 101) dX12_defineOwn_101 sx_m2 ?_
  refine sv_getI (pc := 102) hG dX12_defineOwn_102 f_12_409 lay_146 rfl ?_
  refine sx_if_ne (pc := 105) (tgt := 145) dX12_defineOwn_105 (by decide) (fun c12 => ?_) (fun c12 => ?_)
  · have h := sx_neg c12 h
    exact sv_vret (pc := 145) dX12_defineOwn_145 rfl h hP
  · have h := sx_pos c12 h
    refine sx_aload_n (pc := 108) dX12_defineOwn_108 sx_m2 ?_
    refine sx_dup (pc := 109) dX12_defineOwn_109 rfl ?_
    refine sv_getI (pc := 110) hG dX12_defineOwn_110 f_12_655 lay_146 rfl ?_
    refine sx_aload_n (pc := 113) dX12_defineOwn_113 sx_m2 ?_
    refine sv_getA (pc := 114) hG dX12_defineOwn_114 f_12_106 lay_146 rfl cr_146_96 ?_
    refine sx_iload_n (pc := 117) dX12_defineOwn_117 sx_m3 ?_
    obtain ⟨g13, h⟩ := sx_grd h
    refine sv_iald (pc := 118) hG dX12_defineOwn_118 lay_178 g13 ?_
    refine sx_if_ge (pc := 119) (tgt := 126) dX12_defineOwn_119 (by decide) (fun c14 => ?_) (fun c14 => ?_)
    · have h := sx_pos c14 h
      refine sx_iconst (pc := 126) (v := 0) dX12_defineOwn_126 (by decide) ?_
      refine sx_wk (sx_s1 sx_m2 (sx_s1 sx_m3 (sx_s1 sx_m1 (sx_s1 sx_m0 sx_s0)))) ?_
      exact tB_X12_defineOwn_127 hG hP  h
    · have h := sx_neg c14 h
      refine sx_iconst (pc := 122) (v := 1) dX12_defineOwn_122 (by decide) ?_
      refine sx_goto (pc := 123) (tgt := 127) dX12_defineOwn_123 (by decide) ?_
      refine sx_wk (sx_s1 sx_m2 (sx_s1 sx_m3 (sx_s1 sx_m1 (sx_s1 sx_m0 sx_s0)))) ?_
      exact tB_X12_defineOwn_127 hG hP  h
def F_X12_defineOwn (N : Nat)  (V : sv_V) : Option sv_V := (F_X12_has (1 : Int32) V).bind (fun (x17, V15) => if x17 = 0 then (some V15) else ((F_X12_pop  V15).bind (fun (x21, V19) => if (V19.1 146 91) = (2 : Int32) then ((F_X12_fail (3 : Int32) V19).bind (fun V34 => some V34)) else ((F_X12_in x21.toInt64 (0 : Int64) (255 : Int64) V19).bind (fun (x25, V23) => if x25 = 0 then ((F_X12_fail (11 : Int32) V23).bind (fun V32 => some V32)) else (if sx_in x21 256 = true then if 0 ≤ (V23.1 178 x21.toNatClampNeg) then (B_X12_defineOwn_74 N  x21 V23) else (if (V23.1 146 98) = (V23.1 146 17) then ((F_X12_fail (6 : Int32) V23).bind (fun V30 => some V30)) else (B_X12_defineOwn_74 N  x21 V23)) else none))))))
set_option maxRecDepth 20000 in
theorem t_X12_defineOwn {g : sx_G} (hG : sx_Go g) {P : Option Value → sv_V → Prop} {Vr : sv_V} (hP : P none Vr) {N : Nat}  {V : sv_V} (h : F_X12_defineOwn N  V = some Vr) : sv_N g qX12_defineOwn 4 0 [(0, .ref 146)] [] V P := by
  unfold F_X12_defineOwn at h
  refine sx_aload_n (pc := 0) dX12_defineOwn_0 sx_m0 ?_
  refine sx_iconst (pc := 1) (v := 1) dX12_defineOwn_1 (by decide) ?_
  obtain ⟨⟨x17, V15⟩, g16, h⟩ := sx_bnd h
  refine sv_cV (pc := 2) (y := qX12_has) (o := (some (.int x17))) (as := [.int (1 : Int32)]) (V1 := V15) hG dX12_defineOwn_2 l_X12_576 y0X12_has yvX12_has rfl (Nat.le_of_ble_eq_true rfl) lay_146 kr_12 (by decide) (Nat.le_of_ble_eq_true rfl) rfl rfl rfl (t_X12_has hG ⟨rfl, rfl⟩ g16) ?_
  refine sx_if_ne (pc := 5) (tgt := 9) dX12_defineOwn_5 (by decide) (fun c18 => ?_) (fun c18 => ?_)
  · have h := sx_neg c18 h
    refine sx_aload_n (pc := 9) dX12_defineOwn_9 sx_m0 ?_
    obtain ⟨⟨x21, V19⟩, g20, h⟩ := sx_bnd h
    refine sv_cV (pc := 10) (y := qX12_pop) (o := (some (.int x21))) (as := []) (V1 := V19) hG dX12_defineOwn_10 l_X12_579 y0X12_pop yvX12_pop rfl (Nat.le_of_ble_eq_true rfl) lay_146 kr_12 (by decide) (Nat.le_of_ble_eq_true rfl) rfl rfl rfl (t_X12_pop hG ⟨rfl, rfl⟩ g20) ?_
    refine sx_istore_n (pc := 13) (lo' := [(1, .int x21), (0, .ref 146)]) dX12_defineOwn_13 (by decide) rfl ?_
    refine sx_aload_n (pc := 14) dX12_defineOwn_14 sx_m1 ?_
    refine sv_getI (pc := 15) hG dX12_defineOwn_15 f_12_493 lay_146 rfl ?_
    refine sx_iconst (pc := 18) (v := 2) dX12_defineOwn_18 (by decide) ?_
    refine sx_icmp_ne (pc := 19) (tgt := 28) dX12_defineOwn_19 (by decide) (fun c22 => ?_) (fun c22 => ?_)
    · have h := sx_neg c22 h
      refine sx_iload_n (pc := 28) dX12_defineOwn_28 sx_m0 ?_
      refine sx_i2l (pc := 29) dX12_defineOwn_29 ?_
      refine sx_lconst (pc := 30) (v := 0) dX12_defineOwn_30 rfl ?_
      refine sx_ldc2 (pc := 31) dX12_defineOwn_31 k_X12_653 ?_
      obtain ⟨⟨x25, V23⟩, g24, h⟩ := sx_bnd h
      refine sv_cS (pc := 34) (y := qX12_in) (o := (some (.int x25))) (as := [.long x21.toInt64, .long (0 : Int64), .long (255 : Int64)]) (V1 := V23) dX12_defineOwn_34 l_X12_263 y0X12_in ysX12_in rfl (Nat.le_of_ble_eq_true rfl) (by decide) (Nat.le_of_ble_eq_true rfl) rfl rfl rfl (t_X12_in hG ⟨rfl, rfl⟩ g24) ?_
      refine sx_if_ne (pc := 37) (tgt := 47) dX12_defineOwn_37 (by decide) (fun c26 => ?_) (fun c26 => ?_)
      · have h := sx_neg c26 h
        refine sx_aload_n (pc := 47) dX12_defineOwn_47 sx_m1 ?_
        refine sv_getA (pc := 48) hG dX12_defineOwn_48 f_12_106 lay_146 rfl cr_146_96 ?_
        refine sx_iload_n (pc := 51) dX12_defineOwn_51 sx_m0 ?_
        obtain ⟨g27, h⟩ := sx_grd h
        refine sv_iald (pc := 52) hG dX12_defineOwn_52 lay_178 g27 ?_
        refine sx_if_ge (pc := 53) (tgt := 74) dX12_defineOwn_53 (by decide) (fun c28 => ?_) (fun c28 => ?_)
        · have h := sx_pos c28 h
          refine sx_wk (sx_s1 sx_m1 (sx_s1 sx_m0 sx_s0)) ?_
          exact tB_X12_defineOwn_74 hG hP  h
        · have h := sx_neg c28 h
          refine sx_aload_n (pc := 56) dX12_defineOwn_56 sx_m1 ?_
          refine sv_getI (pc := 57) hG dX12_defineOwn_57 f_12_655 lay_146 rfl ?_
          refine sx_aload_n (pc := 60) dX12_defineOwn_60 sx_m1 ?_
          refine sv_getI (pc := 61) hG dX12_defineOwn_61 f_12_325 lay_146 rfl ?_
          refine sx_icmp_ne (pc := 64) (tgt := 74) dX12_defineOwn_64 (by decide) (fun c29 => ?_) (fun c29 => ?_)
          · have h := sx_neg c29 h
            refine sx_wk (sx_s1 sx_m1 (sx_s1 sx_m0 sx_s0)) ?_
            exact tB_X12_defineOwn_74 hG hP  h
          · have h := sx_pos c29 h
            refine sx_aload_n (pc := 67) dX12_defineOwn_67 sx_m1 ?_
            refine sx_bipush (pc := 68) (v := 6) dX12_defineOwn_68 (by decide) ?_
            obtain ⟨V30, g31, h⟩ := sx_bnd h
            refine sv_cV (pc := 70) (y := qX12_fail) (o := none) (as := [.int (6 : Int32)]) (V1 := V30) hG dX12_defineOwn_70 l_X12_421 y0X12_fail yvX12_fail rfl (Nat.le_of_ble_eq_true rfl) lay_146 kr_12 (by decide) (Nat.le_of_ble_eq_true rfl) rfl rfl rfl (t_X12_fail hG ⟨rfl, rfl⟩ g31) ?_
            exact sv_vret (pc := 73) dX12_defineOwn_73 rfl h hP
      · have h := sx_pos c26 h
        refine sx_aload_n (pc := 40) dX12_defineOwn_40 sx_m1 ?_
        refine sx_bipush (pc := 41) (v := 11) dX12_defineOwn_41 (by decide) ?_
        obtain ⟨V32, g33, h⟩ := sx_bnd h
        refine sv_cV (pc := 43) (y := qX12_fail) (o := none) (as := [.int (11 : Int32)]) (V1 := V32) hG dX12_defineOwn_43 l_X12_421 y0X12_fail yvX12_fail rfl (Nat.le_of_ble_eq_true rfl) lay_146 kr_12 (by decide) (Nat.le_of_ble_eq_true rfl) rfl rfl rfl (t_X12_fail hG ⟨rfl, rfl⟩ g33) ?_
        exact sv_vret (pc := 46) dX12_defineOwn_46 rfl h hP
    · have h := sx_pos c22 h
      refine sx_aload_n (pc := 22) dX12_defineOwn_22 sx_m1 ?_
      refine sx_iconst (pc := 23) (v := 3) dX12_defineOwn_23 (by decide) ?_
      obtain ⟨V34, g35, h⟩ := sx_bnd h
      refine sv_cV (pc := 24) (y := qX12_fail) (o := none) (as := [.int (3 : Int32)]) (V1 := V34) hG dX12_defineOwn_24 l_X12_421 y0X12_fail yvX12_fail rfl (Nat.le_of_ble_eq_true rfl) lay_146 kr_12 (by decide) (Nat.le_of_ble_eq_true rfl) rfl rfl rfl (t_X12_fail hG ⟨rfl, rfl⟩ g35) ?_
      exact sv_vret (pc := 27) dX12_defineOwn_27 rfl h hP
  · have h := sx_pos c18 h
    exact sv_vret (pc := 8) dX12_defineOwn_8 rfl h hP
theorem dX12_one_0 : decode cX12_one 0 = .ok (.iload_n 0, 1) := by decide +kernel
theorem dX12_one_1 : decode cX12_one 1 = .ok (.ifCond .eq 7, 3) := by decide +kernel
theorem dX12_one_4 : decode cX12_one 4 = .ok (.iconst 1, 1) := by decide +kernel
theorem dX12_one_5 : decode cX12_one 5 = .ok (.goto 4, 3) := by decide +kernel
theorem dX12_one_8 : decode cX12_one 8 = .ok (.iconst 0, 1) := by decide +kernel
theorem dX12_one_9 : decode cX12_one 9 = .ok (.ireturn, 1) := by decide +kernel
def F_X12_one (l0 : Int32) (V : sv_V) : Option (Int32 × sv_V) := if l0 = 0 then (some ((0 : Int32), V)) else (some ((1 : Int32), V))
set_option maxRecDepth 20000 in
theorem t_X12_one {g : sx_G} (hG : sx_Go g) {P : Option Value → sv_V → Prop} {r : Int32} {Vr : sv_V} (hP : P (some (.int r)) Vr) {l0 : Int32} {V : sv_V} (h : F_X12_one l0 V = some (r, Vr)) : sv_N g qX12_one 0 0 [(0, .int l0)] [] V P := by
  unfold F_X12_one at h
  refine sx_iload_n (pc := 0) dX12_one_0 sx_m0 ?_
  refine sx_if_eq (pc := 1) (tgt := 8) dX12_one_1 (by decide) (fun c1 => ?_) (fun c1 => ?_)
  · have h := sx_pos c1 h
    refine sx_iconst (pc := 8) (v := 0) dX12_one_8 (by decide) ?_
    exact sv_iret (pc := 9) dX12_one_9 rfl h hP
  · have h := sx_neg c1 h
    refine sx_iconst (pc := 4) (v := 1) dX12_one_4 (by decide) ?_
    refine sx_goto (pc := 5) (tgt := 9) dX12_one_5 (by decide) ?_
    exact sv_iret (pc := 9) dX12_one_9 rfl h hP
theorem dX12_singled_0 : decode cX12_singled 0 = .ok (.aload_n 0, 1) := by decide +kernel
theorem dX12_singled_1 : decode cX12_singled 1 = .ok (.getfield 615, 3) := by decide +kernel
theorem dX12_singled_4 : decode cX12_singled 4 = .ok (.i2l, 1) := by decide +kernel
theorem dX12_singled_5 : decode cX12_singled 5 = .ok (.invokestatic 198, 3) := by decide +kernel
theorem dX12_singled_8 : decode cX12_singled 8 = .ok (.lstore_n 3, 1) := by decide +kernel
theorem dX12_singled_9 : decode cX12_singled 9 = .ok (.lload_n 1, 1) := by decide +kernel
theorem dX12_singled_10 : decode cX12_singled 10 = .ok (.invokestatic 198, 3) := by decide +kernel
theorem dX12_singled_13 : decode cX12_singled 13 = .ok (.lload_n 3, 1) := by decide +kernel
theorem dX12_singled_14 : decode cX12_singled 14 = .ok (.lsub, 1) := by decide +kernel
theorem dX12_singled_15 : decode cX12_singled 15 = .ok (.invokestatic 198, 3) := by decide +kernel
theorem dX12_singled_18 : decode cX12_singled 18 = .ok (.aload_n 0, 1) := by decide +kernel
theorem dX12_singled_19 : decode cX12_singled 19 = .ok (.getfield 608, 3) := by decide +kernel
theorem dX12_singled_22 : decode cX12_singled 22 = .ok (.i2l, 1) := by decide +kernel
theorem dX12_singled_23 : decode cX12_singled 23 = .ok (.lcmp, 1) := by decide +kernel
theorem dX12_singled_24 : decode cX12_singled 24 = .ok (.ifCond .ge 18, 3) := by decide +kernel
theorem dX12_singled_27 : decode cX12_singled 27 = .ok (.lload_n 1, 1) := by decide +kernel
theorem dX12_singled_28 : decode cX12_singled 28 = .ok (.lconst 0, 1) := by decide +kernel
theorem dX12_singled_29 : decode cX12_singled 29 = .ok (.lcmp, 1) := by decide +kernel
theorem dX12_singled_30 : decode cX12_singled 30 = .ok (.ifCond .ge 8, 3) := by decide +kernel
theorem dX12_singled_33 : decode cX12_singled 33 = .ok (.lload_n 3, 1) := by decide +kernel
theorem dX12_singled_34 : decode cX12_singled 34 = .ok (.lneg, 1) := by decide +kernel
theorem dX12_singled_35 : decode cX12_singled 35 = .ok (.goto 8, 3) := by decide +kernel
theorem dX12_singled_38 : decode cX12_singled 38 = .ok (.lload_n 3, 1) := by decide +kernel
theorem dX12_singled_39 : decode cX12_singled 39 = .ok (.goto 4, 3) := by decide +kernel
theorem dX12_singled_42 : decode cX12_singled 42 = .ok (.lload_n 1, 1) := by decide +kernel
theorem dX12_singled_43 : decode cX12_singled 43 = .ok (.lreturn, 1) := by decide +kernel
def F_X12_singled (l1 : Int64) (V : sv_V) : Option (Int64 × sv_V) := (F_X12_sizeOf ((V.1 146 81).toInt64) V).bind (fun (x3, V1) => (F_X12_sizeOf l1 V1).bind (fun (x6, V4) => (F_X12_sizeOf (x6 - x3) V4).bind (fun (x9, V7) => if 0 ≤ (lg_cmp x9 ((V7.1 146 82).toInt64)) then (some (l1, V7)) else (if 0 ≤ (lg_cmp l1 (0 : Int64)) then (some (x3, V7)) else (some (-x3, V7))))))
set_option maxRecDepth 20000 in
theorem t_X12_singled {g : sx_G} (hG : sx_Go g) {P : Option Value → sv_V → Prop} {r : Int64} {Vr : sv_V} (hP : P (some (.long r)) Vr) {l1 : Int64} {V : sv_V} (h : F_X12_singled l1 V = some (r, Vr)) : sv_N g qX12_singled 1 0 [(0, .ref 146), (1, .long l1)] [] V P := by
  unfold F_X12_singled at h
  refine sx_aload_n (pc := 0) dX12_singled_0 sx_m0 ?_
  refine sv_getI (pc := 1) hG dX12_singled_1 f_12_615 lay_146 rfl ?_
  refine sx_i2l (pc := 4) dX12_singled_4 ?_
  obtain ⟨⟨x3, V1⟩, g2, h⟩ := sx_bnd h
  refine sv_cS (pc := 5) (y := qX12_sizeOf) (o := (some (.long x3))) (as := [.long ((V.1 146 81).toInt64)]) (V1 := V1) dX12_singled_5 l_X12_198 y0X12_sizeOf ysX12_sizeOf rfl (Nat.le_of_ble_eq_true rfl) (by decide) (Nat.le_of_ble_eq_true rfl) rfl rfl rfl (t_X12_sizeOf hG ⟨rfl, rfl⟩ g2) ?_
  refine sx_lstore_n (pc := 8) (lo' := [(3, .long x3), (0, .ref 146), (1, .long l1)]) dX12_singled_8 (by decide) rfl ?_
  refine sx_lload_n (pc := 9) dX12_singled_9 sx_m2 ?_
  obtain ⟨⟨x6, V4⟩, g5, h⟩ := sx_bnd h
  refine sv_cS (pc := 10) (y := qX12_sizeOf) (o := (some (.long x6))) (as := [.long l1]) (V1 := V4) dX12_singled_10 l_X12_198 y0X12_sizeOf ysX12_sizeOf rfl (Nat.le_of_ble_eq_true rfl) (by decide) (Nat.le_of_ble_eq_true rfl) rfl rfl rfl (t_X12_sizeOf hG ⟨rfl, rfl⟩ g5) ?_
  refine sx_lload_n (pc := 13) dX12_singled_13 sx_m0 ?_
  refine sx_lsub (pc := 14) dX12_singled_14 ?_
  obtain ⟨⟨x9, V7⟩, g8, h⟩ := sx_bnd h
  refine sv_cS (pc := 15) (y := qX12_sizeOf) (o := (some (.long x9))) (as := [.long (x6 - x3)]) (V1 := V7) dX12_singled_15 l_X12_198 y0X12_sizeOf ysX12_sizeOf rfl (Nat.le_of_ble_eq_true rfl) (by decide) (Nat.le_of_ble_eq_true rfl) rfl rfl rfl (t_X12_sizeOf hG ⟨rfl, rfl⟩ g8) ?_
  refine sx_aload_n (pc := 18) dX12_singled_18 sx_m1 ?_
  refine sv_getI (pc := 19) hG dX12_singled_19 f_12_608 lay_146 rfl ?_
  refine sx_i2l (pc := 22) dX12_singled_22 ?_
  refine sx_lcmp (pc := 23) dX12_singled_23 ?_
  refine sx_if_ge (pc := 24) (tgt := 42) dX12_singled_24 (by decide) (fun c10 => ?_) (fun c10 => ?_)
  · have h := sx_pos c10 h
    refine sx_lload_n (pc := 42) dX12_singled_42 sx_m2 ?_
    exact sv_lret (pc := 43) dX12_singled_43 rfl h hP
  · have h := sx_neg c10 h
    refine sx_lload_n (pc := 27) dX12_singled_27 sx_m2 ?_
    refine sx_lconst (pc := 28) (v := 0) dX12_singled_28 rfl ?_
    refine sx_lcmp (pc := 29) dX12_singled_29 ?_
    refine sx_if_ge (pc := 30) (tgt := 38) dX12_singled_30 (by decide) (fun c11 => ?_) (fun c11 => ?_)
    · have h := sx_pos c11 h
      refine sx_lload_n (pc := 38) dX12_singled_38 sx_m0 ?_
      refine sx_goto (pc := 39) (tgt := 43) dX12_singled_39 (by decide) ?_
      exact sv_lret (pc := 43) dX12_singled_43 rfl h hP
    · have h := sx_neg c11 h
      refine sx_lload_n (pc := 33) dX12_singled_33 sx_m0 ?_
      refine sx_lneg (pc := 34) dX12_singled_34 ?_
      refine sx_goto (pc := 35) (tgt := 43) dX12_singled_35 (by decide) ?_
      exact sv_lret (pc := 43) dX12_singled_43 rfl h hP
theorem dX12_atLeast_0 : decode cX12_atLeast 0 = .ok (.iload_n 1, 1) := by decide +kernel
theorem dX12_atLeast_1 : decode cX12_atLeast 1 = .ok (.bipush 8, 2) := by decide +kernel
theorem dX12_atLeast_3 : decode cX12_atLeast 3 = .ok (.iand, 1) := by decide +kernel
theorem dX12_atLeast_4 : decode cX12_atLeast 4 = .ok (.ifCond .ne 6, 3) := by decide +kernel
theorem dX12_atLeast_7 : decode cX12_atLeast 7 = .ok (.lload 4, 2) := by decide +kernel
theorem dX12_atLeast_9 : decode cX12_atLeast 9 = .ok (.lreturn, 1) := by decide +kernel
theorem dX12_atLeast_10 : decode cX12_atLeast 10 = .ok (.lload_n 2, 1) := by decide +kernel
theorem dX12_atLeast_11 : decode cX12_atLeast 11 = .ok (.lconst 0, 1) := by decide +kernel
theorem dX12_atLeast_12 : decode cX12_atLeast 12 = .ok (.lcmp, 1) := by decide +kernel
theorem dX12_atLeast_13 : decode cX12_atLeast 13 = .ok (.ifCond .lt 27, 3) := by decide +kernel
theorem dX12_atLeast_16 : decode cX12_atLeast 16 = .ok (.lload 4, 2) := by decide +kernel
theorem dX12_atLeast_18 : decode cX12_atLeast 18 = .ok (.aload_n 0, 1) := by decide +kernel
theorem dX12_atLeast_19 : decode cX12_atLeast 19 = .ok (.getfield 595, 3) := by decide +kernel
theorem dX12_atLeast_22 : decode cX12_atLeast 22 = .ok (.i2l, 1) := by decide +kernel
theorem dX12_atLeast_23 : decode cX12_atLeast 23 = .ok (.lcmp, 1) := by decide +kernel
theorem dX12_atLeast_24 : decode cX12_atLeast 24 = .ok (.ifCond .ge 11, 3) := by decide +kernel
theorem dX12_atLeast_27 : decode cX12_atLeast 27 = .ok (.aload_n 0, 1) := by decide +kernel
theorem dX12_atLeast_28 : decode cX12_atLeast 28 = .ok (.getfield 595, 3) := by decide +kernel
theorem dX12_atLeast_31 : decode cX12_atLeast 31 = .ok (.i2l, 1) := by decide +kernel
theorem dX12_atLeast_32 : decode cX12_atLeast 32 = .ok (.goto 31, 3) := by decide +kernel
theorem dX12_atLeast_35 : decode cX12_atLeast 35 = .ok (.lload 4, 2) := by decide +kernel
theorem dX12_atLeast_37 : decode cX12_atLeast 37 = .ok (.goto 26, 3) := by decide +kernel
theorem dX12_atLeast_40 : decode cX12_atLeast 40 = .ok (.lload 4, 2) := by decide +kernel
theorem dX12_atLeast_42 : decode cX12_atLeast 42 = .ok (.aload_n 0, 1) := by decide +kernel
theorem dX12_atLeast_43 : decode cX12_atLeast 43 = .ok (.getfield 595, 3) := by decide +kernel
theorem dX12_atLeast_46 : decode cX12_atLeast 46 = .ok (.i2l, 1) := by decide +kernel
theorem dX12_atLeast_47 : decode cX12_atLeast 47 = .ok (.lneg, 1) := by decide +kernel
theorem dX12_atLeast_48 : decode cX12_atLeast 48 = .ok (.lcmp, 1) := by decide +kernel
theorem dX12_atLeast_49 : decode cX12_atLeast 49 = .ok (.ifCond .le 12, 3) := by decide +kernel
theorem dX12_atLeast_52 : decode cX12_atLeast 52 = .ok (.aload_n 0, 1) := by decide +kernel
theorem dX12_atLeast_53 : decode cX12_atLeast 53 = .ok (.getfield 595, 3) := by decide +kernel
theorem dX12_atLeast_56 : decode cX12_atLeast 56 = .ok (.i2l, 1) := by decide +kernel
theorem dX12_atLeast_57 : decode cX12_atLeast 57 = .ok (.lneg, 1) := by decide +kernel
theorem dX12_atLeast_58 : decode cX12_atLeast 58 = .ok (.goto 5, 3) := by decide +kernel
theorem dX12_atLeast_61 : decode cX12_atLeast 61 = .ok (.lload 4, 2) := by decide +kernel
theorem dX12_atLeast_63 : decode cX12_atLeast 63 = .ok (.lreturn, 1) := by decide +kernel
def F_X12_atLeast (l1 : Int32) (l2 : Int64) (l4 : Int64) (V : sv_V) : Option (Int64 × sv_V) := if (l1 &&& (8 : Int32)) = 0 then (some (l4, V)) else (if (lg_cmp l2 (0 : Int64)) < 0 then (if (lg_cmp l4 (-((V.1 146 83).toInt64))) ≤ 0 then (some (l4, V)) else (some (-((V.1 146 83).toInt64), V))) else (if 0 ≤ (lg_cmp l4 ((V.1 146 83).toInt64)) then (some (l4, V)) else (some ((V.1 146 83).toInt64, V))))
set_option maxRecDepth 20000 in
theorem t_X12_atLeast {g : sx_G} (hG : sx_Go g) {P : Option Value → sv_V → Prop} {r : Int64} {Vr : sv_V} (hP : P (some (.long r)) Vr) {l1 : Int32} {l2 : Int64} {l4 : Int64} {V : sv_V} (h : F_X12_atLeast l1 l2 l4 V = some (r, Vr)) : sv_N g qX12_atLeast 0 0 [(0, .ref 146), (1, .int l1), (2, .long l2), (4, .long l4)] [] V P := by
  unfold F_X12_atLeast at h
  refine sx_iload_n (pc := 0) dX12_atLeast_0 sx_m1 ?_
  refine sx_bipush (pc := 1) (v := 8) dX12_atLeast_1 (by decide) ?_
  refine sx_iand (pc := 3) dX12_atLeast_3 ?_
  refine sx_if_ne (pc := 4) (tgt := 10) dX12_atLeast_4 (by decide) (fun c1 => ?_) (fun c1 => ?_)
  · have h := sx_neg c1 h
    refine sx_lload_n (pc := 10) dX12_atLeast_10 sx_m2 ?_
    refine sx_lconst (pc := 11) (v := 0) dX12_atLeast_11 rfl ?_
    refine sx_lcmp (pc := 12) dX12_atLeast_12 ?_
    refine sx_if_lt (pc := 13) (tgt := 40) dX12_atLeast_13 (by decide) (fun c2 => ?_) (fun c2 => ?_)
    · have h := sx_pos c2 h
      refine sx_lload (pc := 40) dX12_atLeast_40 sx_m3 ?_
      refine sx_aload_n (pc := 42) dX12_atLeast_42 sx_m0 ?_
      refine sv_getI (pc := 43) hG dX12_atLeast_43 f_12_595 lay_146 rfl ?_
      refine sx_i2l (pc := 46) dX12_atLeast_46 ?_
      refine sx_lneg (pc := 47) dX12_atLeast_47 ?_
      refine sx_lcmp (pc := 48) dX12_atLeast_48 ?_
      refine sx_if_le (pc := 49) (tgt := 61) dX12_atLeast_49 (by decide) (fun c3 => ?_) (fun c3 => ?_)
      · have h := sx_pos c3 h
        refine sx_lload (pc := 61) dX12_atLeast_61 sx_m3 ?_
        exact sv_lret (pc := 63) dX12_atLeast_63 rfl h hP
      · have h := sx_neg c3 h
        refine sx_aload_n (pc := 52) dX12_atLeast_52 sx_m0 ?_
        refine sv_getI (pc := 53) hG dX12_atLeast_53 f_12_595 lay_146 rfl ?_
        refine sx_i2l (pc := 56) dX12_atLeast_56 ?_
        refine sx_lneg (pc := 57) dX12_atLeast_57 ?_
        refine sx_goto (pc := 58) (tgt := 63) dX12_atLeast_58 (by decide) ?_
        exact sv_lret (pc := 63) dX12_atLeast_63 rfl h hP
    · have h := sx_neg c2 h
      refine sx_lload (pc := 16) dX12_atLeast_16 sx_m3 ?_
      refine sx_aload_n (pc := 18) dX12_atLeast_18 sx_m0 ?_
      refine sv_getI (pc := 19) hG dX12_atLeast_19 f_12_595 lay_146 rfl ?_
      refine sx_i2l (pc := 22) dX12_atLeast_22 ?_
      refine sx_lcmp (pc := 23) dX12_atLeast_23 ?_
      refine sx_if_ge (pc := 24) (tgt := 35) dX12_atLeast_24 (by decide) (fun c4 => ?_) (fun c4 => ?_)
      · have h := sx_pos c4 h
        refine sx_lload (pc := 35) dX12_atLeast_35 sx_m3 ?_
        refine sx_goto (pc := 37) (tgt := 63) dX12_atLeast_37 (by decide) ?_
        exact sv_lret (pc := 63) dX12_atLeast_63 rfl h hP
      · have h := sx_neg c4 h
        refine sx_aload_n (pc := 27) dX12_atLeast_27 sx_m0 ?_
        refine sv_getI (pc := 28) hG dX12_atLeast_28 f_12_595 lay_146 rfl ?_
        refine sx_i2l (pc := 31) dX12_atLeast_31 ?_
        refine sx_goto (pc := 32) (tgt := 63) dX12_atLeast_32 (by decide) ?_
        exact sv_lret (pc := 63) dX12_atLeast_63 rfl h hP
  · have h := sx_pos c1 h
    refine sx_lload (pc := 7) dX12_atLeast_7 sx_m3 ?_
    exact sv_lret (pc := 9) dX12_atLeast_9 rfl h hP
theorem dX12_ownRounding_0 : decode cX12_ownRounding 0 = .ok (.aload_n 0, 1) := by decide +kernel
theorem dX12_ownRounding_1 : decode cX12_ownRounding 1 = .ok (.iconst 1, 1) := by decide +kernel
theorem dX12_ownRounding_2 : decode cX12_ownRounding 2 = .ok (.invokevirtual 576, 3) := by decide +kernel
theorem dX12_ownRounding_5 : decode cX12_ownRounding 5 = .ok (.ifCond .ne 4, 3) := by decide +kernel
theorem dX12_ownRounding_8 : decode cX12_ownRounding 8 = .ok (.return_, 1) := by decide +kernel
theorem dX12_ownRounding_9 : decode cX12_ownRounding 9 = .ok (.aload_n 0, 1) := by decide +kernel
theorem dX12_ownRounding_10 : decode cX12_ownRounding 10 = .ok (.invokevirtual 579, 3) := by decide +kernel
theorem dX12_ownRounding_13 : decode cX12_ownRounding 13 = .ok (.istore_n 2, 1) := by decide +kernel
theorem dX12_ownRounding_14 : decode cX12_ownRounding 14 = .ok (.iload_n 2, 1) := by decide +kernel
theorem dX12_ownRounding_15 : decode cX12_ownRounding 15 = .ok (.bipush 6, 2) := by decide +kernel
theorem dX12_ownRounding_17 : decode cX12_ownRounding 17 = .ok (.ishr, 1) := by decide +kernel
theorem dX12_ownRounding_18 : decode cX12_ownRounding 18 = .ok (.iconst 3, 1) := by decide +kernel
theorem dX12_ownRounding_19 : decode cX12_ownRounding 19 = .ok (.iand, 1) := by decide +kernel
theorem dX12_ownRounding_20 : decode cX12_ownRounding 20 = .ok (.istore_n 3, 1) := by decide +kernel
theorem dX12_ownRounding_21 : decode cX12_ownRounding 21 = .ok (.iload_n 3, 1) := by decide +kernel
theorem dX12_ownRounding_22 : decode cX12_ownRounding 22 = .ok (.iconst 3, 1) := by decide +kernel
theorem dX12_ownRounding_23 : decode cX12_ownRounding 23 = .ok (.if_icmp .ne 10, 3) := by decide +kernel
theorem dX12_ownRounding_26 : decode cX12_ownRounding 26 = .ok (.aload_n 0, 1) := by decide +kernel
theorem dX12_ownRounding_27 : decode cX12_ownRounding 27 = .ok (.bipush 11, 2) := by decide +kernel
theorem dX12_ownRounding_29 : decode cX12_ownRounding 29 = .ok (.invokevirtual 421, 3) := by decide +kernel
theorem dX12_ownRounding_32 : decode cX12_ownRounding 32 = .ok (.return_, 1) := by decide +kernel
theorem dX12_ownRounding_33 : decode cX12_ownRounding 33 = .ok (.iload_n 1, 1) := by decide +kernel
theorem dX12_ownRounding_34 : decode cX12_ownRounding 34 = .ok (.bipush 118, 2) := by decide +kernel
theorem dX12_ownRounding_36 : decode cX12_ownRounding 36 = .ok (.if_icmp .ne 10, 3) := by decide +kernel
theorem dX12_ownRounding_39 : decode cX12_ownRounding 39 = .ok (.bipush 32, 2) := by decide +kernel
theorem dX12_ownRounding_41 : decode cX12_ownRounding 41 = .ok (.iload_n 3, 1) := by decide +kernel
theorem dX12_ownRounding_42 : decode cX12_ownRounding 42 = .ok (.ishl, 1) := by decide +kernel
theorem dX12_ownRounding_43 : decode cX12_ownRounding 43 = .ok (.goto 24, 3) := by decide +kernel
theorem dX12_ownRounding_46 : decode cX12_ownRounding 46 = .ok (.iload_n 3, 1) := by decide +kernel
theorem dX12_ownRounding_47 : decode cX12_ownRounding 47 = .ok (.ifCond .ne 8, 3) := by decide +kernel
theorem dX12_ownRounding_50 : decode cX12_ownRounding 50 = .ok (.bipush 22, 2) := by decide +kernel
theorem dX12_ownRounding_52 : decode cX12_ownRounding 52 = .ok (.goto 15, 3) := by decide +kernel
theorem dX12_ownRounding_55 : decode cX12_ownRounding 55 = .ok (.iload_n 3, 1) := by decide +kernel
theorem dX12_ownRounding_56 : decode cX12_ownRounding 56 = .ok (.iconst 1, 1) := by decide +kernel
theorem dX12_ownRounding_57 : decode cX12_ownRounding 57 = .ok (.if_icmp .ne 8, 3) := by decide +kernel
theorem dX12_ownRounding_60 : decode cX12_ownRounding 60 = .ok (.bipush 45, 2) := by decide +kernel
theorem dX12_ownRounding_62 : decode cX12_ownRounding 62 = .ok (.goto 5, 3) := by decide +kernel
theorem dX12_ownRounding_65 : decode cX12_ownRounding 65 = .ok (.bipush 90, 2) := by decide +kernel
theorem dX12_ownRounding_67 : decode cX12_ownRounding 67 = .ok (.istore 4, 2) := by decide +kernel
theorem dX12_ownRounding_69 : decode cX12_ownRounding 69 = .ok (.iload_n 2, 1) := by decide +kernel
theorem dX12_ownRounding_70 : decode cX12_ownRounding 70 = .ok (.bipush 15, 2) := by decide +kernel
theorem dX12_ownRounding_72 : decode cX12_ownRounding 72 = .ok (.iand, 1) := by decide +kernel
theorem dX12_ownRounding_73 : decode cX12_ownRounding 73 = .ok (.istore 5, 2) := by decide +kernel
theorem dX12_ownRounding_75 : decode cX12_ownRounding 75 = .ok (.aload_n 0, 1) := by decide +kernel
theorem dX12_ownRounding_76 : decode cX12_ownRounding 76 = .ok (.iload_n 1, 1) := by decide +kernel
theorem dX12_ownRounding_77 : decode cX12_ownRounding 77 = .ok (.iload 4, 2) := by decide +kernel
theorem dX12_ownRounding_79 : decode cX12_ownRounding 79 = .ok (.iload 4, 2) := by decide +kernel
theorem dX12_ownRounding_81 : decode cX12_ownRounding 81 = .ok (.iload_n 2, 1) := by decide +kernel
theorem dX12_ownRounding_82 : decode cX12_ownRounding 82 = .ok (.iconst 4, 1) := by decide +kernel
theorem dX12_ownRounding_83 : decode cX12_ownRounding 83 = .ok (.ishr, 1) := by decide +kernel
theorem dX12_ownRounding_84 : decode cX12_ownRounding 84 = .ok (.iconst 3, 1) := by decide +kernel
theorem dX12_ownRounding_85 : decode cX12_ownRounding 85 = .ok (.iand, 1) := by decide +kernel
theorem dX12_ownRounding_86 : decode cX12_ownRounding 86 = .ok (.imul, 1) := by decide +kernel
theorem dX12_ownRounding_87 : decode cX12_ownRounding 87 = .ok (.iconst 4, 1) := by decide +kernel
theorem dX12_ownRounding_88 : decode cX12_ownRounding 88 = .ok (.idiv, 1) := by decide +kernel
theorem dX12_ownRounding_89 : decode cX12_ownRounding 89 = .ok (.iload 5, 2) := by decide +kernel
theorem dX12_ownRounding_91 : decode cX12_ownRounding 91 = .ok (.ifCond .ne 10, 3) := by decide +kernel
theorem dX12_ownRounding_94 : decode cX12_ownRounding 94 = .ok (.iload 4, 2) := by decide +kernel
theorem dX12_ownRounding_96 : decode cX12_ownRounding 96 = .ok (.iconst 1, 1) := by decide +kernel
theorem dX12_ownRounding_97 : decode cX12_ownRounding 97 = .ok (.isub, 1) := by decide +kernel
theorem dX12_ownRounding_98 : decode cX12_ownRounding 98 = .ok (.goto 13, 3) := by decide +kernel
theorem dX12_ownRounding_101 : decode cX12_ownRounding 101 = .ok (.iload 5, 2) := by decide +kernel
theorem dX12_ownRounding_103 : decode cX12_ownRounding 103 = .ok (.iconst 4, 1) := by decide +kernel
theorem dX12_ownRounding_104 : decode cX12_ownRounding 104 = .ok (.isub, 1) := by decide +kernel
theorem dX12_ownRounding_105 : decode cX12_ownRounding 105 = .ok (.iload 4, 2) := by decide +kernel
theorem dX12_ownRounding_107 : decode cX12_ownRounding 107 = .ok (.imul, 1) := by decide +kernel
theorem dX12_ownRounding_108 : decode cX12_ownRounding 108 = .ok (.bipush 8, 2) := by decide +kernel
theorem dX12_ownRounding_110 : decode cX12_ownRounding 110 = .ok (.idiv, 1) := by decide +kernel
theorem dX12_ownRounding_111 : decode cX12_ownRounding 111 = .ok (.invokevirtual 472, 3) := by decide +kernel
theorem dX12_ownRounding_114 : decode cX12_ownRounding 114 = .ok (.return_, 1) := by decide +kernel
def B_X12_ownRounding_111  (s1 : Int32) (s2 : Int32) (s3 : Int32) (s4 : Int32) (V : sv_V) : Option sv_V := (F_X12_setRounding s1 s2 s3 s4 V).bind (fun V1 => some V1)
set_option maxRecDepth 20000 in
theorem tB_X12_ownRounding_111 {g : sx_G} (hG : sx_Go g) {P : Option Value → sv_V → Prop} {Vr : sv_V} (hP : P none Vr)   {s1 : Int32} {s2 : Int32} {s3 : Int32} {s4 : Int32} {V : sv_V} (h : B_X12_ownRounding_111  s1 s2 s3 s4 V = some Vr) : sv_N g qX12_ownRounding 2 111 [] [.int s4, .int s3, .int s2, .int s1, .ref 146] V P := by
  unfold B_X12_ownRounding_111 at h
  obtain ⟨V1, g2, h⟩ := sx_bnd h
  refine sv_cV (pc := 111) (y := qX12_setRounding) (o := none) (as := [.int s1, .int s2, .int s3, .int s4]) (V1 := V1) hG dX12_ownRounding_111 l_X12_472 y0X12_setRounding yvX12_setRounding rfl (Nat.le_of_ble_eq_true rfl) lay_146 kr_12 (by decide) (Nat.le_of_ble_eq_true rfl) rfl rfl rfl (t_X12_setRounding hG ⟨rfl, rfl⟩ g2) ?_
  exact sv_vret (pc := 114) dX12_ownRounding_114 rfl h hP
def B_X12_ownRounding_67  (l1 : Int32) (l2 : Int32) (s0 : Int32) (V : sv_V) : Option sv_V := sx_let (l2 &&& (15 : Int32)) (fun x3 => if x3 = 0 then (B_X12_ownRounding_111  l1 s0 ((s0 * ((l2 >>> ((4 : Int32) &&& 31)) &&& (3 : Int32))) / (4 : Int32)) (s0 - (1 : Int32)) V) else (B_X12_ownRounding_111  l1 s0 ((s0 * ((l2 >>> ((4 : Int32) &&& 31)) &&& (3 : Int32))) / (4 : Int32)) (((x3 - (4 : Int32)) * s0) / (8 : Int32)) V))
set_option maxRecDepth 20000 in
theorem tB_X12_ownRounding_67 {g : sx_G} (hG : sx_Go g) {P : Option Value → sv_V → Prop} {Vr : sv_V} (hP : P none Vr)   {l1 : Int32} {l2 : Int32} {s0 : Int32} {V : sv_V} (h : B_X12_ownRounding_67  l1 l2 s0 V = some Vr) : sv_N g qX12_ownRounding 2 67 [(0, .ref 146), (1, .int l1), (2, .int l2)] [.int s0] V P := by
  unfold B_X12_ownRounding_67 at h
  refine sx_istore (pc := 67) (lo' := [(4, .int s0), (0, .ref 146), (1, .int l1), (2, .int l2)]) dX12_ownRounding_67 (by decide) rfl ?_
  refine sx_iload_n (pc := 69) dX12_ownRounding_69 sx_m3 ?_
  refine sx_bipush (pc := 70) (v := 15) dX12_ownRounding_70 (by decide) ?_
  refine sx_iand (pc := 72) dX12_ownRounding_72 ?_
  refine sv_tI (fun x3 hx3 => ?_)
  have h := sx_letE hx3 h
  refine sx_istore (pc := 73) (lo' := [(5, .int x3), (4, .int s0), (0, .ref 146), (1, .int l1), (2, .int l2)]) dX12_ownRounding_73 (by decide) rfl ?_
  refine sx_aload_n (pc := 75) dX12_ownRounding_75 sx_m2 ?_
  refine sx_iload_n (pc := 76) dX12_ownRounding_76 sx_m3 ?_
  refine sx_iload (pc := 77) dX12_ownRounding_77 sx_m1 ?_
  refine sx_iload (pc := 79) dX12_ownRounding_79 sx_m1 ?_
  refine sx_iload_n (pc := 81) dX12_ownRounding_81 sx_m4 ?_
  refine sx_iconst (pc := 82) (v := 4) dX12_ownRounding_82 (by decide) ?_
  refine sx_ishr (pc := 83) dX12_ownRounding_83 ?_
  refine sx_iconst (pc := 84) (v := 3) dX12_ownRounding_84 (by decide) ?_
  refine sx_iand (pc := 85) dX12_ownRounding_85 ?_
  refine sx_imul (pc := 86) dX12_ownRounding_86 ?_
  refine sx_iconst (pc := 87) (v := 4) dX12_ownRounding_87 (by decide) ?_
  refine sx_idiv (pc := 88) dX12_ownRounding_88 (by decide) ?_
  refine sx_iload (pc := 89) dX12_ownRounding_89 sx_m0 ?_
  refine sx_if_ne (pc := 91) (tgt := 101) dX12_ownRounding_91 (by decide) (fun c4 => ?_) (fun c4 => ?_)
  · have h := sx_neg c4 h
    refine sx_iload (pc := 101) dX12_ownRounding_101 sx_m0 ?_
    refine sx_iconst (pc := 103) (v := 4) dX12_ownRounding_103 (by decide) ?_
    refine sx_isub (pc := 104) dX12_ownRounding_104 ?_
    refine sx_iload (pc := 105) dX12_ownRounding_105 sx_m1 ?_
    refine sx_imul (pc := 107) dX12_ownRounding_107 ?_
    refine sx_bipush (pc := 108) (v := 8) dX12_ownRounding_108 (by decide) ?_
    refine sx_idiv (pc := 110) dX12_ownRounding_110 (by decide) ?_
    refine sx_wk sx_s0 ?_
    exact tB_X12_ownRounding_111 hG hP  h
  · have h := sx_pos c4 h
    refine sx_iload (pc := 94) dX12_ownRounding_94 sx_m1 ?_
    refine sx_iconst (pc := 96) (v := 1) dX12_ownRounding_96 (by decide) ?_
    refine sx_isub (pc := 97) dX12_ownRounding_97 ?_
    refine sx_goto (pc := 98) (tgt := 111) dX12_ownRounding_98 (by decide) ?_
    refine sx_wk sx_s0 ?_
    exact tB_X12_ownRounding_111 hG hP  h
def F_X12_ownRounding (l1 : Int32) (V : sv_V) : Option sv_V := (F_X12_has (1 : Int32) V).bind (fun (x7, V5) => if x7 = 0 then (some V5) else ((F_X12_pop  V5).bind (fun (x11, V9) => sx_let ((x11 >>> ((6 : Int32) &&& 31)) &&& (3 : Int32)) (fun x12 => if x12 = (3 : Int32) then ((F_X12_fail (11 : Int32) V9).bind (fun V17 => some V17)) else (if l1 = (118 : Int32) then (B_X12_ownRounding_67  l1 x11 ((32 : Int32) <<< (x12 &&& 31)) V9) else (if x12 = 0 then (B_X12_ownRounding_67  l1 x11 (22 : Int32) V9) else (if x12 = (1 : Int32) then (B_X12_ownRounding_67  l1 x11 (45 : Int32) V9) else (B_X12_ownRounding_67  l1 x11 (90 : Int32) V9))))))))
set_option maxRecDepth 20000 in
theorem t_X12_ownRounding {g : sx_G} (hG : sx_Go g) {P : Option Value → sv_V → Prop} {Vr : sv_V} (hP : P none Vr) {l1 : Int32} {V : sv_V} (h : F_X12_ownRounding l1 V = some Vr) : sv_N g qX12_ownRounding 2 0 [(0, .ref 146), (1, .int l1)] [] V P := by
  unfold F_X12_ownRounding at h
  refine sx_aload_n (pc := 0) dX12_ownRounding_0 sx_m0 ?_
  refine sx_iconst (pc := 1) (v := 1) dX12_ownRounding_1 (by decide) ?_
  obtain ⟨⟨x7, V5⟩, g6, h⟩ := sx_bnd h
  refine sv_cV (pc := 2) (y := qX12_has) (o := (some (.int x7))) (as := [.int (1 : Int32)]) (V1 := V5) hG dX12_ownRounding_2 l_X12_576 y0X12_has yvX12_has rfl (Nat.le_of_ble_eq_true rfl) lay_146 kr_12 (by decide) (Nat.le_of_ble_eq_true rfl) rfl rfl rfl (t_X12_has hG ⟨rfl, rfl⟩ g6) ?_
  refine sx_if_ne (pc := 5) (tgt := 9) dX12_ownRounding_5 (by decide) (fun c8 => ?_) (fun c8 => ?_)
  · have h := sx_neg c8 h
    refine sx_aload_n (pc := 9) dX12_ownRounding_9 sx_m0 ?_
    obtain ⟨⟨x11, V9⟩, g10, h⟩ := sx_bnd h
    refine sv_cV (pc := 10) (y := qX12_pop) (o := (some (.int x11))) (as := []) (V1 := V9) hG dX12_ownRounding_10 l_X12_579 y0X12_pop yvX12_pop rfl (Nat.le_of_ble_eq_true rfl) lay_146 kr_12 (by decide) (Nat.le_of_ble_eq_true rfl) rfl rfl rfl (t_X12_pop hG ⟨rfl, rfl⟩ g10) ?_
    refine sx_istore_n (pc := 13) (lo' := [(2, .int x11), (0, .ref 146), (1, .int l1)]) dX12_ownRounding_13 (by decide) rfl ?_
    refine sx_iload_n (pc := 14) dX12_ownRounding_14 sx_m0 ?_
    refine sx_bipush (pc := 15) (v := 6) dX12_ownRounding_15 (by decide) ?_
    refine sx_ishr (pc := 17) dX12_ownRounding_17 ?_
    refine sx_iconst (pc := 18) (v := 3) dX12_ownRounding_18 (by decide) ?_
    refine sx_iand (pc := 19) dX12_ownRounding_19 ?_
    refine sv_tI (fun x12 hx12 => ?_)
    have h := sx_letE hx12 h
    refine sx_istore_n (pc := 20) (lo' := [(3, .int x12), (2, .int x11), (0, .ref 146), (1, .int l1)]) dX12_ownRounding_20 (by decide) rfl ?_
    refine sx_iload_n (pc := 21) dX12_ownRounding_21 sx_m0 ?_
    refine sx_iconst (pc := 22) (v := 3) dX12_ownRounding_22 (by decide) ?_
    refine sx_icmp_ne (pc := 23) (tgt := 33) dX12_ownRounding_23 (by decide) (fun c13 => ?_) (fun c13 => ?_)
    · have h := sx_neg c13 h
      refine sx_iload_n (pc := 33) dX12_ownRounding_33 sx_m3 ?_
      refine sx_bipush (pc := 34) (v := 118) dX12_ownRounding_34 (by decide) ?_
      refine sx_icmp_ne (pc := 36) (tgt := 46) dX12_ownRounding_36 (by decide) (fun c14 => ?_) (fun c14 => ?_)
      · have h := sx_neg c14 h
        refine sx_iload_n (pc := 46) dX12_ownRounding_46 sx_m0 ?_
        refine sx_if_ne (pc := 47) (tgt := 55) dX12_ownRounding_47 (by decide) (fun c15 => ?_) (fun c15 => ?_)
        · have h := sx_neg c15 h
          refine sx_iload_n (pc := 55) dX12_ownRounding_55 sx_m0 ?_
          refine sx_iconst (pc := 56) (v := 1) dX12_ownRounding_56 (by decide) ?_
          refine sx_icmp_ne (pc := 57) (tgt := 65) dX12_ownRounding_57 (by decide) (fun c16 => ?_) (fun c16 => ?_)
          · have h := sx_neg c16 h
            refine sx_bipush (pc := 65) (v := 90) dX12_ownRounding_65 (by decide) ?_
            refine sx_wk (sx_s1 sx_m2 (sx_s1 sx_m3 (sx_s1 sx_m1 sx_s0))) ?_
            exact tB_X12_ownRounding_67 hG hP  h
          · have h := sx_pos c16 h
            refine sx_bipush (pc := 60) (v := 45) dX12_ownRounding_60 (by decide) ?_
            refine sx_goto (pc := 62) (tgt := 67) dX12_ownRounding_62 (by decide) ?_
            refine sx_wk (sx_s1 sx_m2 (sx_s1 sx_m3 (sx_s1 sx_m1 sx_s0))) ?_
            exact tB_X12_ownRounding_67 hG hP  h
        · have h := sx_pos c15 h
          refine sx_bipush (pc := 50) (v := 22) dX12_ownRounding_50 (by decide) ?_
          refine sx_goto (pc := 52) (tgt := 67) dX12_ownRounding_52 (by decide) ?_
          refine sx_wk (sx_s1 sx_m2 (sx_s1 sx_m3 (sx_s1 sx_m1 sx_s0))) ?_
          exact tB_X12_ownRounding_67 hG hP  h
      · have h := sx_pos c14 h
        refine sx_bipush (pc := 39) (v := 32) dX12_ownRounding_39 (by decide) ?_
        refine sx_iload_n (pc := 41) dX12_ownRounding_41 sx_m0 ?_
        refine sx_ishl (pc := 42) dX12_ownRounding_42 ?_
        refine sx_goto (pc := 43) (tgt := 67) dX12_ownRounding_43 (by decide) ?_
        refine sx_wk (sx_s1 sx_m2 (sx_s1 sx_m3 (sx_s1 sx_m1 sx_s0))) ?_
        exact tB_X12_ownRounding_67 hG hP  h
    · have h := sx_pos c13 h
      refine sx_aload_n (pc := 26) dX12_ownRounding_26 sx_m2 ?_
      refine sx_bipush (pc := 27) (v := 11) dX12_ownRounding_27 (by decide) ?_
      obtain ⟨V17, g18, h⟩ := sx_bnd h
      refine sv_cV (pc := 29) (y := qX12_fail) (o := none) (as := [.int (11 : Int32)]) (V1 := V17) hG dX12_ownRounding_29 l_X12_421 y0X12_fail yvX12_fail rfl (Nat.le_of_ble_eq_true rfl) lay_146 kr_12 (by decide) (Nat.le_of_ble_eq_true rfl) rfl rfl rfl (t_X12_fail hG ⟨rfl, rfl⟩ g18) ?_
      exact sv_vret (pc := 32) dX12_ownRounding_32 rfl h hP
  · have h := sx_pos c8 h
    exact sv_vret (pc := 8) dX12_ownRounding_8 rfl h hP
theorem dX12_keep_0 : decode cX12_keep 0 = .ok (.aload_n 0, 1) := by decide +kernel
theorem dX12_keep_1 : decode cX12_keep 1 = .ok (.getfield 140, 3) := by decide +kernel
theorem dX12_keep_4 : decode cX12_keep 4 = .ok (.iconst 0, 1) := by decide +kernel
theorem dX12_keep_5 : decode cX12_keep 5 = .ok (.aload_n 0, 1) := by decide +kernel
theorem dX12_keep_6 : decode cX12_keep 6 = .ok (.getfield 605, 3) := by decide +kernel
theorem dX12_keep_9 : decode cX12_keep 9 = .ok (.iastore, 1) := by decide +kernel
theorem dX12_keep_10 : decode cX12_keep 10 = .ok (.aload_n 0, 1) := by decide +kernel
theorem dX12_keep_11 : decode cX12_keep 11 = .ok (.getfield 140, 3) := by decide +kernel
theorem dX12_keep_14 : decode cX12_keep 14 = .ok (.iconst 1, 1) := by decide +kernel
theorem dX12_keep_15 : decode cX12_keep 15 = .ok (.aload_n 0, 1) := by decide +kernel
theorem dX12_keep_16 : decode cX12_keep 16 = .ok (.getfield 615, 3) := by decide +kernel
theorem dX12_keep_19 : decode cX12_keep 19 = .ok (.iastore, 1) := by decide +kernel
theorem dX12_keep_20 : decode cX12_keep 20 = .ok (.aload_n 0, 1) := by decide +kernel
theorem dX12_keep_21 : decode cX12_keep 21 = .ok (.getfield 140, 3) := by decide +kernel
theorem dX12_keep_24 : decode cX12_keep 24 = .ok (.iconst 2, 1) := by decide +kernel
theorem dX12_keep_25 : decode cX12_keep 25 = .ok (.aload_n 0, 1) := by decide +kernel
theorem dX12_keep_26 : decode cX12_keep 26 = .ok (.getfield 608, 3) := by decide +kernel
theorem dX12_keep_29 : decode cX12_keep 29 = .ok (.iastore, 1) := by decide +kernel
theorem dX12_keep_30 : decode cX12_keep 30 = .ok (.aload_n 0, 1) := by decide +kernel
theorem dX12_keep_31 : decode cX12_keep 31 = .ok (.getfield 140, 3) := by decide +kernel
theorem dX12_keep_34 : decode cX12_keep 34 = .ok (.iconst 3, 1) := by decide +kernel
theorem dX12_keep_35 : decode cX12_keep 35 = .ok (.aload_n 0, 1) := by decide +kernel
theorem dX12_keep_36 : decode cX12_keep 36 = .ok (.getfield 595, 3) := by decide +kernel
theorem dX12_keep_39 : decode cX12_keep 39 = .ok (.iastore, 1) := by decide +kernel
theorem dX12_keep_40 : decode cX12_keep 40 = .ok (.aload_n 0, 1) := by decide +kernel
theorem dX12_keep_41 : decode cX12_keep 41 = .ok (.getfield 140, 3) := by decide +kernel
theorem dX12_keep_44 : decode cX12_keep 44 = .ok (.iconst 4, 1) := by decide +kernel
theorem dX12_keep_45 : decode cX12_keep 45 = .ok (.aload_n 0, 1) := by decide +kernel
theorem dX12_keep_46 : decode cX12_keep 46 = .ok (.getfield 683, 3) := by decide +kernel
theorem dX12_keep_49 : decode cX12_keep 49 = .ok (.ifCond .eq 7, 3) := by decide +kernel
theorem dX12_keep_52 : decode cX12_keep 52 = .ok (.iconst 1, 1) := by decide +kernel
theorem dX12_keep_53 : decode cX12_keep 53 = .ok (.goto 4, 3) := by decide +kernel
theorem dX12_keep_56 : decode cX12_keep 56 = .ok (.iconst 0, 1) := by decide +kernel
theorem dX12_keep_57 : decode cX12_keep 57 = .ok (.iastore, 1) := by decide +kernel
theorem dX12_keep_58 : decode cX12_keep 58 = .ok (.aload_n 0, 1) := by decide +kernel
theorem dX12_keep_59 : decode cX12_keep 59 = .ok (.getfield 140, 3) := by decide +kernel
theorem dX12_keep_62 : decode cX12_keep 62 = .ok (.iconst 5, 1) := by decide +kernel
theorem dX12_keep_63 : decode cX12_keep 63 = .ok (.aload_n 0, 1) := by decide +kernel
theorem dX12_keep_64 : decode cX12_keep 64 = .ok (.getfield 700, 3) := by decide +kernel
theorem dX12_keep_67 : decode cX12_keep 67 = .ok (.iastore, 1) := by decide +kernel
theorem dX12_keep_68 : decode cX12_keep 68 = .ok (.aload_n 0, 1) := by decide +kernel
theorem dX12_keep_69 : decode cX12_keep 69 = .ok (.getfield 140, 3) := by decide +kernel
theorem dX12_keep_72 : decode cX12_keep 72 = .ok (.bipush 6, 2) := by decide +kernel
theorem dX12_keep_74 : decode cX12_keep 74 = .ok (.aload_n 0, 1) := by decide +kernel
theorem dX12_keep_75 : decode cX12_keep 75 = .ok (.getfield 703, 3) := by decide +kernel
theorem dX12_keep_78 : decode cX12_keep 78 = .ok (.iastore, 1) := by decide +kernel
theorem dX12_keep_79 : decode cX12_keep 79 = .ok (.aload_n 0, 1) := by decide +kernel
theorem dX12_keep_80 : decode cX12_keep 80 = .ok (.getfield 140, 3) := by decide +kernel
theorem dX12_keep_83 : decode cX12_keep 83 = .ok (.bipush 7, 2) := by decide +kernel
theorem dX12_keep_85 : decode cX12_keep 85 = .ok (.aload_n 0, 1) := by decide +kernel
theorem dX12_keep_86 : decode cX12_keep 86 = .ok (.getfield 739, 3) := by decide +kernel
theorem dX12_keep_89 : decode cX12_keep 89 = .ok (.iastore, 1) := by decide +kernel
theorem dX12_keep_90 : decode cX12_keep 90 = .ok (.aload_n 0, 1) := by decide +kernel
theorem dX12_keep_91 : decode cX12_keep 91 = .ok (.getfield 140, 3) := by decide +kernel
theorem dX12_keep_94 : decode cX12_keep 94 = .ok (.bipush 8, 2) := by decide +kernel
theorem dX12_keep_96 : decode cX12_keep 96 = .ok (.aload_n 0, 1) := by decide +kernel
theorem dX12_keep_97 : decode cX12_keep 97 = .ok (.getfield 747, 3) := by decide +kernel
theorem dX12_keep_100 : decode cX12_keep 100 = .ok (.iastore, 1) := by decide +kernel
theorem dX12_keep_101 : decode cX12_keep 101 = .ok (.iconst 0, 1) := by decide +kernel
theorem dX12_keep_102 : decode cX12_keep 102 = .ok (.istore_n 1, 1) := by decide +kernel
theorem dX12_keep_103 : decode cX12_keep 103 = .ok (.iload_n 1, 1) := by decide +kernel
theorem dX12_keep_104 : decode cX12_keep 104 = .ok (.sipush 256, 3) := by decide +kernel
theorem dX12_keep_107 : decode cX12_keep 107 = .ok (.if_icmp .ge 21, 3) := by decide +kernel
theorem dX12_keep_110 : decode cX12_keep 110 = .ok (.aload_n 0, 1) := by decide +kernel
theorem dX12_keep_111 : decode cX12_keep 111 = .ok (.getfield 131, 3) := by decide +kernel
theorem dX12_keep_114 : decode cX12_keep 114 = .ok (.iload_n 1, 1) := by decide +kernel
theorem dX12_keep_115 : decode cX12_keep 115 = .ok (.aload_n 0, 1) := by decide +kernel
theorem dX12_keep_116 : decode cX12_keep 116 = .ok (.getfield 64, 3) := by decide +kernel
theorem dX12_keep_119 : decode cX12_keep 119 = .ok (.iload_n 1, 1) := by decide +kernel
theorem dX12_keep_120 : decode cX12_keep 120 = .ok (.iaload, 1) := by decide +kernel
theorem dX12_keep_121 : decode cX12_keep 121 = .ok (.iastore, 1) := by decide +kernel
theorem dX12_keep_122 : decode cX12_keep 122 = .ok (.iinc 1 1, 3) := by decide +kernel
theorem dX12_keep_125 : decode cX12_keep 125 = .ok (.goto (-22), 3) := by decide +kernel
theorem dX12_keep_128 : decode cX12_keep 128 = .ok (.iconst 0, 1) := by decide +kernel
theorem dX12_keep_129 : decode cX12_keep 129 = .ok (.istore_n 1, 1) := by decide +kernel
theorem dX12_keep_130 : decode cX12_keep 130 = .ok (.iload_n 1, 1) := by decide +kernel
theorem dX12_keep_131 : decode cX12_keep 131 = .ok (.bipush 64, 2) := by decide +kernel
theorem dX12_keep_133 : decode cX12_keep 133 = .ok (.if_icmp .ge 83, 3) := by decide +kernel
theorem dX12_keep_136 : decode cX12_keep 136 = .ok (.aload_n 0, 1) := by decide +kernel
theorem dX12_keep_137 : decode cX12_keep 137 = .ok (.getfield 134, 3) := by decide +kernel
theorem dX12_keep_140 : decode cX12_keep 140 = .ok (.iload_n 1, 1) := by decide +kernel
theorem dX12_keep_141 : decode cX12_keep 141 = .ok (.aload_n 0, 1) := by decide +kernel
theorem dX12_keep_142 : decode cX12_keep 142 = .ok (.getfield 67, 3) := by decide +kernel
theorem dX12_keep_145 : decode cX12_keep 145 = .ok (.iload_n 1, 1) := by decide +kernel
theorem dX12_keep_146 : decode cX12_keep 146 = .ok (.iaload, 1) := by decide +kernel
theorem dX12_keep_147 : decode cX12_keep 147 = .ok (.iastore, 1) := by decide +kernel
theorem dX12_keep_148 : decode cX12_keep 148 = .ok (.aload_n 0, 1) := by decide +kernel
theorem dX12_keep_149 : decode cX12_keep 149 = .ok (.getfield 137, 3) := by decide +kernel
theorem dX12_keep_152 : decode cX12_keep 152 = .ok (.iconst 4, 1) := by decide +kernel
theorem dX12_keep_153 : decode cX12_keep 153 = .ok (.iload_n 1, 1) := by decide +kernel
theorem dX12_keep_154 : decode cX12_keep 154 = .ok (.imul, 1) := by decide +kernel
theorem dX12_keep_155 : decode cX12_keep 155 = .ok (.aload_n 0, 1) := by decide +kernel
theorem dX12_keep_156 : decode cX12_keep 156 = .ok (.getfield 76, 3) := by decide +kernel
theorem dX12_keep_159 : decode cX12_keep 159 = .ok (.iload_n 1, 1) := by decide +kernel
theorem dX12_keep_160 : decode cX12_keep 160 = .ok (.iaload, 1) := by decide +kernel
theorem dX12_keep_161 : decode cX12_keep 161 = .ok (.iastore, 1) := by decide +kernel
theorem dX12_keep_162 : decode cX12_keep 162 = .ok (.aload_n 0, 1) := by decide +kernel
theorem dX12_keep_163 : decode cX12_keep 163 = .ok (.getfield 137, 3) := by decide +kernel
theorem dX12_keep_166 : decode cX12_keep 166 = .ok (.iconst 4, 1) := by decide +kernel
theorem dX12_keep_167 : decode cX12_keep 167 = .ok (.iload_n 1, 1) := by decide +kernel
theorem dX12_keep_168 : decode cX12_keep 168 = .ok (.imul, 1) := by decide +kernel
theorem dX12_keep_169 : decode cX12_keep 169 = .ok (.iconst 1, 1) := by decide +kernel
theorem dX12_keep_170 : decode cX12_keep 170 = .ok (.iadd, 1) := by decide +kernel
theorem dX12_keep_171 : decode cX12_keep 171 = .ok (.aload_n 0, 1) := by decide +kernel
theorem dX12_keep_172 : decode cX12_keep 172 = .ok (.getfield 79, 3) := by decide +kernel
theorem dX12_keep_175 : decode cX12_keep 175 = .ok (.iload_n 1, 1) := by decide +kernel
theorem dX12_keep_176 : decode cX12_keep 176 = .ok (.iaload, 1) := by decide +kernel
theorem dX12_keep_177 : decode cX12_keep 177 = .ok (.iastore, 1) := by decide +kernel
theorem dX12_keep_178 : decode cX12_keep 178 = .ok (.aload_n 0, 1) := by decide +kernel
theorem dX12_keep_179 : decode cX12_keep 179 = .ok (.getfield 137, 3) := by decide +kernel
theorem dX12_keep_182 : decode cX12_keep 182 = .ok (.iconst 4, 1) := by decide +kernel
theorem dX12_keep_183 : decode cX12_keep 183 = .ok (.iload_n 1, 1) := by decide +kernel
theorem dX12_keep_184 : decode cX12_keep 184 = .ok (.imul, 1) := by decide +kernel
theorem dX12_keep_185 : decode cX12_keep 185 = .ok (.iconst 2, 1) := by decide +kernel
theorem dX12_keep_186 : decode cX12_keep 186 = .ok (.iadd, 1) := by decide +kernel
theorem dX12_keep_187 : decode cX12_keep 187 = .ok (.aload_n 0, 1) := by decide +kernel
theorem dX12_keep_188 : decode cX12_keep 188 = .ok (.getfield 70, 3) := by decide +kernel
theorem dX12_keep_191 : decode cX12_keep 191 = .ok (.iload_n 1, 1) := by decide +kernel
theorem dX12_keep_192 : decode cX12_keep 192 = .ok (.iaload, 1) := by decide +kernel
theorem dX12_keep_193 : decode cX12_keep 193 = .ok (.iastore, 1) := by decide +kernel
theorem dX12_keep_194 : decode cX12_keep 194 = .ok (.aload_n 0, 1) := by decide +kernel
theorem dX12_keep_195 : decode cX12_keep 195 = .ok (.getfield 137, 3) := by decide +kernel
theorem dX12_keep_198 : decode cX12_keep 198 = .ok (.iconst 4, 1) := by decide +kernel
theorem dX12_keep_199 : decode cX12_keep 199 = .ok (.iload_n 1, 1) := by decide +kernel
theorem dX12_keep_200 : decode cX12_keep 200 = .ok (.imul, 1) := by decide +kernel
theorem dX12_keep_201 : decode cX12_keep 201 = .ok (.iconst 3, 1) := by decide +kernel
theorem dX12_keep_202 : decode cX12_keep 202 = .ok (.iadd, 1) := by decide +kernel
theorem dX12_keep_203 : decode cX12_keep 203 = .ok (.aload_n 0, 1) := by decide +kernel
theorem dX12_keep_204 : decode cX12_keep 204 = .ok (.getfield 73, 3) := by decide +kernel
theorem dX12_keep_207 : decode cX12_keep 207 = .ok (.iload_n 1, 1) := by decide +kernel
theorem dX12_keep_208 : decode cX12_keep 208 = .ok (.iaload, 1) := by decide +kernel
theorem dX12_keep_209 : decode cX12_keep 209 = .ok (.iastore, 1) := by decide +kernel
theorem dX12_keep_210 : decode cX12_keep 210 = .ok (.iinc 1 1, 3) := by decide +kernel
theorem dX12_keep_213 : decode cX12_keep 213 = .ok (.goto (-83), 3) := by decide +kernel
theorem dX12_keep_216 : decode cX12_keep 216 = .ok (.return_, 1) := by decide +kernel
def B_X12_keep_130 (N : Nat) (k130 : Int32 → sv_V → Option sv_V) (l1 : Int32) (V : sv_V) : Option sv_V := if (64 : Int32) ≤ l1 then (some V) else (if sx_in l1 64 = true then if sx_in l1 64 = true then sx_let (sv_I V 186 l1.toNatClampNeg (V.1 165 l1.toNatClampNeg)) (fun V4 => if sx_in l1 204 = true then if sx_in ((4 : Int32) * l1) 256 = true then sx_let (sv_I V4 187 ((4 : Int32) * l1).toNatClampNeg (V4.1 168 l1.toNatClampNeg)) (fun V7 => if sx_in l1 204 = true then if sx_in (((4 : Int32) * l1) + (1 : Int32)) 256 = true then sx_let (sv_I V7 187 (((4 : Int32) * l1) + (1 : Int32)).toNatClampNeg (V7.1 169 l1.toNatClampNeg)) (fun V10 => if sx_in l1 204 = true then if sx_in (((4 : Int32) * l1) + (2 : Int32)) 256 = true then sx_let (sv_I V10 187 (((4 : Int32) * l1) + (2 : Int32)).toNatClampNeg (V10.1 166 l1.toNatClampNeg)) (fun V13 => if sx_in l1 204 = true then if sx_in (((4 : Int32) * l1) + (3 : Int32)) 256 = true then sx_let (sv_I V13 187 (((4 : Int32) * l1) + (3 : Int32)).toNatClampNeg (V13.1 167 l1.toNatClampNeg)) (fun V16 => sx_let (l1 + 1) (fun x17 => k130 x17 V16)) else none else none) else none else none) else none else none) else none else none) else none else none)
set_option maxRecDepth 20000 in
theorem tB_X12_keep_130 {g : sx_G} (hG : sx_Go g) {P : Option Value → sv_V → Prop} {Vr : sv_V} (hP : P none Vr) {N : Nat} {k130 : Int32 → sv_V → Option sv_V} (hk130 : ∀ (l1 : Int32) (V : sv_V), k130 l1 V = some Vr → sv_N g qX12_keep 0 130 [(0, .ref 146), (1, .int l1)] [] V P) {l1 : Int32} {V : sv_V} (h : B_X12_keep_130 N k130 l1 V = some Vr) : sv_N g qX12_keep 0 130 [(0, .ref 146), (1, .int l1)] [] V P := by
  unfold B_X12_keep_130 at h
  refine sx_iload_n (pc := 130) dX12_keep_130 sx_m1 ?_
  refine sx_bipush (pc := 131) (v := 64) dX12_keep_131 (by decide) ?_
  refine sx_icmp_ge (pc := 133) (tgt := 216) dX12_keep_133 (by decide) (fun c1 => ?_) (fun c1 => ?_)
  · have h := sx_pos c1 h
    exact sv_vret (pc := 216) dX12_keep_216 rfl h hP
  · have h := sx_neg c1 h
    refine sx_aload_n (pc := 136) dX12_keep_136 sx_m0 ?_
    refine sv_getA (pc := 137) hG dX12_keep_137 f_12_134 lay_146 rfl cr_146_114 ?_
    refine sx_iload_n (pc := 140) dX12_keep_140 sx_m1 ?_
    refine sx_aload_n (pc := 141) dX12_keep_141 sx_m0 ?_
    refine sv_getA (pc := 142) hG dX12_keep_142 f_12_67 lay_146 rfl cr_146_45 ?_
    refine sx_iload_n (pc := 145) dX12_keep_145 sx_m1 ?_
    obtain ⟨g2, h⟩ := sx_grd h
    refine sv_iald (pc := 146) hG dX12_keep_146 lay_165 g2 ?_
    obtain ⟨g3, h⟩ := sx_grd h
    obtain ⟨V4, hV4⟩ : ∃ z : sv_V, z = sv_I V 186 l1.toNatClampNeg (V.1 165 l1.toNatClampNeg) := ⟨_, rfl⟩
    have h := sx_letE hV4 h
    refine sv_iast (pc := 147) hG dX12_keep_147 lay_186 g3 hV4 ?_
    refine sx_aload_n (pc := 148) dX12_keep_148 sx_m0 ?_
    refine sv_getA (pc := 149) hG dX12_keep_149 f_12_137 lay_146 rfl cr_146_115 ?_
    refine sx_iconst (pc := 152) (v := 4) dX12_keep_152 (by decide) ?_
    refine sx_iload_n (pc := 153) dX12_keep_153 sx_m1 ?_
    refine sx_imul (pc := 154) dX12_keep_154 ?_
    refine sx_aload_n (pc := 155) dX12_keep_155 sx_m0 ?_
    refine sv_getA (pc := 156) hG dX12_keep_156 f_12_76 lay_146 rfl cr_146_48 ?_
    refine sx_iload_n (pc := 159) dX12_keep_159 sx_m1 ?_
    obtain ⟨g5, h⟩ := sx_grd h
    refine sv_iald (pc := 160) hG dX12_keep_160 lay_168 g5 ?_
    obtain ⟨g6, h⟩ := sx_grd h
    obtain ⟨V7, hV7⟩ : ∃ z : sv_V, z = sv_I V4 187 ((4 : Int32) * l1).toNatClampNeg (V4.1 168 l1.toNatClampNeg) := ⟨_, rfl⟩
    have h := sx_letE hV7 h
    refine sv_iast (pc := 161) hG dX12_keep_161 lay_187 g6 hV7 ?_
    refine sx_aload_n (pc := 162) dX12_keep_162 sx_m0 ?_
    refine sv_getA (pc := 163) hG dX12_keep_163 f_12_137 lay_146 rfl cr_146_115 ?_
    refine sx_iconst (pc := 166) (v := 4) dX12_keep_166 (by decide) ?_
    refine sx_iload_n (pc := 167) dX12_keep_167 sx_m1 ?_
    refine sx_imul (pc := 168) dX12_keep_168 ?_
    refine sx_iconst (pc := 169) (v := 1) dX12_keep_169 (by decide) ?_
    refine sx_iadd (pc := 170) dX12_keep_170 ?_
    refine sx_aload_n (pc := 171) dX12_keep_171 sx_m0 ?_
    refine sv_getA (pc := 172) hG dX12_keep_172 f_12_79 lay_146 rfl cr_146_49 ?_
    refine sx_iload_n (pc := 175) dX12_keep_175 sx_m1 ?_
    obtain ⟨g8, h⟩ := sx_grd h
    refine sv_iald (pc := 176) hG dX12_keep_176 lay_169 g8 ?_
    obtain ⟨g9, h⟩ := sx_grd h
    obtain ⟨V10, hV10⟩ : ∃ z : sv_V, z = sv_I V7 187 (((4 : Int32) * l1) + (1 : Int32)).toNatClampNeg (V7.1 169 l1.toNatClampNeg) := ⟨_, rfl⟩
    have h := sx_letE hV10 h
    refine sv_iast (pc := 177) hG dX12_keep_177 lay_187 g9 hV10 ?_
    refine sx_aload_n (pc := 178) dX12_keep_178 sx_m0 ?_
    refine sv_getA (pc := 179) hG dX12_keep_179 f_12_137 lay_146 rfl cr_146_115 ?_
    refine sx_iconst (pc := 182) (v := 4) dX12_keep_182 (by decide) ?_
    refine sx_iload_n (pc := 183) dX12_keep_183 sx_m1 ?_
    refine sx_imul (pc := 184) dX12_keep_184 ?_
    refine sx_iconst (pc := 185) (v := 2) dX12_keep_185 (by decide) ?_
    refine sx_iadd (pc := 186) dX12_keep_186 ?_
    refine sx_aload_n (pc := 187) dX12_keep_187 sx_m0 ?_
    refine sv_getA (pc := 188) hG dX12_keep_188 f_12_70 lay_146 rfl cr_146_46 ?_
    refine sx_iload_n (pc := 191) dX12_keep_191 sx_m1 ?_
    obtain ⟨g11, h⟩ := sx_grd h
    refine sv_iald (pc := 192) hG dX12_keep_192 lay_166 g11 ?_
    obtain ⟨g12, h⟩ := sx_grd h
    obtain ⟨V13, hV13⟩ : ∃ z : sv_V, z = sv_I V10 187 (((4 : Int32) * l1) + (2 : Int32)).toNatClampNeg (V10.1 166 l1.toNatClampNeg) := ⟨_, rfl⟩
    have h := sx_letE hV13 h
    refine sv_iast (pc := 193) hG dX12_keep_193 lay_187 g12 hV13 ?_
    refine sx_aload_n (pc := 194) dX12_keep_194 sx_m0 ?_
    refine sv_getA (pc := 195) hG dX12_keep_195 f_12_137 lay_146 rfl cr_146_115 ?_
    refine sx_iconst (pc := 198) (v := 4) dX12_keep_198 (by decide) ?_
    refine sx_iload_n (pc := 199) dX12_keep_199 sx_m1 ?_
    refine sx_imul (pc := 200) dX12_keep_200 ?_
    refine sx_iconst (pc := 201) (v := 3) dX12_keep_201 (by decide) ?_
    refine sx_iadd (pc := 202) dX12_keep_202 ?_
    refine sx_aload_n (pc := 203) dX12_keep_203 sx_m0 ?_
    refine sv_getA (pc := 204) hG dX12_keep_204 f_12_73 lay_146 rfl cr_146_47 ?_
    refine sx_iload_n (pc := 207) dX12_keep_207 sx_m1 ?_
    obtain ⟨g14, h⟩ := sx_grd h
    refine sv_iald (pc := 208) hG dX12_keep_208 lay_167 g14 ?_
    obtain ⟨g15, h⟩ := sx_grd h
    obtain ⟨V16, hV16⟩ : ∃ z : sv_V, z = sv_I V13 187 (((4 : Int32) * l1) + (3 : Int32)).toNatClampNeg (V13.1 167 l1.toNatClampNeg) := ⟨_, rfl⟩
    have h := sx_letE hV16 h
    refine sv_iast (pc := 209) hG dX12_keep_209 lay_187 g15 hV16 ?_
    obtain ⟨x17, hx17⟩ : ∃ z : Int32, z = l1 + 1 := ⟨_, rfl⟩
    have h := sx_letE hx17 h
    refine sx_iinc (pc := 210) (v := x17) (lo' := [(1, .int x17), (0, .ref 146)]) dX12_keep_210 sx_m1 (by rw [hx17]; rfl) (by decide) rfl ?_
    refine sx_goto (pc := 213) (tgt := 130) dX12_keep_213 (by decide) ?_
    refine sx_wk (sx_s1 sx_m1 (sx_s1 sx_m0 sx_s0)) ?_
    exact hk130 _ _ h
theorem tL_X12_keep_130 {g : sx_G} (hG : sx_Go g) {P : Option Value → sv_V → Prop} {Vr : sv_V} (hP : P none Vr) {N : Nat}   : ∀ (n : Nat) (l1 : Int32) (V : sv_V), sx_lp2 (B_X12_keep_130 N ) n l1 V = some Vr → sv_N g qX12_keep 0 130 [(0, .ref 146), (1, .int l1)] [] V P :=
  sx_lp2_ind (fun k0 ih _ V h => tB_X12_keep_130 hG hP ih h)
def B_X12_keep_103 (N : Nat) (k103 : Int32 → sv_V → Option sv_V) (l1 : Int32) (V : sv_V) : Option sv_V := if (256 : Int32) ≤ l1 then (sx_lp2 (B_X12_keep_130 N ) N (0 : Int32) V) else (if sx_in l1 256 = true then if sx_in l1 256 = true then sx_let (sv_I V 185 l1.toNatClampNeg (V.1 164 l1.toNatClampNeg)) (fun V21 => sx_let (l1 + 1) (fun x22 => k103 x22 V21)) else none else none)
set_option maxRecDepth 20000 in
theorem tB_X12_keep_103 {g : sx_G} (hG : sx_Go g) {P : Option Value → sv_V → Prop} {Vr : sv_V} (hP : P none Vr) {N : Nat} {k103 : Int32 → sv_V → Option sv_V} (hk103 : ∀ (l1 : Int32) (V : sv_V), k103 l1 V = some Vr → sv_N g qX12_keep 0 103 [(0, .ref 146), (1, .int l1)] [] V P) {l1 : Int32} {V : sv_V} (h : B_X12_keep_103 N k103 l1 V = some Vr) : sv_N g qX12_keep 0 103 [(0, .ref 146), (1, .int l1)] [] V P := by
  unfold B_X12_keep_103 at h
  refine sx_iload_n (pc := 103) dX12_keep_103 sx_m1 ?_
  refine sx_sipush (pc := 104) (v := 256) dX12_keep_104 (by decide) ?_
  refine sx_icmp_ge (pc := 107) (tgt := 128) dX12_keep_107 (by decide) (fun c18 => ?_) (fun c18 => ?_)
  · have h := sx_pos c18 h
    refine sx_iconst (pc := 128) (v := 0) dX12_keep_128 (by decide) ?_
    refine sx_istore_n (pc := 129) (lo' := [(1, .int (0 : Int32)), (0, .ref 146)]) dX12_keep_129 (by decide) rfl ?_
    refine sx_wk (sx_s1 sx_m1 (sx_s1 sx_m0 sx_s0)) ?_
    exact tL_X12_keep_130 hG hP  N _ _ h
  · have h := sx_neg c18 h
    refine sx_aload_n (pc := 110) dX12_keep_110 sx_m0 ?_
    refine sv_getA (pc := 111) hG dX12_keep_111 f_12_131 lay_146 rfl cr_146_113 ?_
    refine sx_iload_n (pc := 114) dX12_keep_114 sx_m1 ?_
    refine sx_aload_n (pc := 115) dX12_keep_115 sx_m0 ?_
    refine sv_getA (pc := 116) hG dX12_keep_116 f_12_64 lay_146 rfl cr_146_44 ?_
    refine sx_iload_n (pc := 119) dX12_keep_119 sx_m1 ?_
    obtain ⟨g19, h⟩ := sx_grd h
    refine sv_iald (pc := 120) hG dX12_keep_120 lay_164 g19 ?_
    obtain ⟨g20, h⟩ := sx_grd h
    obtain ⟨V21, hV21⟩ : ∃ z : sv_V, z = sv_I V 185 l1.toNatClampNeg (V.1 164 l1.toNatClampNeg) := ⟨_, rfl⟩
    have h := sx_letE hV21 h
    refine sv_iast (pc := 121) hG dX12_keep_121 lay_185 g20 hV21 ?_
    obtain ⟨x22, hx22⟩ : ∃ z : Int32, z = l1 + 1 := ⟨_, rfl⟩
    have h := sx_letE hx22 h
    refine sx_iinc (pc := 122) (v := x22) (lo' := [(1, .int x22), (0, .ref 146)]) dX12_keep_122 sx_m1 (by rw [hx22]; rfl) (by decide) rfl ?_
    refine sx_goto (pc := 125) (tgt := 103) dX12_keep_125 (by decide) ?_
    refine sx_wk (sx_s1 sx_m1 (sx_s1 sx_m0 sx_s0)) ?_
    exact hk103 _ _ h
theorem tL_X12_keep_103 {g : sx_G} (hG : sx_Go g) {P : Option Value → sv_V → Prop} {Vr : sv_V} (hP : P none Vr) {N : Nat}   : ∀ (n : Nat) (l1 : Int32) (V : sv_V), sx_lp2 (B_X12_keep_103 N ) n l1 V = some Vr → sv_N g qX12_keep 0 103 [(0, .ref 146), (1, .int l1)] [] V P :=
  sx_lp2_ind (fun k0 ih _ V h => tB_X12_keep_103 hG hP ih h)
def B_X12_keep_57 (N : Nat)  (s1 : Int32) (s2 : Int32) (V : sv_V) : Option sv_V := if sx_in s1 9 = true then sx_let (sv_I V 188 s1.toNatClampNeg s2) (fun V24 => sx_let (sv_I V24 188 (5 : Int32).toNatClampNeg (V24.1 146 85)) (fun V25 => sx_let (sv_I V25 188 (6 : Int32).toNatClampNeg (V25.1 146 86)) (fun V26 => sx_let (sv_I V26 188 (7 : Int32).toNatClampNeg (V26.1 146 87)) (fun V27 => sx_let (sv_I V27 188 (8 : Int32).toNatClampNeg (V27.1 146 88)) (fun V28 => sx_lp2 (B_X12_keep_103 N ) N (0 : Int32) V28))))) else none
set_option maxRecDepth 20000 in
theorem tB_X12_keep_57 {g : sx_G} (hG : sx_Go g) {P : Option Value → sv_V → Prop} {Vr : sv_V} (hP : P none Vr) {N : Nat}   {s1 : Int32} {s2 : Int32} {V : sv_V} (h : B_X12_keep_57 N  s1 s2 V = some Vr) : sv_N g qX12_keep 0 57 [(0, .ref 146)] [.int s2, .int s1, .ref 188] V P := by
  unfold B_X12_keep_57 at h
  obtain ⟨g23, h⟩ := sx_grd h
  obtain ⟨V24, hV24⟩ : ∃ z : sv_V, z = sv_I V 188 s1.toNatClampNeg s2 := ⟨_, rfl⟩
  have h := sx_letE hV24 h
  refine sv_iast (pc := 57) hG dX12_keep_57 lay_188 g23 hV24 ?_
  refine sx_aload_n (pc := 58) dX12_keep_58 sx_m0 ?_
  refine sv_getA (pc := 59) hG dX12_keep_59 f_12_140 lay_146 rfl cr_146_116 ?_
  refine sx_iconst (pc := 62) (v := 5) dX12_keep_62 (by decide) ?_
  refine sx_aload_n (pc := 63) dX12_keep_63 sx_m0 ?_
  refine sv_getI (pc := 64) hG dX12_keep_64 f_12_700 lay_146 rfl ?_
  obtain ⟨V25, hV25⟩ : ∃ z : sv_V, z = sv_I V24 188 (5 : Int32).toNatClampNeg (V24.1 146 85) := ⟨_, rfl⟩
  have h := sx_letE hV25 h
  refine sv_iast (pc := 67) hG dX12_keep_67 lay_188 (by decide) hV25 ?_
  refine sx_aload_n (pc := 68) dX12_keep_68 sx_m0 ?_
  refine sv_getA (pc := 69) hG dX12_keep_69 f_12_140 lay_146 rfl cr_146_116 ?_
  refine sx_bipush (pc := 72) (v := 6) dX12_keep_72 (by decide) ?_
  refine sx_aload_n (pc := 74) dX12_keep_74 sx_m0 ?_
  refine sv_getI (pc := 75) hG dX12_keep_75 f_12_703 lay_146 rfl ?_
  obtain ⟨V26, hV26⟩ : ∃ z : sv_V, z = sv_I V25 188 (6 : Int32).toNatClampNeg (V25.1 146 86) := ⟨_, rfl⟩
  have h := sx_letE hV26 h
  refine sv_iast (pc := 78) hG dX12_keep_78 lay_188 (by decide) hV26 ?_
  refine sx_aload_n (pc := 79) dX12_keep_79 sx_m0 ?_
  refine sv_getA (pc := 80) hG dX12_keep_80 f_12_140 lay_146 rfl cr_146_116 ?_
  refine sx_bipush (pc := 83) (v := 7) dX12_keep_83 (by decide) ?_
  refine sx_aload_n (pc := 85) dX12_keep_85 sx_m0 ?_
  refine sv_getI (pc := 86) hG dX12_keep_86 f_12_739 lay_146 rfl ?_
  obtain ⟨V27, hV27⟩ : ∃ z : sv_V, z = sv_I V26 188 (7 : Int32).toNatClampNeg (V26.1 146 87) := ⟨_, rfl⟩
  have h := sx_letE hV27 h
  refine sv_iast (pc := 89) hG dX12_keep_89 lay_188 (by decide) hV27 ?_
  refine sx_aload_n (pc := 90) dX12_keep_90 sx_m0 ?_
  refine sv_getA (pc := 91) hG dX12_keep_91 f_12_140 lay_146 rfl cr_146_116 ?_
  refine sx_bipush (pc := 94) (v := 8) dX12_keep_94 (by decide) ?_
  refine sx_aload_n (pc := 96) dX12_keep_96 sx_m0 ?_
  refine sv_getI (pc := 97) hG dX12_keep_97 f_12_747 lay_146 rfl ?_
  obtain ⟨V28, hV28⟩ : ∃ z : sv_V, z = sv_I V27 188 (8 : Int32).toNatClampNeg (V27.1 146 88) := ⟨_, rfl⟩
  have h := sx_letE hV28 h
  refine sv_iast (pc := 100) hG dX12_keep_100 lay_188 (by decide) hV28 ?_
  refine sx_iconst (pc := 101) (v := 0) dX12_keep_101 (by decide) ?_
  refine sx_istore_n (pc := 102) (lo' := [(1, .int (0 : Int32)), (0, .ref 146)]) dX12_keep_102 (by decide) rfl ?_
  refine sx_wk (sx_s1 sx_m1 (sx_s1 sx_m0 sx_s0)) ?_
  exact tL_X12_keep_103 hG hP  N _ _ h
def F_X12_keep (N : Nat)  (V : sv_V) : Option sv_V := sx_let (sv_I V 188 (0 : Int32).toNatClampNeg (V.1 146 80)) (fun V29 => sx_let (sv_I V29 188 (1 : Int32).toNatClampNeg (V29.1 146 81)) (fun V30 => sx_let (sv_I V30 188 (2 : Int32).toNatClampNeg (V30.1 146 82)) (fun V31 => sx_let (sv_I V31 188 (3 : Int32).toNatClampNeg (V31.1 146 83)) (fun V32 => if (V32.1 146 84) = 0 then (B_X12_keep_57 N  (4 : Int32) (0 : Int32) V32) else (B_X12_keep_57 N  (4 : Int32) (1 : Int32) V32)))))
set_option maxRecDepth 20000 in
theorem t_X12_keep {g : sx_G} (hG : sx_Go g) {P : Option Value → sv_V → Prop} {Vr : sv_V} (hP : P none Vr) {N : Nat}  {V : sv_V} (h : F_X12_keep N  V = some Vr) : sv_N g qX12_keep 0 0 [(0, .ref 146)] [] V P := by
  unfold F_X12_keep at h
  refine sx_aload_n (pc := 0) dX12_keep_0 sx_m0 ?_
  refine sv_getA (pc := 1) hG dX12_keep_1 f_12_140 lay_146 rfl cr_146_116 ?_
  refine sx_iconst (pc := 4) (v := 0) dX12_keep_4 (by decide) ?_
  refine sx_aload_n (pc := 5) dX12_keep_5 sx_m0 ?_
  refine sv_getI (pc := 6) hG dX12_keep_6 f_12_605 lay_146 rfl ?_
  obtain ⟨V29, hV29⟩ : ∃ z : sv_V, z = sv_I V 188 (0 : Int32).toNatClampNeg (V.1 146 80) := ⟨_, rfl⟩
  have h := sx_letE hV29 h
  refine sv_iast (pc := 9) hG dX12_keep_9 lay_188 (by decide) hV29 ?_
  refine sx_aload_n (pc := 10) dX12_keep_10 sx_m0 ?_
  refine sv_getA (pc := 11) hG dX12_keep_11 f_12_140 lay_146 rfl cr_146_116 ?_
  refine sx_iconst (pc := 14) (v := 1) dX12_keep_14 (by decide) ?_
  refine sx_aload_n (pc := 15) dX12_keep_15 sx_m0 ?_
  refine sv_getI (pc := 16) hG dX12_keep_16 f_12_615 lay_146 rfl ?_
  obtain ⟨V30, hV30⟩ : ∃ z : sv_V, z = sv_I V29 188 (1 : Int32).toNatClampNeg (V29.1 146 81) := ⟨_, rfl⟩
  have h := sx_letE hV30 h
  refine sv_iast (pc := 19) hG dX12_keep_19 lay_188 (by decide) hV30 ?_
  refine sx_aload_n (pc := 20) dX12_keep_20 sx_m0 ?_
  refine sv_getA (pc := 21) hG dX12_keep_21 f_12_140 lay_146 rfl cr_146_116 ?_
  refine sx_iconst (pc := 24) (v := 2) dX12_keep_24 (by decide) ?_
  refine sx_aload_n (pc := 25) dX12_keep_25 sx_m0 ?_
  refine sv_getI (pc := 26) hG dX12_keep_26 f_12_608 lay_146 rfl ?_
  obtain ⟨V31, hV31⟩ : ∃ z : sv_V, z = sv_I V30 188 (2 : Int32).toNatClampNeg (V30.1 146 82) := ⟨_, rfl⟩
  have h := sx_letE hV31 h
  refine sv_iast (pc := 29) hG dX12_keep_29 lay_188 (by decide) hV31 ?_
  refine sx_aload_n (pc := 30) dX12_keep_30 sx_m0 ?_
  refine sv_getA (pc := 31) hG dX12_keep_31 f_12_140 lay_146 rfl cr_146_116 ?_
  refine sx_iconst (pc := 34) (v := 3) dX12_keep_34 (by decide) ?_
  refine sx_aload_n (pc := 35) dX12_keep_35 sx_m0 ?_
  refine sv_getI (pc := 36) hG dX12_keep_36 f_12_595 lay_146 rfl ?_
  obtain ⟨V32, hV32⟩ : ∃ z : sv_V, z = sv_I V31 188 (3 : Int32).toNatClampNeg (V31.1 146 83) := ⟨_, rfl⟩
  have h := sx_letE hV32 h
  refine sv_iast (pc := 39) hG dX12_keep_39 lay_188 (by decide) hV32 ?_
  refine sx_aload_n (pc := 40) dX12_keep_40 sx_m0 ?_
  refine sv_getA (pc := 41) hG dX12_keep_41 f_12_140 lay_146 rfl cr_146_116 ?_
  refine sx_iconst (pc := 44) (v := 4) dX12_keep_44 (by decide) ?_
  refine sx_aload_n (pc := 45) dX12_keep_45 sx_m0 ?_
  refine sv_getZ (pc := 46) hG dX12_keep_46 f_12_683 lay_146 rfl ?_
  refine sx_if_eq (pc := 49) (tgt := 56) dX12_keep_49 (by decide) (fun c33 => ?_) (fun c33 => ?_)
  · have h := sx_pos c33 h
    refine sx_iconst (pc := 56) (v := 0) dX12_keep_56 (by decide) ?_
    refine sx_wk (sx_s1 sx_m0 sx_s0) ?_
    exact tB_X12_keep_57 hG hP  h
  · have h := sx_neg c33 h
    refine sx_iconst (pc := 52) (v := 1) dX12_keep_52 (by decide) ?_
    refine sx_goto (pc := 53) (tgt := 57) dX12_keep_53 (by decide) ?_
    refine sx_wk (sx_s1 sx_m0 sx_s0) ?_
    exact tB_X12_keep_57 hG hP  h
theorem dX12_bring_0 : decode cX12_bring 0 = .ok (.aload_n 0, 1) := by decide +kernel
theorem dX12_bring_1 : decode cX12_bring 1 = .ok (.aload_n 0, 1) := by decide +kernel
theorem dX12_bring_2 : decode cX12_bring 2 = .ok (.getfield 140, 3) := by decide +kernel
theorem dX12_bring_5 : decode cX12_bring 5 = .ok (.iconst 0, 1) := by decide +kernel
theorem dX12_bring_6 : decode cX12_bring 6 = .ok (.iaload, 1) := by decide +kernel
theorem dX12_bring_7 : decode cX12_bring 7 = .ok (.putfield 605, 3) := by decide +kernel
theorem dX12_bring_10 : decode cX12_bring 10 = .ok (.aload_n 0, 1) := by decide +kernel
theorem dX12_bring_11 : decode cX12_bring 11 = .ok (.aload_n 0, 1) := by decide +kernel
theorem dX12_bring_12 : decode cX12_bring 12 = .ok (.getfield 140, 3) := by decide +kernel
theorem dX12_bring_15 : decode cX12_bring 15 = .ok (.iconst 1, 1) := by decide +kernel
theorem dX12_bring_16 : decode cX12_bring 16 = .ok (.iaload, 1) := by decide +kernel
theorem dX12_bring_17 : decode cX12_bring 17 = .ok (.putfield 615, 3) := by decide +kernel
theorem dX12_bring_20 : decode cX12_bring 20 = .ok (.aload_n 0, 1) := by decide +kernel
theorem dX12_bring_21 : decode cX12_bring 21 = .ok (.aload_n 0, 1) := by decide +kernel
theorem dX12_bring_22 : decode cX12_bring 22 = .ok (.getfield 140, 3) := by decide +kernel
theorem dX12_bring_25 : decode cX12_bring 25 = .ok (.iconst 2, 1) := by decide +kernel
theorem dX12_bring_26 : decode cX12_bring 26 = .ok (.iaload, 1) := by decide +kernel
theorem dX12_bring_27 : decode cX12_bring 27 = .ok (.putfield 608, 3) := by decide +kernel
theorem dX12_bring_30 : decode cX12_bring 30 = .ok (.aload_n 0, 1) := by decide +kernel
theorem dX12_bring_31 : decode cX12_bring 31 = .ok (.aload_n 0, 1) := by decide +kernel
theorem dX12_bring_32 : decode cX12_bring 32 = .ok (.getfield 140, 3) := by decide +kernel
theorem dX12_bring_35 : decode cX12_bring 35 = .ok (.iconst 3, 1) := by decide +kernel
theorem dX12_bring_36 : decode cX12_bring 36 = .ok (.iaload, 1) := by decide +kernel
theorem dX12_bring_37 : decode cX12_bring 37 = .ok (.putfield 595, 3) := by decide +kernel
theorem dX12_bring_40 : decode cX12_bring 40 = .ok (.aload_n 0, 1) := by decide +kernel
theorem dX12_bring_41 : decode cX12_bring 41 = .ok (.aload_n 0, 1) := by decide +kernel
theorem dX12_bring_42 : decode cX12_bring 42 = .ok (.getfield 140, 3) := by decide +kernel
theorem dX12_bring_45 : decode cX12_bring 45 = .ok (.iconst 4, 1) := by decide +kernel
theorem dX12_bring_46 : decode cX12_bring 46 = .ok (.iaload, 1) := by decide +kernel
theorem dX12_bring_47 : decode cX12_bring 47 = .ok (.iconst 1, 1) := by decide +kernel
theorem dX12_bring_48 : decode cX12_bring 48 = .ok (.if_icmp .ne 7, 3) := by decide +kernel
theorem dX12_bring_51 : decode cX12_bring 51 = .ok (.iconst 1, 1) := by decide +kernel
theorem dX12_bring_52 : decode cX12_bring 52 = .ok (.goto 4, 3) := by decide +kernel
theorem dX12_bring_55 : decode cX12_bring 55 = .ok (.iconst 0, 1) := by decide +kernel
theorem dX12_bring_56 : decode cX12_bring 56 = .ok (.putfield 683, 3) := by decide +kernel
theorem dX12_bring_59 : decode cX12_bring 59 = .ok (.aload_n 0, 1) := by decide +kernel
theorem dX12_bring_60 : decode cX12_bring 60 = .ok (.aload_n 0, 1) := by decide +kernel
theorem dX12_bring_61 : decode cX12_bring 61 = .ok (.getfield 140, 3) := by decide +kernel
theorem dX12_bring_64 : decode cX12_bring 64 = .ok (.iconst 5, 1) := by decide +kernel
theorem dX12_bring_65 : decode cX12_bring 65 = .ok (.iaload, 1) := by decide +kernel
theorem dX12_bring_66 : decode cX12_bring 66 = .ok (.putfield 700, 3) := by decide +kernel
theorem dX12_bring_69 : decode cX12_bring 69 = .ok (.aload_n 0, 1) := by decide +kernel
theorem dX12_bring_70 : decode cX12_bring 70 = .ok (.aload_n 0, 1) := by decide +kernel
theorem dX12_bring_71 : decode cX12_bring 71 = .ok (.getfield 140, 3) := by decide +kernel
theorem dX12_bring_74 : decode cX12_bring 74 = .ok (.bipush 6, 2) := by decide +kernel
theorem dX12_bring_76 : decode cX12_bring 76 = .ok (.iaload, 1) := by decide +kernel
theorem dX12_bring_77 : decode cX12_bring 77 = .ok (.putfield 703, 3) := by decide +kernel
theorem dX12_bring_80 : decode cX12_bring 80 = .ok (.aload_n 0, 1) := by decide +kernel
theorem dX12_bring_81 : decode cX12_bring 81 = .ok (.aload_n 0, 1) := by decide +kernel
theorem dX12_bring_82 : decode cX12_bring 82 = .ok (.getfield 140, 3) := by decide +kernel
theorem dX12_bring_85 : decode cX12_bring 85 = .ok (.bipush 7, 2) := by decide +kernel
theorem dX12_bring_87 : decode cX12_bring 87 = .ok (.iaload, 1) := by decide +kernel
theorem dX12_bring_88 : decode cX12_bring 88 = .ok (.putfield 739, 3) := by decide +kernel
theorem dX12_bring_91 : decode cX12_bring 91 = .ok (.aload_n 0, 1) := by decide +kernel
theorem dX12_bring_92 : decode cX12_bring 92 = .ok (.aload_n 0, 1) := by decide +kernel
theorem dX12_bring_93 : decode cX12_bring 93 = .ok (.getfield 140, 3) := by decide +kernel
theorem dX12_bring_96 : decode cX12_bring 96 = .ok (.bipush 8, 2) := by decide +kernel
theorem dX12_bring_98 : decode cX12_bring 98 = .ok (.iaload, 1) := by decide +kernel
theorem dX12_bring_99 : decode cX12_bring 99 = .ok (.putfield 747, 3) := by decide +kernel
theorem dX12_bring_102 : decode cX12_bring 102 = .ok (.iconst 0, 1) := by decide +kernel
theorem dX12_bring_103 : decode cX12_bring 103 = .ok (.istore_n 1, 1) := by decide +kernel
theorem dX12_bring_104 : decode cX12_bring 104 = .ok (.iload_n 1, 1) := by decide +kernel
theorem dX12_bring_105 : decode cX12_bring 105 = .ok (.sipush 256, 3) := by decide +kernel
theorem dX12_bring_108 : decode cX12_bring 108 = .ok (.if_icmp .ge 21, 3) := by decide +kernel
theorem dX12_bring_111 : decode cX12_bring 111 = .ok (.aload_n 0, 1) := by decide +kernel
theorem dX12_bring_112 : decode cX12_bring 112 = .ok (.getfield 64, 3) := by decide +kernel
theorem dX12_bring_115 : decode cX12_bring 115 = .ok (.iload_n 1, 1) := by decide +kernel
theorem dX12_bring_116 : decode cX12_bring 116 = .ok (.aload_n 0, 1) := by decide +kernel
theorem dX12_bring_117 : decode cX12_bring 117 = .ok (.getfield 131, 3) := by decide +kernel
theorem dX12_bring_120 : decode cX12_bring 120 = .ok (.iload_n 1, 1) := by decide +kernel
theorem dX12_bring_121 : decode cX12_bring 121 = .ok (.iaload, 1) := by decide +kernel
theorem dX12_bring_122 : decode cX12_bring 122 = .ok (.iastore, 1) := by decide +kernel
theorem dX12_bring_123 : decode cX12_bring 123 = .ok (.iinc 1 1, 3) := by decide +kernel
theorem dX12_bring_126 : decode cX12_bring 126 = .ok (.goto (-22), 3) := by decide +kernel
theorem dX12_bring_129 : decode cX12_bring 129 = .ok (.iconst 0, 1) := by decide +kernel
theorem dX12_bring_130 : decode cX12_bring 130 = .ok (.istore_n 1, 1) := by decide +kernel
theorem dX12_bring_131 : decode cX12_bring 131 = .ok (.iload_n 1, 1) := by decide +kernel
theorem dX12_bring_132 : decode cX12_bring 132 = .ok (.bipush 64, 2) := by decide +kernel
theorem dX12_bring_134 : decode cX12_bring 134 = .ok (.if_icmp .ge 95, 3) := by decide +kernel
theorem dX12_bring_137 : decode cX12_bring 137 = .ok (.aload_n 0, 1) := by decide +kernel
theorem dX12_bring_138 : decode cX12_bring 138 = .ok (.getfield 67, 3) := by decide +kernel
theorem dX12_bring_141 : decode cX12_bring 141 = .ok (.iload_n 1, 1) := by decide +kernel
theorem dX12_bring_142 : decode cX12_bring 142 = .ok (.aload_n 0, 1) := by decide +kernel
theorem dX12_bring_143 : decode cX12_bring 143 = .ok (.getfield 134, 3) := by decide +kernel
theorem dX12_bring_146 : decode cX12_bring 146 = .ok (.iload_n 1, 1) := by decide +kernel
theorem dX12_bring_147 : decode cX12_bring 147 = .ok (.iaload, 1) := by decide +kernel
theorem dX12_bring_148 : decode cX12_bring 148 = .ok (.iastore, 1) := by decide +kernel
theorem dX12_bring_149 : decode cX12_bring 149 = .ok (.aload_n 0, 1) := by decide +kernel
theorem dX12_bring_150 : decode cX12_bring 150 = .ok (.getfield 76, 3) := by decide +kernel
theorem dX12_bring_153 : decode cX12_bring 153 = .ok (.iload_n 1, 1) := by decide +kernel
theorem dX12_bring_154 : decode cX12_bring 154 = .ok (.aload_n 0, 1) := by decide +kernel
theorem dX12_bring_155 : decode cX12_bring 155 = .ok (.getfield 137, 3) := by decide +kernel
theorem dX12_bring_158 : decode cX12_bring 158 = .ok (.iconst 4, 1) := by decide +kernel
theorem dX12_bring_159 : decode cX12_bring 159 = .ok (.iload_n 1, 1) := by decide +kernel
theorem dX12_bring_160 : decode cX12_bring 160 = .ok (.imul, 1) := by decide +kernel
theorem dX12_bring_161 : decode cX12_bring 161 = .ok (.iaload, 1) := by decide +kernel
theorem dX12_bring_162 : decode cX12_bring 162 = .ok (.iastore, 1) := by decide +kernel
theorem dX12_bring_163 : decode cX12_bring 163 = .ok (.aload_n 0, 1) := by decide +kernel
theorem dX12_bring_164 : decode cX12_bring 164 = .ok (.getfield 79, 3) := by decide +kernel
theorem dX12_bring_167 : decode cX12_bring 167 = .ok (.iload_n 1, 1) := by decide +kernel
theorem dX12_bring_168 : decode cX12_bring 168 = .ok (.aload_n 0, 1) := by decide +kernel
theorem dX12_bring_169 : decode cX12_bring 169 = .ok (.getfield 137, 3) := by decide +kernel
theorem dX12_bring_172 : decode cX12_bring 172 = .ok (.iconst 4, 1) := by decide +kernel
theorem dX12_bring_173 : decode cX12_bring 173 = .ok (.iload_n 1, 1) := by decide +kernel
theorem dX12_bring_174 : decode cX12_bring 174 = .ok (.imul, 1) := by decide +kernel
theorem dX12_bring_175 : decode cX12_bring 175 = .ok (.iconst 1, 1) := by decide +kernel
theorem dX12_bring_176 : decode cX12_bring 176 = .ok (.iadd, 1) := by decide +kernel
theorem dX12_bring_177 : decode cX12_bring 177 = .ok (.iaload, 1) := by decide +kernel
theorem dX12_bring_178 : decode cX12_bring 178 = .ok (.iastore, 1) := by decide +kernel
theorem dX12_bring_179 : decode cX12_bring 179 = .ok (.aload_n 0, 1) := by decide +kernel
theorem dX12_bring_180 : decode cX12_bring 180 = .ok (.getfield 70, 3) := by decide +kernel
theorem dX12_bring_183 : decode cX12_bring 183 = .ok (.iload_n 1, 1) := by decide +kernel
theorem dX12_bring_184 : decode cX12_bring 184 = .ok (.aload_n 0, 1) := by decide +kernel
theorem dX12_bring_185 : decode cX12_bring 185 = .ok (.getfield 137, 3) := by decide +kernel
theorem dX12_bring_188 : decode cX12_bring 188 = .ok (.iconst 4, 1) := by decide +kernel
theorem dX12_bring_189 : decode cX12_bring 189 = .ok (.iload_n 1, 1) := by decide +kernel
theorem dX12_bring_190 : decode cX12_bring 190 = .ok (.imul, 1) := by decide +kernel
theorem dX12_bring_191 : decode cX12_bring 191 = .ok (.iconst 2, 1) := by decide +kernel
theorem dX12_bring_192 : decode cX12_bring 192 = .ok (.iadd, 1) := by decide +kernel
theorem dX12_bring_193 : decode cX12_bring 193 = .ok (.iaload, 1) := by decide +kernel
theorem dX12_bring_194 : decode cX12_bring 194 = .ok (.iastore, 1) := by decide +kernel
theorem dX12_bring_195 : decode cX12_bring 195 = .ok (.aload_n 0, 1) := by decide +kernel
theorem dX12_bring_196 : decode cX12_bring 196 = .ok (.getfield 73, 3) := by decide +kernel
theorem dX12_bring_199 : decode cX12_bring 199 = .ok (.iload_n 1, 1) := by decide +kernel
theorem dX12_bring_200 : decode cX12_bring 200 = .ok (.aload_n 0, 1) := by decide +kernel
theorem dX12_bring_201 : decode cX12_bring 201 = .ok (.getfield 137, 3) := by decide +kernel
theorem dX12_bring_204 : decode cX12_bring 204 = .ok (.iconst 4, 1) := by decide +kernel
theorem dX12_bring_205 : decode cX12_bring 205 = .ok (.iload_n 1, 1) := by decide +kernel
theorem dX12_bring_206 : decode cX12_bring 206 = .ok (.imul, 1) := by decide +kernel
theorem dX12_bring_207 : decode cX12_bring 207 = .ok (.iconst 3, 1) := by decide +kernel
theorem dX12_bring_208 : decode cX12_bring 208 = .ok (.iadd, 1) := by decide +kernel
theorem dX12_bring_209 : decode cX12_bring 209 = .ok (.iaload, 1) := by decide +kernel
theorem dX12_bring_210 : decode cX12_bring 210 = .ok (.iastore, 1) := by decide +kernel
theorem dX12_bring_211 : decode cX12_bring 211 = .ok (.aload_n 0, 1) := by decide +kernel
theorem dX12_bring_212 : decode cX12_bring 212 = .ok (.getfield 82, 3) := by decide +kernel
theorem dX12_bring_215 : decode cX12_bring 215 = .ok (.iload_n 1, 1) := by decide +kernel
theorem dX12_bring_216 : decode cX12_bring 216 = .ok (.aload_n 0, 1) := by decide +kernel
theorem dX12_bring_217 : decode cX12_bring 217 = .ok (.getfield 143, 3) := by decide +kernel
theorem dX12_bring_220 : decode cX12_bring 220 = .ok (.iload_n 1, 1) := by decide +kernel
theorem dX12_bring_221 : decode cX12_bring 221 = .ok (.iaload, 1) := by decide +kernel
theorem dX12_bring_222 : decode cX12_bring 222 = .ok (.iastore, 1) := by decide +kernel
theorem dX12_bring_223 : decode cX12_bring 223 = .ok (.iinc 1 1, 3) := by decide +kernel
theorem dX12_bring_226 : decode cX12_bring 226 = .ok (.goto (-95), 3) := by decide +kernel
theorem dX12_bring_229 : decode cX12_bring 229 = .ok (.return_, 1) := by decide +kernel
def B_X12_bring_131 (N : Nat) (k131 : Int32 → sv_V → Option sv_V) (l1 : Int32) (V : sv_V) : Option sv_V := if (64 : Int32) ≤ l1 then (some V) else (if sx_in l1 64 = true then if sx_in l1 64 = true then sx_let (sv_I V 165 l1.toNatClampNeg (V.1 186 l1.toNatClampNeg)) (fun V4 => if sx_in ((4 : Int32) * l1) 256 = true then if sx_in l1 204 = true then sx_let (sv_I V4 168 l1.toNatClampNeg (V4.1 187 ((4 : Int32) * l1).toNatClampNeg)) (fun V7 => if sx_in (((4 : Int32) * l1) + (1 : Int32)) 256 = true then if sx_in l1 204 = true then sx_let (sv_I V7 169 l1.toNatClampNeg (V7.1 187 (((4 : Int32) * l1) + (1 : Int32)).toNatClampNeg)) (fun V10 => if sx_in (((4 : Int32) * l1) + (2 : Int32)) 256 = true then if sx_in l1 204 = true then sx_let (sv_I V10 166 l1.toNatClampNeg (V10.1 187 (((4 : Int32) * l1) + (2 : Int32)).toNatClampNeg)) (fun V13 => if sx_in (((4 : Int32) * l1) + (3 : Int32)) 256 = true then if sx_in l1 204 = true then sx_let (sv_I V13 167 l1.toNatClampNeg (V13.1 187 (((4 : Int32) * l1) + (3 : Int32)).toNatClampNeg)) (fun V16 => if sx_in l1 64 = true then if sx_in l1 204 = true then sx_let (sv_I V16 170 l1.toNatClampNeg (V16.1 189 l1.toNatClampNeg)) (fun V19 => sx_let (l1 + 1) (fun x20 => k131 x20 V19)) else none else none) else none else none) else none else none) else none else none) else none else none) else none else none)
set_option maxRecDepth 20000 in
theorem tB_X12_bring_131 {g : sx_G} (hG : sx_Go g) {P : Option Value → sv_V → Prop} {Vr : sv_V} (hP : P none Vr) {N : Nat} {k131 : Int32 → sv_V → Option sv_V} (hk131 : ∀ (l1 : Int32) (V : sv_V), k131 l1 V = some Vr → sv_N g qX12_bring 0 131 [(0, .ref 146), (1, .int l1)] [] V P) {l1 : Int32} {V : sv_V} (h : B_X12_bring_131 N k131 l1 V = some Vr) : sv_N g qX12_bring 0 131 [(0, .ref 146), (1, .int l1)] [] V P := by
  unfold B_X12_bring_131 at h
  refine sx_iload_n (pc := 131) dX12_bring_131 sx_m1 ?_
  refine sx_bipush (pc := 132) (v := 64) dX12_bring_132 (by decide) ?_
  refine sx_icmp_ge (pc := 134) (tgt := 229) dX12_bring_134 (by decide) (fun c1 => ?_) (fun c1 => ?_)
  · have h := sx_pos c1 h
    exact sv_vret (pc := 229) dX12_bring_229 rfl h hP
  · have h := sx_neg c1 h
    refine sx_aload_n (pc := 137) dX12_bring_137 sx_m0 ?_
    refine sv_getA (pc := 138) hG dX12_bring_138 f_12_67 lay_146 rfl cr_146_45 ?_
    refine sx_iload_n (pc := 141) dX12_bring_141 sx_m1 ?_
    refine sx_aload_n (pc := 142) dX12_bring_142 sx_m0 ?_
    refine sv_getA (pc := 143) hG dX12_bring_143 f_12_134 lay_146 rfl cr_146_114 ?_
    refine sx_iload_n (pc := 146) dX12_bring_146 sx_m1 ?_
    obtain ⟨g2, h⟩ := sx_grd h
    refine sv_iald (pc := 147) hG dX12_bring_147 lay_186 g2 ?_
    obtain ⟨g3, h⟩ := sx_grd h
    obtain ⟨V4, hV4⟩ : ∃ z : sv_V, z = sv_I V 165 l1.toNatClampNeg (V.1 186 l1.toNatClampNeg) := ⟨_, rfl⟩
    have h := sx_letE hV4 h
    refine sv_iast (pc := 148) hG dX12_bring_148 lay_165 g3 hV4 ?_
    refine sx_aload_n (pc := 149) dX12_bring_149 sx_m0 ?_
    refine sv_getA (pc := 150) hG dX12_bring_150 f_12_76 lay_146 rfl cr_146_48 ?_
    refine sx_iload_n (pc := 153) dX12_bring_153 sx_m1 ?_
    refine sx_aload_n (pc := 154) dX12_bring_154 sx_m0 ?_
    refine sv_getA (pc := 155) hG dX12_bring_155 f_12_137 lay_146 rfl cr_146_115 ?_
    refine sx_iconst (pc := 158) (v := 4) dX12_bring_158 (by decide) ?_
    refine sx_iload_n (pc := 159) dX12_bring_159 sx_m1 ?_
    refine sx_imul (pc := 160) dX12_bring_160 ?_
    obtain ⟨g5, h⟩ := sx_grd h
    refine sv_iald (pc := 161) hG dX12_bring_161 lay_187 g5 ?_
    obtain ⟨g6, h⟩ := sx_grd h
    obtain ⟨V7, hV7⟩ : ∃ z : sv_V, z = sv_I V4 168 l1.toNatClampNeg (V4.1 187 ((4 : Int32) * l1).toNatClampNeg) := ⟨_, rfl⟩
    have h := sx_letE hV7 h
    refine sv_iast (pc := 162) hG dX12_bring_162 lay_168 g6 hV7 ?_
    refine sx_aload_n (pc := 163) dX12_bring_163 sx_m0 ?_
    refine sv_getA (pc := 164) hG dX12_bring_164 f_12_79 lay_146 rfl cr_146_49 ?_
    refine sx_iload_n (pc := 167) dX12_bring_167 sx_m1 ?_
    refine sx_aload_n (pc := 168) dX12_bring_168 sx_m0 ?_
    refine sv_getA (pc := 169) hG dX12_bring_169 f_12_137 lay_146 rfl cr_146_115 ?_
    refine sx_iconst (pc := 172) (v := 4) dX12_bring_172 (by decide) ?_
    refine sx_iload_n (pc := 173) dX12_bring_173 sx_m1 ?_
    refine sx_imul (pc := 174) dX12_bring_174 ?_
    refine sx_iconst (pc := 175) (v := 1) dX12_bring_175 (by decide) ?_
    refine sx_iadd (pc := 176) dX12_bring_176 ?_
    obtain ⟨g8, h⟩ := sx_grd h
    refine sv_iald (pc := 177) hG dX12_bring_177 lay_187 g8 ?_
    obtain ⟨g9, h⟩ := sx_grd h
    obtain ⟨V10, hV10⟩ : ∃ z : sv_V, z = sv_I V7 169 l1.toNatClampNeg (V7.1 187 (((4 : Int32) * l1) + (1 : Int32)).toNatClampNeg) := ⟨_, rfl⟩
    have h := sx_letE hV10 h
    refine sv_iast (pc := 178) hG dX12_bring_178 lay_169 g9 hV10 ?_
    refine sx_aload_n (pc := 179) dX12_bring_179 sx_m0 ?_
    refine sv_getA (pc := 180) hG dX12_bring_180 f_12_70 lay_146 rfl cr_146_46 ?_
    refine sx_iload_n (pc := 183) dX12_bring_183 sx_m1 ?_
    refine sx_aload_n (pc := 184) dX12_bring_184 sx_m0 ?_
    refine sv_getA (pc := 185) hG dX12_bring_185 f_12_137 lay_146 rfl cr_146_115 ?_
    refine sx_iconst (pc := 188) (v := 4) dX12_bring_188 (by decide) ?_
    refine sx_iload_n (pc := 189) dX12_bring_189 sx_m1 ?_
    refine sx_imul (pc := 190) dX12_bring_190 ?_
    refine sx_iconst (pc := 191) (v := 2) dX12_bring_191 (by decide) ?_
    refine sx_iadd (pc := 192) dX12_bring_192 ?_
    obtain ⟨g11, h⟩ := sx_grd h
    refine sv_iald (pc := 193) hG dX12_bring_193 lay_187 g11 ?_
    obtain ⟨g12, h⟩ := sx_grd h
    obtain ⟨V13, hV13⟩ : ∃ z : sv_V, z = sv_I V10 166 l1.toNatClampNeg (V10.1 187 (((4 : Int32) * l1) + (2 : Int32)).toNatClampNeg) := ⟨_, rfl⟩
    have h := sx_letE hV13 h
    refine sv_iast (pc := 194) hG dX12_bring_194 lay_166 g12 hV13 ?_
    refine sx_aload_n (pc := 195) dX12_bring_195 sx_m0 ?_
    refine sv_getA (pc := 196) hG dX12_bring_196 f_12_73 lay_146 rfl cr_146_47 ?_
    refine sx_iload_n (pc := 199) dX12_bring_199 sx_m1 ?_
    refine sx_aload_n (pc := 200) dX12_bring_200 sx_m0 ?_
    refine sv_getA (pc := 201) hG dX12_bring_201 f_12_137 lay_146 rfl cr_146_115 ?_
    refine sx_iconst (pc := 204) (v := 4) dX12_bring_204 (by decide) ?_
    refine sx_iload_n (pc := 205) dX12_bring_205 sx_m1 ?_
    refine sx_imul (pc := 206) dX12_bring_206 ?_
    refine sx_iconst (pc := 207) (v := 3) dX12_bring_207 (by decide) ?_
    refine sx_iadd (pc := 208) dX12_bring_208 ?_
    obtain ⟨g14, h⟩ := sx_grd h
    refine sv_iald (pc := 209) hG dX12_bring_209 lay_187 g14 ?_
    obtain ⟨g15, h⟩ := sx_grd h
    obtain ⟨V16, hV16⟩ : ∃ z : sv_V, z = sv_I V13 167 l1.toNatClampNeg (V13.1 187 (((4 : Int32) * l1) + (3 : Int32)).toNatClampNeg) := ⟨_, rfl⟩
    have h := sx_letE hV16 h
    refine sv_iast (pc := 210) hG dX12_bring_210 lay_167 g15 hV16 ?_
    refine sx_aload_n (pc := 211) dX12_bring_211 sx_m0 ?_
    refine sv_getA (pc := 212) hG dX12_bring_212 f_12_82 lay_146 rfl cr_146_50 ?_
    refine sx_iload_n (pc := 215) dX12_bring_215 sx_m1 ?_
    refine sx_aload_n (pc := 216) dX12_bring_216 sx_m0 ?_
    refine sv_getA (pc := 217) hG dX12_bring_217 f_12_143 lay_146 rfl cr_146_117 ?_
    refine sx_iload_n (pc := 220) dX12_bring_220 sx_m1 ?_
    obtain ⟨g17, h⟩ := sx_grd h
    refine sv_iald (pc := 221) hG dX12_bring_221 lay_189 g17 ?_
    obtain ⟨g18, h⟩ := sx_grd h
    obtain ⟨V19, hV19⟩ : ∃ z : sv_V, z = sv_I V16 170 l1.toNatClampNeg (V16.1 189 l1.toNatClampNeg) := ⟨_, rfl⟩
    have h := sx_letE hV19 h
    refine sv_iast (pc := 222) hG dX12_bring_222 lay_170 g18 hV19 ?_
    obtain ⟨x20, hx20⟩ : ∃ z : Int32, z = l1 + 1 := ⟨_, rfl⟩
    have h := sx_letE hx20 h
    refine sx_iinc (pc := 223) (v := x20) (lo' := [(1, .int x20), (0, .ref 146)]) dX12_bring_223 sx_m1 (by rw [hx20]; rfl) (by decide) rfl ?_
    refine sx_goto (pc := 226) (tgt := 131) dX12_bring_226 (by decide) ?_
    refine sx_wk (sx_s1 sx_m1 (sx_s1 sx_m0 sx_s0)) ?_
    exact hk131 _ _ h
theorem tL_X12_bring_131 {g : sx_G} (hG : sx_Go g) {P : Option Value → sv_V → Prop} {Vr : sv_V} (hP : P none Vr) {N : Nat}   : ∀ (n : Nat) (l1 : Int32) (V : sv_V), sx_lp2 (B_X12_bring_131 N ) n l1 V = some Vr → sv_N g qX12_bring 0 131 [(0, .ref 146), (1, .int l1)] [] V P :=
  sx_lp2_ind (fun k0 ih _ V h => tB_X12_bring_131 hG hP ih h)
def B_X12_bring_104 (N : Nat) (k104 : Int32 → sv_V → Option sv_V) (l1 : Int32) (V : sv_V) : Option sv_V := if (256 : Int32) ≤ l1 then (sx_lp2 (B_X12_bring_131 N ) N (0 : Int32) V) else (if sx_in l1 256 = true then if sx_in l1 256 = true then sx_let (sv_I V 164 l1.toNatClampNeg (V.1 185 l1.toNatClampNeg)) (fun V24 => sx_let (l1 + 1) (fun x25 => k104 x25 V24)) else none else none)
set_option maxRecDepth 20000 in
theorem tB_X12_bring_104 {g : sx_G} (hG : sx_Go g) {P : Option Value → sv_V → Prop} {Vr : sv_V} (hP : P none Vr) {N : Nat} {k104 : Int32 → sv_V → Option sv_V} (hk104 : ∀ (l1 : Int32) (V : sv_V), k104 l1 V = some Vr → sv_N g qX12_bring 0 104 [(0, .ref 146), (1, .int l1)] [] V P) {l1 : Int32} {V : sv_V} (h : B_X12_bring_104 N k104 l1 V = some Vr) : sv_N g qX12_bring 0 104 [(0, .ref 146), (1, .int l1)] [] V P := by
  unfold B_X12_bring_104 at h
  refine sx_iload_n (pc := 104) dX12_bring_104 sx_m1 ?_
  refine sx_sipush (pc := 105) (v := 256) dX12_bring_105 (by decide) ?_
  refine sx_icmp_ge (pc := 108) (tgt := 129) dX12_bring_108 (by decide) (fun c21 => ?_) (fun c21 => ?_)
  · have h := sx_pos c21 h
    refine sx_iconst (pc := 129) (v := 0) dX12_bring_129 (by decide) ?_
    refine sx_istore_n (pc := 130) (lo' := [(1, .int (0 : Int32)), (0, .ref 146)]) dX12_bring_130 (by decide) rfl ?_
    refine sx_wk (sx_s1 sx_m1 (sx_s1 sx_m0 sx_s0)) ?_
    exact tL_X12_bring_131 hG hP  N _ _ h
  · have h := sx_neg c21 h
    refine sx_aload_n (pc := 111) dX12_bring_111 sx_m0 ?_
    refine sv_getA (pc := 112) hG dX12_bring_112 f_12_64 lay_146 rfl cr_146_44 ?_
    refine sx_iload_n (pc := 115) dX12_bring_115 sx_m1 ?_
    refine sx_aload_n (pc := 116) dX12_bring_116 sx_m0 ?_
    refine sv_getA (pc := 117) hG dX12_bring_117 f_12_131 lay_146 rfl cr_146_113 ?_
    refine sx_iload_n (pc := 120) dX12_bring_120 sx_m1 ?_
    obtain ⟨g22, h⟩ := sx_grd h
    refine sv_iald (pc := 121) hG dX12_bring_121 lay_185 g22 ?_
    obtain ⟨g23, h⟩ := sx_grd h
    obtain ⟨V24, hV24⟩ : ∃ z : sv_V, z = sv_I V 164 l1.toNatClampNeg (V.1 185 l1.toNatClampNeg) := ⟨_, rfl⟩
    have h := sx_letE hV24 h
    refine sv_iast (pc := 122) hG dX12_bring_122 lay_164 g23 hV24 ?_
    obtain ⟨x25, hx25⟩ : ∃ z : Int32, z = l1 + 1 := ⟨_, rfl⟩
    have h := sx_letE hx25 h
    refine sx_iinc (pc := 123) (v := x25) (lo' := [(1, .int x25), (0, .ref 146)]) dX12_bring_123 sx_m1 (by rw [hx25]; rfl) (by decide) rfl ?_
    refine sx_goto (pc := 126) (tgt := 104) dX12_bring_126 (by decide) ?_
    refine sx_wk (sx_s1 sx_m1 (sx_s1 sx_m0 sx_s0)) ?_
    exact hk104 _ _ h
theorem tL_X12_bring_104 {g : sx_G} (hG : sx_Go g) {P : Option Value → sv_V → Prop} {Vr : sv_V} (hP : P none Vr) {N : Nat}   : ∀ (n : Nat) (l1 : Int32) (V : sv_V), sx_lp2 (B_X12_bring_104 N ) n l1 V = some Vr → sv_N g qX12_bring 0 104 [(0, .ref 146), (1, .int l1)] [] V P :=
  sx_lp2_ind (fun k0 ih _ V h => tB_X12_bring_104 hG hP ih h)
def B_X12_bring_56 (N : Nat)  (s1 : Int32) (V : sv_V) : Option sv_V := if sv_bl s1 = true then sx_let (sv_I V 146 84 s1) (fun V27 => sx_let (sv_I V27 146 85 (V27.1 188 (5 : Int32).toNatClampNeg)) (fun V28 => sx_let (sv_I V28 146 86 (V28.1 188 (6 : Int32).toNatClampNeg)) (fun V29 => sx_let (sv_I V29 146 87 (V29.1 188 (7 : Int32).toNatClampNeg)) (fun V30 => sx_let (sv_I V30 146 88 (V30.1 188 (8 : Int32).toNatClampNeg)) (fun V31 => sx_lp2 (B_X12_bring_104 N ) N (0 : Int32) V31))))) else none
set_option maxRecDepth 20000 in
theorem tB_X12_bring_56 {g : sx_G} (hG : sx_Go g) {P : Option Value → sv_V → Prop} {Vr : sv_V} (hP : P none Vr) {N : Nat}   {s1 : Int32} {V : sv_V} (h : B_X12_bring_56 N  s1 V = some Vr) : sv_N g qX12_bring 0 56 [(0, .ref 146)] [.int s1, .ref 146] V P := by
  unfold B_X12_bring_56 at h
  obtain ⟨g26, h⟩ := sx_grd h
  obtain ⟨V27, hV27⟩ : ∃ z : sv_V, z = sv_I V 146 84 s1 := ⟨_, rfl⟩
  have h := sx_letE hV27 h
  refine sv_putZ (pc := 56) hG dX12_bring_56 f_12_683 lay_146 rfl g26 hV27 ?_
  refine sx_aload_n (pc := 59) dX12_bring_59 sx_m0 ?_
  refine sx_aload_n (pc := 60) dX12_bring_60 sx_m0 ?_
  refine sv_getA (pc := 61) hG dX12_bring_61 f_12_140 lay_146 rfl cr_146_116 ?_
  refine sx_iconst (pc := 64) (v := 5) dX12_bring_64 (by decide) ?_
  refine sv_iald (pc := 65) hG dX12_bring_65 lay_188 (by decide) ?_
  obtain ⟨V28, hV28⟩ : ∃ z : sv_V, z = sv_I V27 146 85 (V27.1 188 (5 : Int32).toNatClampNeg) := ⟨_, rfl⟩
  have h := sx_letE hV28 h
  refine sv_putI (pc := 66) hG dX12_bring_66 f_12_700 lay_146 rfl hV28 ?_
  refine sx_aload_n (pc := 69) dX12_bring_69 sx_m0 ?_
  refine sx_aload_n (pc := 70) dX12_bring_70 sx_m0 ?_
  refine sv_getA (pc := 71) hG dX12_bring_71 f_12_140 lay_146 rfl cr_146_116 ?_
  refine sx_bipush (pc := 74) (v := 6) dX12_bring_74 (by decide) ?_
  refine sv_iald (pc := 76) hG dX12_bring_76 lay_188 (by decide) ?_
  obtain ⟨V29, hV29⟩ : ∃ z : sv_V, z = sv_I V28 146 86 (V28.1 188 (6 : Int32).toNatClampNeg) := ⟨_, rfl⟩
  have h := sx_letE hV29 h
  refine sv_putI (pc := 77) hG dX12_bring_77 f_12_703 lay_146 rfl hV29 ?_
  refine sx_aload_n (pc := 80) dX12_bring_80 sx_m0 ?_
  refine sx_aload_n (pc := 81) dX12_bring_81 sx_m0 ?_
  refine sv_getA (pc := 82) hG dX12_bring_82 f_12_140 lay_146 rfl cr_146_116 ?_
  refine sx_bipush (pc := 85) (v := 7) dX12_bring_85 (by decide) ?_
  refine sv_iald (pc := 87) hG dX12_bring_87 lay_188 (by decide) ?_
  obtain ⟨V30, hV30⟩ : ∃ z : sv_V, z = sv_I V29 146 87 (V29.1 188 (7 : Int32).toNatClampNeg) := ⟨_, rfl⟩
  have h := sx_letE hV30 h
  refine sv_putI (pc := 88) hG dX12_bring_88 f_12_739 lay_146 rfl hV30 ?_
  refine sx_aload_n (pc := 91) dX12_bring_91 sx_m0 ?_
  refine sx_aload_n (pc := 92) dX12_bring_92 sx_m0 ?_
  refine sv_getA (pc := 93) hG dX12_bring_93 f_12_140 lay_146 rfl cr_146_116 ?_
  refine sx_bipush (pc := 96) (v := 8) dX12_bring_96 (by decide) ?_
  refine sv_iald (pc := 98) hG dX12_bring_98 lay_188 (by decide) ?_
  obtain ⟨V31, hV31⟩ : ∃ z : sv_V, z = sv_I V30 146 88 (V30.1 188 (8 : Int32).toNatClampNeg) := ⟨_, rfl⟩
  have h := sx_letE hV31 h
  refine sv_putI (pc := 99) hG dX12_bring_99 f_12_747 lay_146 rfl hV31 ?_
  refine sx_iconst (pc := 102) (v := 0) dX12_bring_102 (by decide) ?_
  refine sx_istore_n (pc := 103) (lo' := [(1, .int (0 : Int32)), (0, .ref 146)]) dX12_bring_103 (by decide) rfl ?_
  refine sx_wk (sx_s1 sx_m1 (sx_s1 sx_m0 sx_s0)) ?_
  exact tL_X12_bring_104 hG hP  N _ _ h
def F_X12_bring (N : Nat)  (V : sv_V) : Option sv_V := sx_let (sv_I V 146 80 (V.1 188 (0 : Int32).toNatClampNeg)) (fun V32 => sx_let (sv_I V32 146 81 (V32.1 188 (1 : Int32).toNatClampNeg)) (fun V33 => sx_let (sv_I V33 146 82 (V33.1 188 (2 : Int32).toNatClampNeg)) (fun V34 => sx_let (sv_I V34 146 83 (V34.1 188 (3 : Int32).toNatClampNeg)) (fun V35 => if (V35.1 188 (4 : Int32).toNatClampNeg) = (1 : Int32) then (B_X12_bring_56 N  (1 : Int32) V35) else (B_X12_bring_56 N  (0 : Int32) V35)))))
set_option maxRecDepth 20000 in
theorem t_X12_bring {g : sx_G} (hG : sx_Go g) {P : Option Value → sv_V → Prop} {Vr : sv_V} (hP : P none Vr) {N : Nat}  {V : sv_V} (h : F_X12_bring N  V = some Vr) : sv_N g qX12_bring 0 0 [(0, .ref 146)] [] V P := by
  unfold F_X12_bring at h
  refine sx_aload_n (pc := 0) dX12_bring_0 sx_m0 ?_
  refine sx_aload_n (pc := 1) dX12_bring_1 sx_m0 ?_
  refine sv_getA (pc := 2) hG dX12_bring_2 f_12_140 lay_146 rfl cr_146_116 ?_
  refine sx_iconst (pc := 5) (v := 0) dX12_bring_5 (by decide) ?_
  refine sv_iald (pc := 6) hG dX12_bring_6 lay_188 (by decide) ?_
  obtain ⟨V32, hV32⟩ : ∃ z : sv_V, z = sv_I V 146 80 (V.1 188 (0 : Int32).toNatClampNeg) := ⟨_, rfl⟩
  have h := sx_letE hV32 h
  refine sv_putI (pc := 7) hG dX12_bring_7 f_12_605 lay_146 rfl hV32 ?_
  refine sx_aload_n (pc := 10) dX12_bring_10 sx_m0 ?_
  refine sx_aload_n (pc := 11) dX12_bring_11 sx_m0 ?_
  refine sv_getA (pc := 12) hG dX12_bring_12 f_12_140 lay_146 rfl cr_146_116 ?_
  refine sx_iconst (pc := 15) (v := 1) dX12_bring_15 (by decide) ?_
  refine sv_iald (pc := 16) hG dX12_bring_16 lay_188 (by decide) ?_
  obtain ⟨V33, hV33⟩ : ∃ z : sv_V, z = sv_I V32 146 81 (V32.1 188 (1 : Int32).toNatClampNeg) := ⟨_, rfl⟩
  have h := sx_letE hV33 h
  refine sv_putI (pc := 17) hG dX12_bring_17 f_12_615 lay_146 rfl hV33 ?_
  refine sx_aload_n (pc := 20) dX12_bring_20 sx_m0 ?_
  refine sx_aload_n (pc := 21) dX12_bring_21 sx_m0 ?_
  refine sv_getA (pc := 22) hG dX12_bring_22 f_12_140 lay_146 rfl cr_146_116 ?_
  refine sx_iconst (pc := 25) (v := 2) dX12_bring_25 (by decide) ?_
  refine sv_iald (pc := 26) hG dX12_bring_26 lay_188 (by decide) ?_
  obtain ⟨V34, hV34⟩ : ∃ z : sv_V, z = sv_I V33 146 82 (V33.1 188 (2 : Int32).toNatClampNeg) := ⟨_, rfl⟩
  have h := sx_letE hV34 h
  refine sv_putI (pc := 27) hG dX12_bring_27 f_12_608 lay_146 rfl hV34 ?_
  refine sx_aload_n (pc := 30) dX12_bring_30 sx_m0 ?_
  refine sx_aload_n (pc := 31) dX12_bring_31 sx_m0 ?_
  refine sv_getA (pc := 32) hG dX12_bring_32 f_12_140 lay_146 rfl cr_146_116 ?_
  refine sx_iconst (pc := 35) (v := 3) dX12_bring_35 (by decide) ?_
  refine sv_iald (pc := 36) hG dX12_bring_36 lay_188 (by decide) ?_
  obtain ⟨V35, hV35⟩ : ∃ z : sv_V, z = sv_I V34 146 83 (V34.1 188 (3 : Int32).toNatClampNeg) := ⟨_, rfl⟩
  have h := sx_letE hV35 h
  refine sv_putI (pc := 37) hG dX12_bring_37 f_12_595 lay_146 rfl hV35 ?_
  refine sx_aload_n (pc := 40) dX12_bring_40 sx_m0 ?_
  refine sx_aload_n (pc := 41) dX12_bring_41 sx_m0 ?_
  refine sv_getA (pc := 42) hG dX12_bring_42 f_12_140 lay_146 rfl cr_146_116 ?_
  refine sx_iconst (pc := 45) (v := 4) dX12_bring_45 (by decide) ?_
  refine sv_iald (pc := 46) hG dX12_bring_46 lay_188 (by decide) ?_
  refine sx_iconst (pc := 47) (v := 1) dX12_bring_47 (by decide) ?_
  refine sx_icmp_ne (pc := 48) (tgt := 55) dX12_bring_48 (by decide) (fun c36 => ?_) (fun c36 => ?_)
  · have h := sx_neg c36 h
    refine sx_iconst (pc := 55) (v := 0) dX12_bring_55 (by decide) ?_
    refine sx_wk (sx_s1 sx_m0 sx_s0) ?_
    exact tB_X12_bring_56 hG hP  h
  · have h := sx_pos c36 h
    refine sx_iconst (pc := 51) (v := 1) dX12_bring_51 (by decide) ?_
    refine sx_goto (pc := 52) (tgt := 56) dX12_bring_52 (by decide) ?_
    refine sx_wk (sx_s1 sx_m0 sx_s0) ?_
    exact tB_X12_bring_56 hG hP  h
theorem dX12_failedNow_0 : decode cX12_failedNow 0 = .ok (.aload_n 0, 1) := by decide +kernel
theorem dX12_failedNow_1 : decode cX12_failedNow 1 = .ok (.dup, 1) := by decide +kernel
theorem dX12_failedNow_2 : decode cX12_failedNow 2 = .ok (.getfield 750, 3) := by decide +kernel
theorem dX12_failedNow_5 : decode cX12_failedNow 5 = .ok (.iconst 1, 1) := by decide +kernel
theorem dX12_failedNow_6 : decode cX12_failedNow 6 = .ok (.iadd, 1) := by decide +kernel
theorem dX12_failedNow_7 : decode cX12_failedNow 7 = .ok (.putfield 750, 3) := by decide +kernel
theorem dX12_failedNow_10 : decode cX12_failedNow 10 = .ok (.aload_n 0, 1) := by decide +kernel
theorem dX12_failedNow_11 : decode cX12_failedNow 11 = .ok (.aload_n 0, 1) := by decide +kernel
theorem dX12_failedNow_12 : decode cX12_failedNow 12 = .ok (.getfield 409, 3) := by decide +kernel
theorem dX12_failedNow_15 : decode cX12_failedNow 15 = .ok (.putfield 753, 3) := by decide +kernel
theorem dX12_failedNow_18 : decode cX12_failedNow 18 = .ok (.aload_n 0, 1) := by decide +kernel
theorem dX12_failedNow_19 : decode cX12_failedNow 19 = .ok (.aload_n 0, 1) := by decide +kernel
theorem dX12_failedNow_20 : decode cX12_failedNow 20 = .ok (.getfield 415, 3) := by decide +kernel
theorem dX12_failedNow_23 : decode cX12_failedNow 23 = .ok (.putfield 127, 3) := by decide +kernel
theorem dX12_failedNow_26 : decode cX12_failedNow 26 = .ok (.aload_n 0, 1) := by decide +kernel
theorem dX12_failedNow_27 : decode cX12_failedNow 27 = .ok (.aload_n 0, 1) := by decide +kernel
theorem dX12_failedNow_28 : decode cX12_failedNow 28 = .ok (.getfield 505, 3) := by decide +kernel
theorem dX12_failedNow_31 : decode cX12_failedNow 31 = .ok (.putfield 756, 3) := by decide +kernel
theorem dX12_failedNow_34 : decode cX12_failedNow 34 = .ok (.bipush (-100), 2) := by decide +kernel
theorem dX12_failedNow_36 : decode cX12_failedNow 36 = .ok (.aload_n 0, 1) := by decide +kernel
theorem dX12_failedNow_37 : decode cX12_failedNow 37 = .ok (.getfield 409, 3) := by decide +kernel
theorem dX12_failedNow_40 : decode cX12_failedNow 40 = .ok (.isub, 1) := by decide +kernel
theorem dX12_failedNow_41 : decode cX12_failedNow 41 = .ok (.ireturn, 1) := by decide +kernel
def F_X12_failedNow  (V : sv_V) : Option (Int32 × sv_V) := sx_let (sv_I V 146 110 ((V.1 146 110) + (1 : Int32))) (fun V1 => sx_let (sv_I V1 146 111 (V1.1 146 59)) (fun V2 => sx_let (sv_I V2 146 112 (V2.1 146 60)) (fun V3 => sx_let (sv_I V3 146 109 (V3.1 146 58)) (fun V4 => some ((-100 : Int32) - (V4.1 146 59), V4)))))
set_option maxRecDepth 20000 in
theorem t_X12_failedNow {g : sx_G} (hG : sx_Go g) {P : Option Value → sv_V → Prop} {r : Int32} {Vr : sv_V} (hP : P (some (.int r)) Vr)  {V : sv_V} (h : F_X12_failedNow  V = some (r, Vr)) : sv_N g qX12_failedNow 0 0 [(0, .ref 146)] [] V P := by
  unfold F_X12_failedNow at h
  refine sx_aload_n (pc := 0) dX12_failedNow_0 sx_m0 ?_
  refine sx_dup (pc := 1) dX12_failedNow_1 rfl ?_
  refine sv_getI (pc := 2) hG dX12_failedNow_2 f_12_750 lay_146 rfl ?_
  refine sx_iconst (pc := 5) (v := 1) dX12_failedNow_5 (by decide) ?_
  refine sx_iadd (pc := 6) dX12_failedNow_6 ?_
  obtain ⟨V1, hV1⟩ : ∃ z : sv_V, z = sv_I V 146 110 ((V.1 146 110) + (1 : Int32)) := ⟨_, rfl⟩
  have h := sx_letE hV1 h
  refine sv_putI (pc := 7) hG dX12_failedNow_7 f_12_750 lay_146 rfl hV1 ?_
  refine sx_aload_n (pc := 10) dX12_failedNow_10 sx_m0 ?_
  refine sx_aload_n (pc := 11) dX12_failedNow_11 sx_m0 ?_
  refine sv_getI (pc := 12) hG dX12_failedNow_12 f_12_409 lay_146 rfl ?_
  obtain ⟨V2, hV2⟩ : ∃ z : sv_V, z = sv_I V1 146 111 (V1.1 146 59) := ⟨_, rfl⟩
  have h := sx_letE hV2 h
  refine sv_putI (pc := 15) hG dX12_failedNow_15 f_12_753 lay_146 rfl hV2 ?_
  refine sx_aload_n (pc := 18) dX12_failedNow_18 sx_m0 ?_
  refine sx_aload_n (pc := 19) dX12_failedNow_19 sx_m0 ?_
  refine sv_getI (pc := 20) hG dX12_failedNow_20 f_12_415 lay_146 rfl ?_
  obtain ⟨V3, hV3⟩ : ∃ z : sv_V, z = sv_I V2 146 112 (V2.1 146 60) := ⟨_, rfl⟩
  have h := sx_letE hV3 h
  refine sv_putI (pc := 23) hG dX12_failedNow_23 f_12_127 lay_146 rfl hV3 ?_
  refine sx_aload_n (pc := 26) dX12_failedNow_26 sx_m0 ?_
  refine sx_aload_n (pc := 27) dX12_failedNow_27 sx_m0 ?_
  refine sv_getI (pc := 28) hG dX12_failedNow_28 f_12_505 lay_146 rfl ?_
  obtain ⟨V4, hV4⟩ : ∃ z : sv_V, z = sv_I V3 146 109 (V3.1 146 58) := ⟨_, rfl⟩
  have h := sx_letE hV4 h
  refine sv_putI (pc := 31) hG dX12_failedNow_31 f_12_756 lay_146 rfl hV4 ?_
  refine sx_bipush (pc := 34) (v := (-100)) dX12_failedNow_34 (by decide) ?_
  refine sx_aload_n (pc := 36) dX12_failedNow_36 sx_m0 ?_
  refine sv_getI (pc := 37) hG dX12_failedNow_37 f_12_409 lay_146 rfl ?_
  refine sx_isub (pc := 40) dX12_failedNow_40 ?_
  exact sv_iret (pc := 41) dX12_failedNow_41 rfl h hP
theorem dX12_failOutside_0 : decode cX12_failOutside 0 = .ok (.aload_n 0, 1) := by decide +kernel
theorem dX12_failOutside_1 : decode cX12_failOutside 1 = .ok (.getfield 409, 3) := by decide +kernel
theorem dX12_failOutside_4 : decode cX12_failOutside 4 = .ok (.ifCond .ne 13, 3) := by decide +kernel
theorem dX12_failOutside_7 : decode cX12_failOutside 7 = .ok (.aload_n 0, 1) := by decide +kernel
theorem dX12_failOutside_8 : decode cX12_failOutside 8 = .ok (.iload_n 1, 1) := by decide +kernel
theorem dX12_failOutside_9 : decode cX12_failOutside 9 = .ok (.putfield 409, 3) := by decide +kernel
theorem dX12_failOutside_12 : decode cX12_failOutside 12 = .ok (.aload_n 0, 1) := by decide +kernel
theorem dX12_failOutside_13 : decode cX12_failOutside 13 = .ok (.iconst (-1), 1) := by decide +kernel
theorem dX12_failOutside_14 : decode cX12_failOutside 14 = .ok (.putfield 415, 3) := by decide +kernel
theorem dX12_failOutside_17 : decode cX12_failOutside 17 = .ok (.return_, 1) := by decide +kernel
def F_X12_failOutside (l1 : Int32) (V : sv_V) : Option sv_V := if (V.1 146 59) = 0 then (sx_let (sv_I V 146 59 l1) (fun V2 => sx_let (sv_I V2 146 60 (-1 : Int32)) (fun V3 => some V3))) else (some V)
set_option maxRecDepth 20000 in
theorem t_X12_failOutside {g : sx_G} (hG : sx_Go g) {P : Option Value → sv_V → Prop} {Vr : sv_V} (hP : P none Vr) {l1 : Int32} {V : sv_V} (h : F_X12_failOutside l1 V = some Vr) : sv_N g qX12_failOutside 0 0 [(0, .ref 146), (1, .int l1)] [] V P := by
  unfold F_X12_failOutside at h
  refine sx_aload_n (pc := 0) dX12_failOutside_0 sx_m0 ?_
  refine sv_getI (pc := 1) hG dX12_failOutside_1 f_12_409 lay_146 rfl ?_
  refine sx_if_ne (pc := 4) (tgt := 17) dX12_failOutside_4 (by decide) (fun c1 => ?_) (fun c1 => ?_)
  · have h := sx_neg c1 h
    exact sv_vret (pc := 17) dX12_failOutside_17 rfl h hP
  · have h := sx_pos c1 h
    refine sx_aload_n (pc := 7) dX12_failOutside_7 sx_m0 ?_
    refine sx_iload_n (pc := 8) dX12_failOutside_8 sx_m1 ?_
    obtain ⟨V2, hV2⟩ : ∃ z : sv_V, z = sv_I V 146 59 l1 := ⟨_, rfl⟩
    have h := sx_letE hV2 h
    refine sv_putI (pc := 9) hG dX12_failOutside_9 f_12_409 lay_146 rfl hV2 ?_
    refine sx_aload_n (pc := 12) dX12_failOutside_12 sx_m0 ?_
    refine sx_iconst (pc := 13) (v := (-1)) dX12_failOutside_13 (by decide) ?_
    obtain ⟨V3, hV3⟩ : ∃ z : sv_V, z = sv_I V2 146 60 (-1 : Int32) := ⟨_, rfl⟩
    have h := sx_letE hV3 h
    refine sv_putI (pc := 14) hG dX12_failOutside_14 f_12_415 lay_146 rfl hV3 ?_
    exact sv_vret (pc := 17) dX12_failOutside_17 rfl h hP
theorem dX12_node_0 : decode cX12_node 0 = .ok (.aload_n 0, 1) := by decide +kernel
theorem dX12_node_1 : decode cX12_node 1 = .ok (.getfield 179, 3) := by decide +kernel
theorem dX12_node_4 : decode cX12_node 4 = .ok (.aload_n 0, 1) := by decide +kernel
theorem dX12_node_5 : decode cX12_node 5 = .ok (.getfield 835, 3) := by decide +kernel
theorem dX12_node_8 : decode cX12_node 8 = .ok (.iload_n 1, 1) := by decide +kernel
theorem dX12_node_9 : decode cX12_node 9 = .ok (.iastore, 1) := by decide +kernel
theorem dX12_node_10 : decode cX12_node 10 = .ok (.aload_n 0, 1) := by decide +kernel
theorem dX12_node_11 : decode cX12_node 11 = .ok (.getfield 182, 3) := by decide +kernel
theorem dX12_node_14 : decode cX12_node 14 = .ok (.aload_n 0, 1) := by decide +kernel
theorem dX12_node_15 : decode cX12_node 15 = .ok (.getfield 835, 3) := by decide +kernel
theorem dX12_node_18 : decode cX12_node 18 = .ok (.iload_n 2, 1) := by decide +kernel
theorem dX12_node_19 : decode cX12_node 19 = .ok (.iastore, 1) := by decide +kernel
theorem dX12_node_20 : decode cX12_node 20 = .ok (.aload_n 0, 1) := by decide +kernel
theorem dX12_node_21 : decode cX12_node 21 = .ok (.getfield 185, 3) := by decide +kernel
theorem dX12_node_24 : decode cX12_node 24 = .ok (.aload_n 0, 1) := by decide +kernel
theorem dX12_node_25 : decode cX12_node 25 = .ok (.getfield 835, 3) := by decide +kernel
theorem dX12_node_28 : decode cX12_node 28 = .ok (.iload_n 3, 1) := by decide +kernel
theorem dX12_node_29 : decode cX12_node 29 = .ok (.bastore, 1) := by decide +kernel
theorem dX12_node_30 : decode cX12_node 30 = .ok (.aload_n 0, 1) := by decide +kernel
theorem dX12_node_31 : decode cX12_node 31 = .ok (.dup, 1) := by decide +kernel
theorem dX12_node_32 : decode cX12_node 32 = .ok (.getfield 835, 3) := by decide +kernel
theorem dX12_node_35 : decode cX12_node 35 = .ok (.iconst 1, 1) := by decide +kernel
theorem dX12_node_36 : decode cX12_node 36 = .ok (.iadd, 1) := by decide +kernel
theorem dX12_node_37 : decode cX12_node 37 = .ok (.putfield 835, 3) := by decide +kernel
theorem dX12_node_40 : decode cX12_node 40 = .ok (.return_, 1) := by decide +kernel
def F_X12_node (l1 : Int32) (l2 : Int32) (l3 : Int32) (V : sv_V) : Option sv_V := if sx_in (V.1 146 135) 220 = true then sx_let (sv_I V 201 (V.1 146 135).toNatClampNeg l1) (fun V2 => if sx_in (V2.1 146 135) 220 = true then sx_let (sv_I V2 202 (V2.1 146 135).toNatClampNeg l2) (fun V4 => if sx_in (V4.1 146 135) 220 = true then if sv_bl l3 = true then sx_let (sv_I V4 203 (V4.1 146 135).toNatClampNeg l3) (fun V7 => sx_let (sv_I V7 146 135 ((V7.1 146 135) + (1 : Int32))) (fun V8 => some V8)) else none else none) else none) else none
set_option maxRecDepth 20000 in
theorem t_X12_node {g : sx_G} (hG : sx_Go g) {P : Option Value → sv_V → Prop} {Vr : sv_V} (hP : P none Vr) {l1 : Int32} {l2 : Int32} {l3 : Int32} {V : sv_V} (h : F_X12_node l1 l2 l3 V = some Vr) : sv_N g qX12_node 0 0 [(0, .ref 146), (1, .int l1), (2, .int l2), (3, .int l3)] [] V P := by
  unfold F_X12_node at h
  refine sx_aload_n (pc := 0) dX12_node_0 sx_m0 ?_
  refine sv_getA (pc := 1) hG dX12_node_1 f_12_179 lay_146 rfl cr_146_136 ?_
  refine sx_aload_n (pc := 4) dX12_node_4 sx_m0 ?_
  refine sv_getI (pc := 5) hG dX12_node_5 f_12_835 lay_146 rfl ?_
  refine sx_iload_n (pc := 8) dX12_node_8 sx_m1 ?_
  obtain ⟨g1, h⟩ := sx_grd h
  obtain ⟨V2, hV2⟩ : ∃ z : sv_V, z = sv_I V 201 (V.1 146 135).toNatClampNeg l1 := ⟨_, rfl⟩
  have h := sx_letE hV2 h
  refine sv_iast (pc := 9) hG dX12_node_9 lay_201 g1 hV2 ?_
  refine sx_aload_n (pc := 10) dX12_node_10 sx_m0 ?_
  refine sv_getA (pc := 11) hG dX12_node_11 f_12_182 lay_146 rfl cr_146_137 ?_
  refine sx_aload_n (pc := 14) dX12_node_14 sx_m0 ?_
  refine sv_getI (pc := 15) hG dX12_node_15 f_12_835 lay_146 rfl ?_
  refine sx_iload_n (pc := 18) dX12_node_18 sx_m2 ?_
  obtain ⟨g3, h⟩ := sx_grd h
  obtain ⟨V4, hV4⟩ : ∃ z : sv_V, z = sv_I V2 202 (V2.1 146 135).toNatClampNeg l2 := ⟨_, rfl⟩
  have h := sx_letE hV4 h
  refine sv_iast (pc := 19) hG dX12_node_19 lay_202 g3 hV4 ?_
  refine sx_aload_n (pc := 20) dX12_node_20 sx_m0 ?_
  refine sv_getA (pc := 21) hG dX12_node_21 f_12_185 lay_146 rfl cr_146_138 ?_
  refine sx_aload_n (pc := 24) dX12_node_24 sx_m0 ?_
  refine sv_getI (pc := 25) hG dX12_node_25 f_12_835 lay_146 rfl ?_
  refine sx_iload_n (pc := 28) dX12_node_28 sx_m3 ?_
  obtain ⟨g5, h⟩ := sx_grd h
  obtain ⟨g6, h⟩ := sx_grd h
  obtain ⟨V7, hV7⟩ : ∃ z : sv_V, z = sv_I V4 203 (V4.1 146 135).toNatClampNeg l3 := ⟨_, rfl⟩
  have h := sx_letE hV7 h
  refine sv_zast (pc := 29) hG dX12_node_29 lay_203 g5 g6 hV7 ?_
  refine sx_aload_n (pc := 30) dX12_node_30 sx_m0 ?_
  refine sx_dup (pc := 31) dX12_node_31 rfl ?_
  refine sv_getI (pc := 32) hG dX12_node_32 f_12_835 lay_146 rfl ?_
  refine sx_iconst (pc := 35) (v := 1) dX12_node_35 (by decide) ?_
  refine sx_iadd (pc := 36) dX12_node_36 ?_
  obtain ⟨V8, hV8⟩ : ∃ z : sv_V, z = sv_I V7 146 135 ((V7.1 146 135) + (1 : Int32)) := ⟨_, rfl⟩
  have h := sx_letE hV8 h
  refine sv_putI (pc := 37) hG dX12_node_37 f_12_835 lay_146 rfl hV8 ?_
  exact sv_vret (pc := 40) dX12_node_40 rfl h hP
theorem dX12_cross_0 : decode cX12_cross 0 = .ok (.lload_n 0, 1) := by decide +kernel
theorem dX12_cross_1 : decode cX12_cross 1 = .ok (.lload 6, 2) := by decide +kernel
theorem dX12_cross_3 : decode cX12_cross 3 = .ok (.lmul, 1) := by decide +kernel
theorem dX12_cross_4 : decode cX12_cross 4 = .ok (.lload_n 2, 1) := by decide +kernel
theorem dX12_cross_5 : decode cX12_cross 5 = .ok (.lload 4, 2) := by decide +kernel
theorem dX12_cross_7 : decode cX12_cross 7 = .ok (.lmul, 1) := by decide +kernel
theorem dX12_cross_8 : decode cX12_cross 8 = .ok (.lsub, 1) := by decide +kernel
theorem dX12_cross_9 : decode cX12_cross 9 = .ok (.lreturn, 1) := by decide +kernel
def F_X12_cross (l0 : Int64) (l2 : Int64) (l4 : Int64) (l6 : Int64) (V : sv_V) : Option (Int64 × sv_V) := some ((l0 * l6) - (l2 * l4), V)
set_option maxRecDepth 20000 in
theorem t_X12_cross {g : sx_G} (hG : sx_Go g) {P : Option Value → sv_V → Prop} {r : Int64} {Vr : sv_V} (hP : P (some (.long r)) Vr) {l0 : Int64} {l2 : Int64} {l4 : Int64} {l6 : Int64} {V : sv_V} (h : F_X12_cross l0 l2 l4 l6 V = some (r, Vr)) : sv_N g qX12_cross 0 0 [(0, .long l0), (2, .long l2), (4, .long l4), (6, .long l6)] [] V P := by
  unfold F_X12_cross at h
  refine sx_lload_n (pc := 0) dX12_cross_0 sx_m0 ?_
  refine sx_lload (pc := 1) dX12_cross_1 sx_m3 ?_
  refine sx_lmul (pc := 3) dX12_cross_3 ?_
  refine sx_lload_n (pc := 4) dX12_cross_4 sx_m1 ?_
  refine sx_lload (pc := 5) dX12_cross_5 sx_m2 ?_
  refine sx_lmul (pc := 7) dX12_cross_7 ?_
  refine sx_lsub (pc := 8) dX12_cross_8 ?_
  exact sv_lret (pc := 9) dX12_cross_9 rfl h hP
theorem dX12_between0_0 : decode cX12_between0 0 = .ok (.lload_n 0, 1) := by decide +kernel
theorem dX12_between0_1 : decode cX12_between0 1 = .ok (.lconst 0, 1) := by decide +kernel
theorem dX12_between0_2 : decode cX12_between0 2 = .ok (.lcmp, 1) := by decide +kernel
theorem dX12_between0_3 : decode cX12_between0 3 = .ok (.ifCond .gt 9, 3) := by decide +kernel
theorem dX12_between0_6 : decode cX12_between0 6 = .ok (.lload_n 2, 1) := by decide +kernel
theorem dX12_between0_7 : decode cX12_between0 7 = .ok (.lconst 0, 1) := by decide +kernel
theorem dX12_between0_8 : decode cX12_between0 8 = .ok (.lcmp, 1) := by decide +kernel
theorem dX12_between0_9 : decode cX12_between0 9 = .ok (.ifCond .ge 15, 3) := by decide +kernel
theorem dX12_between0_12 : decode cX12_between0 12 = .ok (.lload_n 0, 1) := by decide +kernel
theorem dX12_between0_13 : decode cX12_between0 13 = .ok (.lconst 0, 1) := by decide +kernel
theorem dX12_between0_14 : decode cX12_between0 14 = .ok (.lcmp, 1) := by decide +kernel
theorem dX12_between0_15 : decode cX12_between0 15 = .ok (.ifCond .lt 13, 3) := by decide +kernel
theorem dX12_between0_18 : decode cX12_between0 18 = .ok (.lload_n 2, 1) := by decide +kernel
theorem dX12_between0_19 : decode cX12_between0 19 = .ok (.lconst 0, 1) := by decide +kernel
theorem dX12_between0_20 : decode cX12_between0 20 = .ok (.lcmp, 1) := by decide +kernel
theorem dX12_between0_21 : decode cX12_between0 21 = .ok (.ifCond .gt 7, 3) := by decide +kernel
theorem dX12_between0_24 : decode cX12_between0 24 = .ok (.iconst 1, 1) := by decide +kernel
theorem dX12_between0_25 : decode cX12_between0 25 = .ok (.goto 4, 3) := by decide +kernel
theorem dX12_between0_28 : decode cX12_between0 28 = .ok (.iconst 0, 1) := by decide +kernel
theorem dX12_between0_29 : decode cX12_between0 29 = .ok (.ireturn, 1) := by decide +kernel
def B_X12_between0_24   (V : sv_V) : Option (Int32 × sv_V) := some ((1 : Int32), V)
set_option maxRecDepth 20000 in
theorem tB_X12_between0_24 {g : sx_G} (hG : sx_Go g) {P : Option Value → sv_V → Prop} {r : Int32} {Vr : sv_V} (hP : P (some (.int r)) Vr)    {V : sv_V} (h : B_X12_between0_24   V = some (r, Vr)) : sv_N g qX12_between0 0 24 [] [] V P := by
  unfold B_X12_between0_24 at h
  refine sx_iconst (pc := 24) (v := 1) dX12_between0_24 (by decide) ?_
  refine sx_goto (pc := 25) (tgt := 29) dX12_between0_25 (by decide) ?_
  exact sv_zret (pc := 29) dX12_between0_29 rfl rfl h hP
def B_X12_between0_12  (l0 : Int64) (l2 : Int64) (V : sv_V) : Option (Int32 × sv_V) := if (lg_cmp l0 (0 : Int64)) < 0 then (some ((0 : Int32), V)) else (if 0 < (lg_cmp l2 (0 : Int64)) then (some ((0 : Int32), V)) else (B_X12_between0_24   V))
set_option maxRecDepth 20000 in
theorem tB_X12_between0_12 {g : sx_G} (hG : sx_Go g) {P : Option Value → sv_V → Prop} {r : Int32} {Vr : sv_V} (hP : P (some (.int r)) Vr)   {l0 : Int64} {l2 : Int64} {V : sv_V} (h : B_X12_between0_12  l0 l2 V = some (r, Vr)) : sv_N g qX12_between0 0 12 [(0, .long l0), (2, .long l2)] [] V P := by
  unfold B_X12_between0_12 at h
  refine sx_lload_n (pc := 12) dX12_between0_12 sx_m0 ?_
  refine sx_lconst (pc := 13) (v := 0) dX12_between0_13 rfl ?_
  refine sx_lcmp (pc := 14) dX12_between0_14 ?_
  refine sx_if_lt (pc := 15) (tgt := 28) dX12_between0_15 (by decide) (fun c1 => ?_) (fun c1 => ?_)
  · have h := sx_pos c1 h
    refine sx_iconst (pc := 28) (v := 0) dX12_between0_28 (by decide) ?_
    exact sv_zret (pc := 29) dX12_between0_29 rfl rfl h hP
  · have h := sx_neg c1 h
    refine sx_lload_n (pc := 18) dX12_between0_18 sx_m1 ?_
    refine sx_lconst (pc := 19) (v := 0) dX12_between0_19 rfl ?_
    refine sx_lcmp (pc := 20) dX12_between0_20 ?_
    refine sx_if_gt (pc := 21) (tgt := 28) dX12_between0_21 (by decide) (fun c2 => ?_) (fun c2 => ?_)
    · have h := sx_pos c2 h
      refine sx_iconst (pc := 28) (v := 0) dX12_between0_28 (by decide) ?_
      exact sv_zret (pc := 29) dX12_between0_29 rfl rfl h hP
    · have h := sx_neg c2 h
      refine sx_wk sx_s0 ?_
      exact tB_X12_between0_24 hG hP  h
def F_X12_between0 (l0 : Int64) (l2 : Int64) (V : sv_V) : Option (Int32 × sv_V) := if 0 < (lg_cmp l0 (0 : Int64)) then (B_X12_between0_12  l0 l2 V) else (if 0 ≤ (lg_cmp l2 (0 : Int64)) then (B_X12_between0_24   V) else (B_X12_between0_12  l0 l2 V))
set_option maxRecDepth 20000 in
theorem t_X12_between0 {g : sx_G} (hG : sx_Go g) {P : Option Value → sv_V → Prop} {r : Int32} {Vr : sv_V} (hP : P (some (.int r)) Vr) {l0 : Int64} {l2 : Int64} {V : sv_V} (h : F_X12_between0 l0 l2 V = some (r, Vr)) : sv_N g qX12_between0 0 0 [(0, .long l0), (2, .long l2)] [] V P := by
  unfold F_X12_between0 at h
  refine sx_lload_n (pc := 0) dX12_between0_0 sx_m0 ?_
  refine sx_lconst (pc := 1) (v := 0) dX12_between0_1 rfl ?_
  refine sx_lcmp (pc := 2) dX12_between0_2 ?_
  refine sx_if_gt (pc := 3) (tgt := 12) dX12_between0_3 (by decide) (fun c3 => ?_) (fun c3 => ?_)
  · have h := sx_pos c3 h
    refine sx_wk (sx_s1 sx_m0 (sx_s1 sx_m1 sx_s0)) ?_
    exact tB_X12_between0_12 hG hP  h
  · have h := sx_neg c3 h
    refine sx_lload_n (pc := 6) dX12_between0_6 sx_m1 ?_
    refine sx_lconst (pc := 7) (v := 0) dX12_between0_7 rfl ?_
    refine sx_lcmp (pc := 8) dX12_between0_8 ?_
    refine sx_if_ge (pc := 9) (tgt := 24) dX12_between0_9 (by decide) (fun c4 => ?_) (fun c4 => ?_)
    · have h := sx_pos c4 h
      refine sx_wk sx_s0 ?_
      exact tB_X12_between0_24 hG hP  h
    · have h := sx_neg c4 h
      refine sx_wk (sx_s1 sx_m0 (sx_s1 sx_m1 sx_s0)) ?_
      exact tB_X12_between0_12 hG hP  h
