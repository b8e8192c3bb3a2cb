section
/-! methods: X12_runProgram, X12_size, X12_hint, X12_makeGlyph -/
def ncX12_runProgram : Nat := 137150880620898273871343842989069640349925509144319825316623706199536759522025499151238678221173461137716258213522058063434320292662178697747536137085796215263980676064320684383157870735186528580582515146508511139386335964523855169437504615025151794197013007276757261274080431413776529773157130855254868564591493292301098
theorem kcX12_runProgram : CK cX12_runProgram ncX12_runProgram 133 := ⟨by decide +kernel, by decide +kernel⟩
theorem dX12_runProgram_0 : decode cX12_runProgram 0 = .ok (.aload_n 0, 1) := dl_o42 kcX12_runProgram (by decide +kernel)
theorem dX12_runProgram_1 : decode cX12_runProgram 1 = .ok (.iload_n 1, 1) := dl_o27 kcX12_runProgram (by decide +kernel)
theorem dX12_runProgram_2 : decode cX12_runProgram 2 = .ok (.putfield 493, 3) := dl_o181 kcX12_runProgram (by decide +kernel)
theorem dX12_runProgram_5 : decode cX12_runProgram 5 = .ok (.aload_n 0, 1) := dl_o42 kcX12_runProgram (by decide +kernel)
theorem dX12_runProgram_6 : decode cX12_runProgram 6 = .ok (.iload_n 1, 1) := dl_o27 kcX12_runProgram (by decide +kernel)
theorem dX12_runProgram_7 : decode cX12_runProgram 7 = .ok (.putfield 427, 3) := dl_o181 kcX12_runProgram (by decide +kernel)
theorem dX12_runProgram_10 : decode cX12_runProgram 10 = .ok (.aload_n 0, 1) := dl_o42 kcX12_runProgram (by decide +kernel)
theorem dX12_runProgram_11 : decode cX12_runProgram 11 = .ok (.iconst 0, 1) := dl_o3 kcX12_runProgram (by decide +kernel)
theorem dX12_runProgram_12 : decode cX12_runProgram 12 = .ok (.putfield 496, 3) := dl_o181 kcX12_runProgram (by decide +kernel)
theorem dX12_runProgram_15 : decode cX12_runProgram 15 = .ok (.aload_n 0, 1) := dl_o42 kcX12_runProgram (by decide +kernel)
theorem dX12_runProgram_16 : decode cX12_runProgram 16 = .ok (.iconst 0, 1) := dl_o3 kcX12_runProgram (by decide +kernel)
theorem dX12_runProgram_17 : decode cX12_runProgram 17 = .ok (.putfield 418, 3) := dl_o181 kcX12_runProgram (by decide +kernel)
theorem dX12_runProgram_20 : decode cX12_runProgram 20 = .ok (.aload_n 0, 1) := dl_o42 kcX12_runProgram (by decide +kernel)
theorem dX12_runProgram_21 : decode cX12_runProgram 21 = .ok (.iconst 0, 1) := dl_o3 kcX12_runProgram (by decide +kernel)
theorem dX12_runProgram_22 : decode cX12_runProgram 22 = .ok (.putfield 499, 3) := dl_o181 kcX12_runProgram (by decide +kernel)
theorem dX12_runProgram_25 : decode cX12_runProgram 25 = .ok (.aload_n 0, 1) := dl_o42 kcX12_runProgram (by decide +kernel)
theorem dX12_runProgram_26 : decode cX12_runProgram 26 = .ok (.iconst 0, 1) := dl_o3 kcX12_runProgram (by decide +kernel)
theorem dX12_runProgram_27 : decode cX12_runProgram 27 = .ok (.putfield 412, 3) := dl_o181 kcX12_runProgram (by decide +kernel)
theorem dX12_runProgram_30 : decode cX12_runProgram 30 = .ok (.aload_n 0, 1) := dl_o42 kcX12_runProgram (by decide +kernel)
theorem dX12_runProgram_31 : decode cX12_runProgram 31 = .ok (.invokevirtual 502, 3) := dl_o182 kcX12_runProgram (by decide +kernel)
theorem dX12_runProgram_34 : decode cX12_runProgram 34 = .ok (.aload_n 0, 1) := dl_o42 kcX12_runProgram (by decide +kernel)
theorem dX12_runProgram_35 : decode cX12_runProgram 35 = .ok (.getfield 409, 3) := dl_o180 kcX12_runProgram (by decide +kernel)
theorem dX12_runProgram_38 : decode cX12_runProgram 38 = .ok (.ifCond .ne 94, 3) := dl_o154 kcX12_runProgram 94 (by decide +kernel) (by decide +kernel)
theorem dX12_runProgram_41 : decode cX12_runProgram 41 = .ok (.aload_n 0, 1) := dl_o42 kcX12_runProgram (by decide +kernel)
theorem dX12_runProgram_42 : decode cX12_runProgram 42 = .ok (.getfield 496, 3) := dl_o180 kcX12_runProgram (by decide +kernel)
theorem dX12_runProgram_45 : decode cX12_runProgram 45 = .ok (.aload_n 0, 1) := dl_o42 kcX12_runProgram (by decide +kernel)
theorem dX12_runProgram_46 : decode cX12_runProgram 46 = .ok (.getfield 97, 3) := dl_o180 kcX12_runProgram (by decide +kernel)
theorem dX12_runProgram_49 : decode cX12_runProgram 49 = .ok (.aload_n 0, 1) := dl_o42 kcX12_runProgram (by decide +kernel)
theorem dX12_runProgram_50 : decode cX12_runProgram 50 = .ok (.getfield 427, 3) := dl_o180 kcX12_runProgram (by decide +kernel)
theorem dX12_runProgram_53 : decode cX12_runProgram 53 = .ok (.iaload, 1) := dl_o46 kcX12_runProgram (by decide +kernel)
theorem dX12_runProgram_54 : decode cX12_runProgram 54 = .ok (.if_icmp .lt 16, 3) := dl_o161 kcX12_runProgram 16 (by decide +kernel) (by decide +kernel)
theorem dX12_runProgram_57 : decode cX12_runProgram 57 = .ok (.aload_n 0, 1) := dl_o42 kcX12_runProgram (by decide +kernel)
theorem dX12_runProgram_58 : decode cX12_runProgram 58 = .ok (.getfield 499, 3) := dl_o180 kcX12_runProgram (by decide +kernel)
theorem dX12_runProgram_61 : decode cX12_runProgram 61 = .ok (.ifCond .le 8, 3) := dl_o158 kcX12_runProgram 8 (by decide +kernel) (by decide +kernel)
theorem dX12_runProgram_64 : decode cX12_runProgram 64 = .ok (.aload_n 0, 1) := dl_o42 kcX12_runProgram (by decide +kernel)
theorem dX12_runProgram_65 : decode cX12_runProgram 65 = .ok (.iconst 4, 1) := dl_o7 kcX12_runProgram (by decide +kernel)
theorem dX12_runProgram_66 : decode cX12_runProgram 66 = .ok (.invokevirtual 421, 3) := dl_o182 kcX12_runProgram (by decide +kernel)
theorem dX12_runProgram_69 : decode cX12_runProgram 69 = .ok (.return_, 1) := dl_o177 kcX12_runProgram (by decide +kernel)
theorem dX12_runProgram_70 : decode cX12_runProgram 70 = .ok (.aload_n 0, 1) := dl_o42 kcX12_runProgram (by decide +kernel)
theorem dX12_runProgram_71 : decode cX12_runProgram 71 = .ok (.aload_n 0, 1) := dl_o42 kcX12_runProgram (by decide +kernel)
theorem dX12_runProgram_72 : decode cX12_runProgram 72 = .ok (.getfield 496, 3) := dl_o180 kcX12_runProgram (by decide +kernel)
theorem dX12_runProgram_75 : decode cX12_runProgram 75 = .ok (.putfield 412, 3) := dl_o181 kcX12_runProgram (by decide +kernel)
theorem dX12_runProgram_78 : decode cX12_runProgram 78 = .ok (.aload_n 0, 1) := dl_o42 kcX12_runProgram (by decide +kernel)
theorem dX12_runProgram_79 : decode cX12_runProgram 79 = .ok (.getfield 505, 3) := dl_o180 kcX12_runProgram (by decide +kernel)
theorem dX12_runProgram_82 : decode cX12_runProgram 82 = .ok (.sipush 20000, 3) := dl_o17 kcX12_runProgram 20000 (by decide +kernel) (by decide +kernel)
theorem dX12_runProgram_85 : decode cX12_runProgram 85 = .ok (.if_icmp .ne 10, 3) := dl_o160 kcX12_runProgram 10 (by decide +kernel) (by decide +kernel)
theorem dX12_runProgram_88 : decode cX12_runProgram 88 = .ok (.aload_n 0, 1) := dl_o42 kcX12_runProgram (by decide +kernel)
theorem dX12_runProgram_89 : decode cX12_runProgram 89 = .ok (.bipush 10, 2) := dl_o16 kcX12_runProgram 10 (by decide +kernel) (by decide +kernel)
theorem dX12_runProgram_91 : decode cX12_runProgram 91 = .ok (.invokevirtual 421, 3) := dl_o182 kcX12_runProgram (by decide +kernel)
theorem dX12_runProgram_94 : decode cX12_runProgram 94 = .ok (.return_, 1) := dl_o177 kcX12_runProgram (by decide +kernel)
theorem dX12_runProgram_95 : decode cX12_runProgram 95 = .ok (.aload_n 0, 1) := dl_o42 kcX12_runProgram (by decide +kernel)
theorem dX12_runProgram_96 : decode cX12_runProgram 96 = .ok (.dup, 1) := dl_o89 kcX12_runProgram (by decide +kernel)
theorem dX12_runProgram_97 : decode cX12_runProgram 97 = .ok (.getfield 505, 3) := dl_o180 kcX12_runProgram (by decide +kernel)
theorem dX12_runProgram_100 : decode cX12_runProgram 100 = .ok (.iconst 1, 1) := dl_o4 kcX12_runProgram (by decide +kernel)
theorem dX12_runProgram_101 : decode cX12_runProgram 101 = .ok (.iadd, 1) := dl_o96 kcX12_runProgram (by decide +kernel)
theorem dX12_runProgram_102 : decode cX12_runProgram 102 = .ok (.putfield 505, 3) := dl_o181 kcX12_runProgram (by decide +kernel)
theorem dX12_runProgram_105 : decode cX12_runProgram 105 = .ok (.aload_n 0, 1) := dl_o42 kcX12_runProgram (by decide +kernel)
theorem dX12_runProgram_106 : decode cX12_runProgram 106 = .ok (.aload_n 0, 1) := dl_o42 kcX12_runProgram (by decide +kernel)
theorem dX12_runProgram_107 : decode cX12_runProgram 107 = .ok (.getfield 496, 3) := dl_o180 kcX12_runProgram (by decide +kernel)
theorem dX12_runProgram_110 : decode cX12_runProgram 110 = .ok (.invokevirtual 430, 3) := dl_o182 kcX12_runProgram (by decide +kernel)
theorem dX12_runProgram_113 : decode cX12_runProgram 113 = .ok (.istore_n 2, 1) := dl_o61 kcX12_runProgram (by decide +kernel)
theorem dX12_runProgram_114 : decode cX12_runProgram 114 = .ok (.aload_n 0, 1) := dl_o42 kcX12_runProgram (by decide +kernel)
theorem dX12_runProgram_115 : decode cX12_runProgram 115 = .ok (.dup, 1) := dl_o89 kcX12_runProgram (by decide +kernel)
theorem dX12_runProgram_116 : decode cX12_runProgram 116 = .ok (.getfield 496, 3) := dl_o180 kcX12_runProgram (by decide +kernel)
theorem dX12_runProgram_119 : decode cX12_runProgram 119 = .ok (.iconst 1, 1) := dl_o4 kcX12_runProgram (by decide +kernel)
theorem dX12_runProgram_120 : decode cX12_runProgram 120 = .ok (.iadd, 1) := dl_o96 kcX12_runProgram (by decide +kernel)
theorem dX12_runProgram_121 : decode cX12_runProgram 121 = .ok (.putfield 496, 3) := dl_o181 kcX12_runProgram (by decide +kernel)
theorem dX12_runProgram_124 : decode cX12_runProgram 124 = .ok (.aload_n 0, 1) := dl_o42 kcX12_runProgram (by decide +kernel)
theorem dX12_runProgram_125 : decode cX12_runProgram 125 = .ok (.iload_n 2, 1) := dl_o28 kcX12_runProgram (by decide +kernel)
theorem dX12_runProgram_126 : decode cX12_runProgram 126 = .ok (.invokevirtual 508, 3) := dl_o182 kcX12_runProgram (by decide +kernel)
theorem dX12_runProgram_129 : decode cX12_runProgram 129 = .ok (.goto (-95), 3) := dl_o167 kcX12_runProgram 65441 (by decide +kernel) (by decide +kernel)
theorem dX12_runProgram_132 : decode cX12_runProgram 132 = .ok (.return_, 1) := dl_o177 kcX12_runProgram (by decide +kernel)
def B_X12_runProgram_34 (N : Nat) (k34 : sv_V → Option sv_V)  (V : sv_V) : Option sv_V := if (V.1 146 59) = 0 then (if sx_in (V.1 146 92) 3 = true then if (V.1 146 93) < (V.1 175 (V.1 146 92).toNatClampNeg) then (sx_let (sv_I V 146 61 (V.1 146 93)) (fun V4 => if (V4.1 146 58) = (20000 : Int32) then ((F_X12_fail (10 : Int32) V4).bind (fun V13 => some V13)) else (sx_let (sv_I V4 146 58 ((V4.1 146 58) + (1 : Int32))) (fun V6 => (F_X12_codeByte (V6.1 146 93) V6).bind (fun (x9, V7) => sx_let (sv_I V7 146 93 ((V7.1 146 93) + (1 : Int32))) (fun V10 => (F_X12_perform N x9 V10).bind (fun V11 => k34  V11))))))) else (if (V.1 146 99) ≤ 0 then (some V) else ((F_X12_fail (4 : Int32) V).bind (fun V16 => some V16))) else none) else (some V)
set_option maxRecDepth 20000 in
theorem tB_X12_runProgram_34 {g : sx_G} (hG : sx_Go g) {P : Option Value → sv_V → Prop} {Vr : sv_V} (hP : P none Vr) {N : Nat} {k34 : sv_V → Option sv_V} (hk34 : ∀ (V : sv_V), k34  V = some Vr → sv_N g qX12_runProgram 9 34 [(0, .ref 146)] [] V P)  {V : sv_V} (h : B_X12_runProgram_34 N k34  V = some Vr) : sv_N g qX12_runProgram 9 34 [(0, .ref 146)] [] V P := by
  unfold B_X12_runProgram_34 at h
  refine sx_aload_n (pc := 34) dX12_runProgram_34 sx_m0 ?_
  refine sv_getI (pc := 35) hG dX12_runProgram_35 f_12_409 lay_146 rfl ?_
  refine sx_if_ne (pc := 38) (tgt := 132) dX12_runProgram_38 (by decide) (fun c1 => ?_) (fun c1 => ?_)
  · have h := sx_neg c1 h
    exact sv_vret (pc := 132) dX12_runProgram_132 rfl h hP
  · have h := sx_pos c1 h
    refine sx_aload_n (pc := 41) dX12_runProgram_41 sx_m0 ?_
    refine sv_getI (pc := 42) hG dX12_runProgram_42 f_12_496 lay_146 rfl ?_
    refine sx_aload_n (pc := 45) dX12_runProgram_45 sx_m0 ?_
    refine sv_getA (pc := 46) hG dX12_runProgram_46 f_12_97 lay_146 rfl cr_146_90 ?_
    refine sx_aload_n (pc := 49) dX12_runProgram_49 sx_m0 ?_
    refine sv_getI (pc := 50) hG dX12_runProgram_50 f_12_427 lay_146 rfl ?_
    obtain ⟨g2, h⟩ := sx_grd h
    refine sv_iald (pc := 53) hG dX12_runProgram_53 lay_175 g2 ?_
    refine sx_icmp_lt (pc := 54) (tgt := 70) dX12_runProgram_54 (by decide) (fun c3 => ?_) (fun c3 => ?_)
    · have h := sx_pos c3 h
      refine sx_aload_n (pc := 70) dX12_runProgram_70 sx_m0 ?_
      refine sx_aload_n (pc := 71) dX12_runProgram_71 sx_m0 ?_
      refine sv_getI (pc := 72) hG dX12_runProgram_72 f_12_496 lay_146 rfl ?_
      obtain ⟨V4, hV4⟩ : ∃ z : sv_V, z = sv_I V 146 61 (V.1 146 93) := ⟨_, rfl⟩
      have h := sx_letE hV4 h
      refine sv_putI (pc := 75) hG dX12_runProgram_75 f_12_412 lay_146 rfl hV4 ?_
      refine sx_aload_n (pc := 78) dX12_runProgram_78 sx_m0 ?_
      refine sv_getI (pc := 79) hG dX12_runProgram_79 f_12_505 lay_146 rfl ?_
      refine sx_sipush (pc := 82) (v := 20000) dX12_runProgram_82 (by decide) ?_
      refine sx_icmp_ne (pc := 85) (tgt := 95) dX12_runProgram_85 (by decide) (fun c5 => ?_) (fun c5 => ?_)
      · have h := sx_neg c5 h
        refine sx_aload_n (pc := 95) dX12_runProgram_95 sx_m0 ?_
        refine sx_dup (pc := 96) dX12_runProgram_96 rfl ?_
        refine sv_getI (pc := 97) hG dX12_runProgram_97 f_12_505 lay_146 rfl ?_
        refine sx_iconst (pc := 100) (v := 1) dX12_runProgram_100 (by decide) ?_
        refine sx_iadd (pc := 101) dX12_runProgram_101 ?_
        obtain ⟨V6, hV6⟩ : ∃ z : sv_V, z = sv_I V4 146 58 ((V4.1 146 58) + (1 : Int32)) := ⟨_, rfl⟩
        have h := sx_letE hV6 h
        refine sv_putI (pc := 102) hG dX12_runProgram_102 f_12_505 lay_146 rfl hV6 ?_
        refine sx_aload_n (pc := 105) dX12_runProgram_105 sx_m0 ?_
        refine sx_aload_n (pc := 106) dX12_runProgram_106 sx_m0 ?_
        refine sv_getI (pc := 107) hG dX12_runProgram_107 f_12_496 lay_146 rfl ?_
        obtain ⟨⟨x9, V7⟩, g8, h⟩ := sx_bnd h
        refine sv_cV (pc := 110) (y := qX12_codeByte) (o := (some (.int x9))) (as := [.int (V6.1 146 93)]) (V1 := V7) hG dX12_runProgram_110 l_X12_430 y0X12_codeByte yvX12_codeByte rfl (Nat.le_of_ble_eq_true rfl) lay_146 kr_12 (by decide) (Nat.le_of_ble_eq_true rfl) rfl rfl rfl (t_X12_codeByte hG ⟨rfl, rfl⟩ g8) ?_
        refine sx_istore_n (pc := 113) (lo' := [(2, .int x9), (0, .ref 146)]) dX12_runProgram_113 (by decide) rfl ?_
        refine sx_aload_n (pc := 114) dX12_runProgram_114 sx_m1 ?_
        refine sx_dup (pc := 115) dX12_runProgram_115 rfl ?_
        refine sv_getI (pc := 116) hG dX12_runProgram_116 f_12_496 lay_146 rfl ?_
        refine sx_iconst (pc := 119) (v := 1) dX12_runProgram_119 (by decide) ?_
        refine sx_iadd (pc := 120) dX12_runProgram_120 ?_
        obtain ⟨V10, hV10⟩ : ∃ z : sv_V, z = sv_I V7 146 93 ((V7.1 146 93) + (1 : Int32)) := ⟨_, rfl⟩
        have h := sx_letE hV10 h
        refine sv_putI (pc := 121) hG dX12_runProgram_121 f_12_496 lay_146 rfl hV10 ?_
        refine sx_aload_n (pc := 124) dX12_runProgram_124 sx_m1 ?_
        refine sx_iload_n (pc := 125) dX12_runProgram_125 sx_m0 ?_
        obtain ⟨V11, g12, h⟩ := sx_bnd h
        refine sv_cV (pc := 126) (y := qX12_perform) (o := none) (as := [.int x9]) (V1 := V11) hG dX12_runProgram_126 l_X12_508 y0X12_perform yvX12_perform rfl (Nat.le_of_ble_eq_true rfl) lay_146 kr_12 (by decide) (Nat.le_of_ble_eq_true rfl) rfl rfl rfl (t_X12_perform hG ⟨rfl, rfl⟩ g12) ?_
        refine sx_goto (pc := 129) (tgt := 34) dX12_runProgram_129 (by decide) ?_
        refine sx_wk (sx_s1 sx_m1 sx_s0) ?_
        exact hk34  _ h
      · have h := sx_pos c5 h
        refine sx_aload_n (pc := 88) dX12_runProgram_88 sx_m0 ?_
        refine sx_bipush (pc := 89) (v := 10) dX12_runProgram_89 (by decide) ?_
        obtain ⟨V13, g14, h⟩ := sx_bnd h
        refine sv_cV (pc := 91) (y := qX12_fail) (o := none) (as := [.int (10 : Int32)]) (V1 := V13) hG dX12_runProgram_91 l_X12_421 y0X12_fail yvX12_fail rfl (Nat.le_of_ble_eq_true rfl) lay_146 kr_12 (by decide) (Nat.le_of_ble_eq_true rfl) rfl rfl rfl (t_X12_fail hG ⟨rfl, rfl⟩ g14) ?_
        exact sv_vret (pc := 94) dX12_runProgram_94 rfl h hP
    · have h := sx_neg c3 h
      refine sx_aload_n (pc := 57) dX12_runProgram_57 sx_m0 ?_
      refine sv_getI (pc := 58) hG dX12_runProgram_58 f_12_499 lay_146 rfl ?_
      refine sx_if_le (pc := 61) (tgt := 69) dX12_runProgram_61 (by decide) (fun c15 => ?_) (fun c15 => ?_)
      · have h := sx_pos c15 h
        exact sv_vret (pc := 69) dX12_runProgram_69 rfl h hP
      · have h := sx_neg c15 h
        refine sx_aload_n (pc := 64) dX12_runProgram_64 sx_m0 ?_
        refine sx_iconst (pc := 65) (v := 4) dX12_runProgram_65 (by decide) ?_
        obtain ⟨V16, g17, h⟩ := sx_bnd h
        refine sv_cV (pc := 66) (y := qX12_fail) (o := none) (as := [.int (4 : Int32)]) (V1 := V16) hG dX12_runProgram_66 l_X12_421 y0X12_fail yvX12_fail rfl (Nat.le_of_ble_eq_true rfl) lay_146 kr_12 (by decide) (Nat.le_of_ble_eq_true rfl) rfl rfl rfl (t_X12_fail hG ⟨rfl, rfl⟩ g17) ?_
        exact sv_vret (pc := 69) dX12_runProgram_69 rfl h hP
theorem tL_X12_runProgram_34 {g : sx_G} (hG : sx_Go g) {P : Option Value → sv_V → Prop} {Vr : sv_V} (hP : P none Vr) {N : Nat}   : ∀ (n : Nat) (V : sv_V), sx_lp1 (B_X12_runProgram_34 N ) n  V = some Vr → sv_N g qX12_runProgram 9 34 [(0, .ref 146)] [] V P :=
  sx_lp1_ind (fun k0 ih  V h => tB_X12_runProgram_34 hG hP ih h)
def F_X12_runProgram (N : Nat) (l1 : Int32) (V : sv_V) : Option sv_V := sx_let (sv_I V 146 91 l1) (fun V18 => sx_let (sv_I V18 146 92 l1) (fun V19 => sx_let (sv_I V19 146 93 (0 : Int32)) (fun V20 => sx_let (sv_I V20 146 56 (0 : Int32)) (fun V21 => sx_let (sv_I V21 146 99 (0 : Int32)) (fun V22 => sx_let (sv_I V22 146 61 (0 : Int32)) (fun V23 => (F_X12_settings  V23).bind (fun V24 => sx_lp1 (B_X12_runProgram_34 N ) N  V24)))))))
set_option maxRecDepth 20000 in
theorem t_X12_runProgram {g : sx_G} (hG : sx_Go g) {P : Option Value → sv_V → Prop} {Vr : sv_V} (hP : P none Vr) {N : Nat} {l1 : Int32} {V : sv_V} (h : F_X12_runProgram N l1 V = some Vr) : sv_N g qX12_runProgram 9 0 [(0, .ref 146), (1, .int l1)] [] V P := by
  unfold F_X12_runProgram at h
  refine sx_aload_n (pc := 0) dX12_runProgram_0 sx_m0 ?_
  refine sx_iload_n (pc := 1) dX12_runProgram_1 sx_m1 ?_
  obtain ⟨V18, hV18⟩ : ∃ z : sv_V, z = sv_I V 146 91 l1 := ⟨_, rfl⟩
  have h := sx_letE hV18 h
  refine sv_putI (pc := 2) hG dX12_runProgram_2 f_12_493 lay_146 rfl hV18 ?_
  refine sx_aload_n (pc := 5) dX12_runProgram_5 sx_m0 ?_
  refine sx_iload_n (pc := 6) dX12_runProgram_6 sx_m1 ?_
  obtain ⟨V19, hV19⟩ : ∃ z : sv_V, z = sv_I V18 146 92 l1 := ⟨_, rfl⟩
  have h := sx_letE hV19 h
  refine sv_putI (pc := 7) hG dX12_runProgram_7 f_12_427 lay_146 rfl hV19 ?_
  refine sx_aload_n (pc := 10) dX12_runProgram_10 sx_m0 ?_
  refine sx_iconst (pc := 11) (v := 0) dX12_runProgram_11 (by decide) ?_
  obtain ⟨V20, hV20⟩ : ∃ z : sv_V, z = sv_I V19 146 93 (0 : Int32) := ⟨_, rfl⟩
  have h := sx_letE hV20 h
  refine sv_putI (pc := 12) hG dX12_runProgram_12 f_12_496 lay_146 rfl hV20 ?_
  refine sx_aload_n (pc := 15) dX12_runProgram_15 sx_m0 ?_
  refine sx_iconst (pc := 16) (v := 0) dX12_runProgram_16 (by decide) ?_
  obtain ⟨V21, hV21⟩ : ∃ z : sv_V, z = sv_I V20 146 56 (0 : Int32) := ⟨_, rfl⟩
  have h := sx_letE hV21 h
  refine sv_putI (pc := 17) hG dX12_runProgram_17 f_12_418 lay_146 rfl hV21 ?_
  refine sx_aload_n (pc := 20) dX12_runProgram_20 sx_m0 ?_
  refine sx_iconst (pc := 21) (v := 0) dX12_runProgram_21 (by decide) ?_
  obtain ⟨V22, hV22⟩ : ∃ z : sv_V, z = sv_I V21 146 99 (0 : Int32) := ⟨_, rfl⟩
  have h := sx_letE hV22 h
  refine sv_putI (pc := 22) hG dX12_runProgram_22 f_12_499 lay_146 rfl hV22 ?_
  refine sx_aload_n (pc := 25) dX12_runProgram_25 sx_m0 ?_
  refine sx_iconst (pc := 26) (v := 0) dX12_runProgram_26 (by decide) ?_
  obtain ⟨V23, hV23⟩ : ∃ z : sv_V, z = sv_I V22 146 61 (0 : Int32) := ⟨_, rfl⟩
  have h := sx_letE hV23 h
  refine sv_putI (pc := 27) hG dX12_runProgram_27 f_12_412 lay_146 rfl hV23 ?_
  refine sx_aload_n (pc := 30) dX12_runProgram_30 sx_m0 ?_
  obtain ⟨V24, g25, h⟩ := sx_bnd h
  refine sv_cV (pc := 31) (y := qX12_settings) (o := none) (as := []) (V1 := V24) hG dX12_runProgram_31 l_X12_502 y0X12_settings yvX12_settings rfl (Nat.le_of_ble_eq_true rfl) lay_146 kr_12 (by decide) (Nat.le_of_ble_eq_true rfl) rfl rfl rfl (t_X12_settings hG ⟨rfl, rfl⟩ g25) ?_
  refine sx_wk (sx_s1 sx_m0 sx_s0) ?_
  exact tL_X12_runProgram_34 hG hP  N  _ h
def ncX12_size : Nat := 40983118099834033422895727121880744741706846162152412712968930087881887323249247884405073442577661583330775050014478720482206357421881425379473157308528998906019404119535852687444872164562963975825522302267640712858424138619400078489626602517979822347938290505457752985947623156830974750865339106666891445820770548059931288624616117711656938293752946360200301205828834500604044515077754522156528059254216319707512066304603375208353847944188179549383468776480358304987579073537553492562333694792981937693573077544674366177873965185320028936610090206329016870785716896129899413285674579129897908727269154199927039264713627932519598134122944669972032752520283898824675203308843961456204518979486320696333078031329756347694279089994487870586246535845677070920661788973055719316881003459964231588938938775098749542339439283217234711573524917639276228773434020701396633777255466
theorem kcX12_size : CK cX12_size ncX12_size 362 := ⟨by decide +kernel, by decide +kernel⟩
theorem dX12_size_0 : decode cX12_size 0 = .ok (.aload_n 0, 1) := dl_o42 kcX12_size (by decide +kernel)
theorem dX12_size_1 : decode cX12_size 1 = .ok (.getfield 759, 3) := dl_o180 kcX12_size (by decide +kernel)
theorem dX12_size_4 : decode cX12_size 4 = .ok (.ifCond .ne 6, 3) := dl_o154 kcX12_size 6 (by decide +kernel) (by decide +kernel)
theorem dX12_size_7 : decode cX12_size 7 = .ok (.bipush (-3), 2) := dl_o16 kcX12_size 253 (by decide +kernel) (by decide +kernel)
theorem dX12_size_9 : decode cX12_size 9 = .ok (.ireturn, 1) := dl_o172 kcX12_size (by decide +kernel)
theorem dX12_size_10 : decode cX12_size 10 = .ok (.iload_n 1, 1) := dl_o27 kcX12_size (by decide +kernel)
theorem dX12_size_11 : decode cX12_size 11 = .ok (.i2l, 1) := dl_o133 kcX12_size (by decide +kernel)
theorem dX12_size_12 : decode cX12_size 12 = .ok (.ldc2_w 228, 3) := dl_o20 kcX12_size (by decide +kernel)
theorem dX12_size_15 : decode cX12_size 15 = .ok (.ldc2_w 762, 3) := dl_o20 kcX12_size (by decide +kernel)
theorem dX12_size_18 : decode cX12_size 18 = .ok (.invokestatic 263, 3) := dl_o184 kcX12_size (by decide +kernel)
theorem dX12_size_21 : decode cX12_size 21 = .ok (.ifCond .ne 6, 3) := dl_o154 kcX12_size 6 (by decide +kernel) (by decide +kernel)
theorem dX12_size_24 : decode cX12_size 24 = .ok (.bipush (-2), 2) := dl_o16 kcX12_size 254 (by decide +kernel) (by decide +kernel)
theorem dX12_size_26 : decode cX12_size 26 = .ok (.ireturn, 1) := dl_o172 kcX12_size (by decide +kernel)
theorem dX12_size_27 : decode cX12_size 27 = .ok (.aload_n 0, 1) := dl_o42 kcX12_size (by decide +kernel)
theorem dX12_size_28 : decode cX12_size 28 = .ok (.iload_n 1, 1) := dl_o27 kcX12_size (by decide +kernel)
theorem dX12_size_29 : decode cX12_size 29 = .ok (.putfield 621, 3) := dl_o181 kcX12_size (by decide +kernel)
theorem dX12_size_32 : decode cX12_size 32 = .ok (.aload_n 0, 1) := dl_o42 kcX12_size (by decide +kernel)
theorem dX12_size_33 : decode cX12_size 33 = .ok (.iconst 0, 1) := dl_o3 kcX12_size (by decide +kernel)
theorem dX12_size_34 : decode cX12_size 34 = .ok (.putfield 764, 3) := dl_o181 kcX12_size (by decide +kernel)
theorem dX12_size_37 : decode cX12_size 37 = .ok (.aload_n 0, 1) := dl_o42 kcX12_size (by decide +kernel)
theorem dX12_size_38 : decode cX12_size 38 = .ok (.iconst 0, 1) := dl_o3 kcX12_size (by decide +kernel)
theorem dX12_size_39 : decode cX12_size 39 = .ok (.putfield 767, 3) := dl_o181 kcX12_size (by decide +kernel)
theorem dX12_size_42 : decode cX12_size 42 = .ok (.aload_n 0, 1) := dl_o42 kcX12_size (by decide +kernel)
theorem dX12_size_43 : decode cX12_size 43 = .ok (.iconst 0, 1) := dl_o3 kcX12_size (by decide +kernel)
theorem dX12_size_44 : decode cX12_size 44 = .ok (.putfield 409, 3) := dl_o181 kcX12_size (by decide +kernel)
theorem dX12_size_47 : decode cX12_size 47 = .ok (.aload_n 0, 1) := dl_o42 kcX12_size (by decide +kernel)
theorem dX12_size_48 : decode cX12_size 48 = .ok (.iconst 0, 1) := dl_o3 kcX12_size (by decide +kernel)
theorem dX12_size_49 : decode cX12_size 49 = .ok (.putfield 505, 3) := dl_o181 kcX12_size (by decide +kernel)
theorem dX12_size_52 : decode cX12_size 52 = .ok (.aload_n 0, 1) := dl_o42 kcX12_size (by decide +kernel)
theorem dX12_size_53 : decode cX12_size 53 = .ok (.iconst 0, 1) := dl_o3 kcX12_size (by decide +kernel)
theorem dX12_size_54 : decode cX12_size 54 = .ok (.putfield 514, 3) := dl_o181 kcX12_size (by decide +kernel)
theorem dX12_size_57 : decode cX12_size 57 = .ok (.aload_n 0, 1) := dl_o42 kcX12_size (by decide +kernel)
theorem dX12_size_58 : decode cX12_size 58 = .ok (.iconst 0, 1) := dl_o3 kcX12_size (by decide +kernel)
theorem dX12_size_59 : decode cX12_size 59 = .ok (.putfield 706, 3) := dl_o181 kcX12_size (by decide +kernel)
theorem dX12_size_62 : decode cX12_size 62 = .ok (.aload_n 0, 1) := dl_o42 kcX12_size (by decide +kernel)
theorem dX12_size_63 : decode cX12_size 63 = .ok (.iconst 0, 1) := dl_o3 kcX12_size (by decide +kernel)
theorem dX12_size_64 : decode cX12_size 64 = .ok (.putfield 655, 3) := dl_o181 kcX12_size (by decide +kernel)
theorem dX12_size_67 : decode cX12_size 67 = .ok (.iconst 0, 1) := dl_o3 kcX12_size (by decide +kernel)
theorem dX12_size_68 : decode cX12_size 68 = .ok (.istore_n 2, 1) := dl_o61 kcX12_size (by decide +kernel)
theorem dX12_size_69 : decode cX12_size 69 = .ok (.iload_n 2, 1) := dl_o28 kcX12_size (by decide +kernel)
theorem dX12_size_70 : decode cX12_size 70 = .ok (.bipush 64, 2) := dl_o16 kcX12_size 64 (by decide +kernel) (by decide +kernel)
theorem dX12_size_72 : decode cX12_size 72 = .ok (.if_icmp .ge 37, 3) := dl_o162 kcX12_size 37 (by decide +kernel) (by decide +kernel)
theorem dX12_size_75 : decode cX12_size 75 = .ok (.aload_n 0, 1) := dl_o42 kcX12_size (by decide +kernel)
theorem dX12_size_76 : decode cX12_size 76 = .ok (.getfield 100, 3) := dl_o180 kcX12_size (by decide +kernel)
theorem dX12_size_79 : decode cX12_size 79 = .ok (.iload_n 2, 1) := dl_o28 kcX12_size (by decide +kernel)
theorem dX12_size_80 : decode cX12_size 80 = .ok (.iconst (-1), 1) := dl_o2 kcX12_size (by decide +kernel)
theorem dX12_size_81 : decode cX12_size 81 = .ok (.iastore, 1) := dl_o79 kcX12_size (by decide +kernel)
theorem dX12_size_82 : decode cX12_size 82 = .ok (.aload_n 0, 1) := dl_o42 kcX12_size (by decide +kernel)
theorem dX12_size_83 : decode cX12_size 83 = .ok (.getfield 67, 3) := dl_o180 kcX12_size (by decide +kernel)
theorem dX12_size_86 : decode cX12_size 86 = .ok (.iload_n 2, 1) := dl_o28 kcX12_size (by decide +kernel)
theorem dX12_size_87 : decode cX12_size 87 = .ok (.iconst 0, 1) := dl_o3 kcX12_size (by decide +kernel)
theorem dX12_size_88 : decode cX12_size 88 = .ok (.iastore, 1) := dl_o79 kcX12_size (by decide +kernel)
theorem dX12_size_89 : decode cX12_size 89 = .ok (.aload_n 0, 1) := dl_o42 kcX12_size (by decide +kernel)
theorem dX12_size_90 : decode cX12_size 90 = .ok (.iload_n 2, 1) := dl_o28 kcX12_size (by decide +kernel)
theorem dX12_size_91 : decode cX12_size 91 = .ok (.lconst 0, 1) := dl_o9 kcX12_size (by decide +kernel)
theorem dX12_size_92 : decode cX12_size 92 = .ok (.lconst 0, 1) := dl_o9 kcX12_size (by decide +kernel)
theorem dX12_size_93 : decode cX12_size 93 = .ok (.invokevirtual 716, 3) := dl_o182 kcX12_size (by decide +kernel)
theorem dX12_size_96 : decode cX12_size 96 = .ok (.aload_n 0, 1) := dl_o42 kcX12_size (by decide +kernel)
theorem dX12_size_97 : decode cX12_size 97 = .ok (.getfield 82, 3) := dl_o180 kcX12_size (by decide +kernel)
theorem dX12_size_100 : decode cX12_size 100 = .ok (.iload_n 2, 1) := dl_o28 kcX12_size (by decide +kernel)
theorem dX12_size_101 : decode cX12_size 101 = .ok (.iconst 0, 1) := dl_o3 kcX12_size (by decide +kernel)
theorem dX12_size_102 : decode cX12_size 102 = .ok (.iastore, 1) := dl_o79 kcX12_size (by decide +kernel)
theorem dX12_size_103 : decode cX12_size 103 = .ok (.iinc 2 1, 3) := by decide +kernel
theorem dX12_size_106 : decode cX12_size 106 = .ok (.goto (-37), 3) := dl_o167 kcX12_size 65499 (by decide +kernel) (by decide +kernel)
theorem dX12_size_109 : decode cX12_size 109 = .ok (.iconst 0, 1) := dl_o3 kcX12_size (by decide +kernel)
theorem dX12_size_110 : decode cX12_size 110 = .ok (.istore_n 2, 1) := dl_o61 kcX12_size (by decide +kernel)
theorem dX12_size_111 : decode cX12_size 111 = .ok (.iload_n 2, 1) := dl_o28 kcX12_size (by decide +kernel)
theorem dX12_size_112 : decode cX12_size 112 = .ok (.sipush 256, 3) := dl_o17 kcX12_size 256 (by decide +kernel) (by decide +kernel)
theorem dX12_size_115 : decode cX12_size 115 = .ok (.if_icmp .ge 54, 3) := dl_o162 kcX12_size 54 (by decide +kernel) (by decide +kernel)
theorem dX12_size_118 : decode cX12_size 118 = .ok (.aload_n 0, 1) := dl_o42 kcX12_size (by decide +kernel)
theorem dX12_size_119 : decode cX12_size 119 = .ok (.getfield 106, 3) := dl_o180 kcX12_size (by decide +kernel)
theorem dX12_size_122 : decode cX12_size 122 = .ok (.iload_n 2, 1) := dl_o28 kcX12_size (by decide +kernel)
theorem dX12_size_123 : decode cX12_size 123 = .ok (.iconst (-1), 1) := dl_o2 kcX12_size (by decide +kernel)
theorem dX12_size_124 : decode cX12_size 124 = .ok (.iastore, 1) := dl_o79 kcX12_size (by decide +kernel)
theorem dX12_size_125 : decode cX12_size 125 = .ok (.aload_n 0, 1) := dl_o42 kcX12_size (by decide +kernel)
theorem dX12_size_126 : decode cX12_size 126 = .ok (.getfield 64, 3) := dl_o180 kcX12_size (by decide +kernel)
theorem dX12_size_129 : decode cX12_size 129 = .ok (.iload_n 2, 1) := dl_o28 kcX12_size (by decide +kernel)
theorem dX12_size_130 : decode cX12_size 130 = .ok (.iload_n 2, 1) := dl_o28 kcX12_size (by decide +kernel)
theorem dX12_size_131 : decode cX12_size 131 = .ok (.aload_n 0, 1) := dl_o42 kcX12_size (by decide +kernel)
theorem dX12_size_132 : decode cX12_size 132 = .ok (.getfield 294, 3) := dl_o180 kcX12_size (by decide +kernel)
theorem dX12_size_135 : decode cX12_size 135 = .ok (.if_icmp .ge 26, 3) := dl_o162 kcX12_size 26 (by decide +kernel) (by decide +kernel)
theorem dX12_size_138 : decode cX12_size 138 = .ok (.aload_n 0, 1) := dl_o42 kcX12_size (by decide +kernel)
theorem dX12_size_139 : decode cX12_size 139 = .ok (.aload_n 0, 1) := dl_o42 kcX12_size (by decide +kernel)
theorem dX12_size_140 : decode cX12_size 140 = .ok (.aload_n 0, 1) := dl_o42 kcX12_size (by decide +kernel)
theorem dX12_size_141 : decode cX12_size 141 = .ok (.ldc_w 291, 3) := dl_o19 kcX12_size (by decide +kernel)
theorem dX12_size_144 : decode cX12_size 144 = .ok (.invokevirtual 251, 3) := dl_o182 kcX12_size (by decide +kernel)
theorem dX12_size_147 : decode cX12_size 147 = .ok (.iconst 2, 1) := dl_o5 kcX12_size (by decide +kernel)
theorem dX12_size_148 : decode cX12_size 148 = .ok (.iload_n 2, 1) := dl_o28 kcX12_size (by decide +kernel)
theorem dX12_size_149 : decode cX12_size 149 = .ok (.imul, 1) := dl_o104 kcX12_size (by decide +kernel)
theorem dX12_size_150 : decode cX12_size 150 = .ok (.iadd, 1) := dl_o96 kcX12_size (by decide +kernel)
theorem dX12_size_151 : decode cX12_size 151 = .ok (.invokevirtual 305, 3) := dl_o182 kcX12_size (by decide +kernel)
theorem dX12_size_154 : decode cX12_size 154 = .ok (.i2l, 1) := dl_o133 kcX12_size (by decide +kernel)
theorem dX12_size_155 : decode cX12_size 155 = .ok (.invokevirtual 611, 3) := dl_o182 kcX12_size (by decide +kernel)
theorem dX12_size_158 : decode cX12_size 158 = .ok (.goto 4, 3) := dl_o167 kcX12_size 4 (by decide +kernel) (by decide +kernel)
theorem dX12_size_161 : decode cX12_size 161 = .ok (.iconst 0, 1) := dl_o3 kcX12_size (by decide +kernel)
theorem dX12_size_162 : decode cX12_size 162 = .ok (.iastore, 1) := dl_o79 kcX12_size (by decide +kernel)
theorem dX12_size_163 : decode cX12_size 163 = .ok (.iinc 2 1, 3) := by decide +kernel
theorem dX12_size_166 : decode cX12_size 166 = .ok (.goto (-55), 3) := dl_o167 kcX12_size 65481 (by decide +kernel) (by decide +kernel)
theorem dX12_size_169 : decode cX12_size 169 = .ok (.aload_n 0, 1) := dl_o42 kcX12_size (by decide +kernel)
theorem dX12_size_170 : decode cX12_size 170 = .ok (.bipush 68, 2) := dl_o16 kcX12_size 68 (by decide +kernel) (by decide +kernel)
theorem dX12_size_172 : decode cX12_size 172 = .ok (.putfield 605, 3) := dl_o181 kcX12_size (by decide +kernel)
theorem dX12_size_175 : decode cX12_size 175 = .ok (.aload_n 0, 1) := dl_o42 kcX12_size (by decide +kernel)
theorem dX12_size_176 : decode cX12_size 176 = .ok (.iconst 0, 1) := dl_o3 kcX12_size (by decide +kernel)
theorem dX12_size_177 : decode cX12_size 177 = .ok (.putfield 615, 3) := dl_o181 kcX12_size (by decide +kernel)
theorem dX12_size_180 : decode cX12_size 180 = .ok (.aload_n 0, 1) := dl_o42 kcX12_size (by decide +kernel)
theorem dX12_size_181 : decode cX12_size 181 = .ok (.iconst 0, 1) := dl_o3 kcX12_size (by decide +kernel)
theorem dX12_size_182 : decode cX12_size 182 = .ok (.putfield 608, 3) := dl_o181 kcX12_size (by decide +kernel)
theorem dX12_size_185 : decode cX12_size 185 = .ok (.aload_n 0, 1) := dl_o42 kcX12_size (by decide +kernel)
theorem dX12_size_186 : decode cX12_size 186 = .ok (.bipush 64, 2) := dl_o16 kcX12_size 64 (by decide +kernel) (by decide +kernel)
theorem dX12_size_188 : decode cX12_size 188 = .ok (.putfield 595, 3) := dl_o181 kcX12_size (by decide +kernel)
theorem dX12_size_191 : decode cX12_size 191 = .ok (.aload_n 0, 1) := dl_o42 kcX12_size (by decide +kernel)
theorem dX12_size_192 : decode cX12_size 192 = .ok (.iconst 1, 1) := dl_o4 kcX12_size (by decide +kernel)
theorem dX12_size_193 : decode cX12_size 193 = .ok (.putfield 683, 3) := dl_o181 kcX12_size (by decide +kernel)
theorem dX12_size_196 : decode cX12_size 196 = .ok (.aload_n 0, 1) := dl_o42 kcX12_size (by decide +kernel)
theorem dX12_size_197 : decode cX12_size 197 = .ok (.bipush 9, 2) := dl_o16 kcX12_size 9 (by decide +kernel) (by decide +kernel)
theorem dX12_size_199 : decode cX12_size 199 = .ok (.putfield 700, 3) := dl_o181 kcX12_size (by decide +kernel)
theorem dX12_size_202 : decode cX12_size 202 = .ok (.aload_n 0, 1) := dl_o42 kcX12_size (by decide +kernel)
theorem dX12_size_203 : decode cX12_size 203 = .ok (.iconst 3, 1) := dl_o6 kcX12_size (by decide +kernel)
theorem dX12_size_204 : decode cX12_size 204 = .ok (.putfield 703, 3) := dl_o181 kcX12_size (by decide +kernel)
theorem dX12_size_207 : decode cX12_size 207 = .ok (.aload_n 0, 1) := dl_o42 kcX12_size (by decide +kernel)
theorem dX12_size_208 : decode cX12_size 208 = .ok (.iconst 0, 1) := dl_o3 kcX12_size (by decide +kernel)
theorem dX12_size_209 : decode cX12_size 209 = .ok (.putfield 739, 3) := dl_o181 kcX12_size (by decide +kernel)
theorem dX12_size_212 : decode cX12_size 212 = .ok (.aload_n 0, 1) := dl_o42 kcX12_size (by decide +kernel)
theorem dX12_size_213 : decode cX12_size 213 = .ok (.iconst 0, 1) := dl_o3 kcX12_size (by decide +kernel)
theorem dX12_size_214 : decode cX12_size 214 = .ok (.putfield 747, 3) := dl_o181 kcX12_size (by decide +kernel)
theorem dX12_size_217 : decode cX12_size 217 = .ok (.iconst 0, 1) := dl_o3 kcX12_size (by decide +kernel)
theorem dX12_size_218 : decode cX12_size 218 = .ok (.istore_n 2, 1) := dl_o61 kcX12_size (by decide +kernel)
theorem dX12_size_219 : decode cX12_size 219 = .ok (.iload_n 2, 1) := dl_o28 kcX12_size (by decide +kernel)
theorem dX12_size_220 : decode cX12_size 220 = .ok (.iconst 2, 1) := dl_o5 kcX12_size (by decide +kernel)
theorem dX12_size_221 : decode cX12_size 221 = .ok (.if_icmp .ge 66, 3) := dl_o162 kcX12_size 66 (by decide +kernel) (by decide +kernel)
theorem dX12_size_224 : decode cX12_size 224 = .ok (.aload_n 0, 1) := dl_o42 kcX12_size (by decide +kernel)
theorem dX12_size_225 : decode cX12_size 225 = .ok (.getfield 409, 3) := dl_o180 kcX12_size (by decide +kernel)
theorem dX12_size_228 : decode cX12_size 228 = .ok (.ifCond .ne 59, 3) := dl_o154 kcX12_size 59 (by decide +kernel) (by decide +kernel)
theorem dX12_size_231 : decode cX12_size 231 = .ok (.iload_n 2, 1) := dl_o28 kcX12_size (by decide +kernel)
theorem dX12_size_232 : decode cX12_size 232 = .ok (.ifCond .ne 9, 3) := dl_o154 kcX12_size 9 (by decide +kernel) (by decide +kernel)
theorem dX12_size_235 : decode cX12_size 235 = .ok (.ldc_w 292, 3) := dl_o19 kcX12_size (by decide +kernel)
theorem dX12_size_238 : decode cX12_size 238 = .ok (.goto 6, 3) := dl_o167 kcX12_size 6 (by decide +kernel) (by decide +kernel)
theorem dX12_size_241 : decode cX12_size 241 = .ok (.ldc_w 293, 3) := dl_o19 kcX12_size (by decide +kernel)
theorem dX12_size_244 : decode cX12_size 244 = .ok (.istore_n 3, 1) := dl_o62 kcX12_size (by decide +kernel)
theorem dX12_size_245 : decode cX12_size 245 = .ok (.aload_n 0, 1) := dl_o42 kcX12_size (by decide +kernel)
theorem dX12_size_246 : decode cX12_size 246 = .ok (.getfield 94, 3) := dl_o180 kcX12_size (by decide +kernel)
theorem dX12_size_249 : decode cX12_size 249 = .ok (.iload_n 2, 1) := dl_o28 kcX12_size (by decide +kernel)
theorem dX12_size_250 : decode cX12_size 250 = .ok (.aload_n 0, 1) := dl_o42 kcX12_size (by decide +kernel)
theorem dX12_size_251 : decode cX12_size 251 = .ok (.iload_n 3, 1) := dl_o29 kcX12_size (by decide +kernel)
theorem dX12_size_252 : decode cX12_size 252 = .ok (.invokevirtual 251, 3) := dl_o182 kcX12_size (by decide +kernel)
theorem dX12_size_255 : decode cX12_size 255 = .ok (.iastore, 1) := dl_o79 kcX12_size (by decide +kernel)
theorem dX12_size_256 : decode cX12_size 256 = .ok (.aload_n 0, 1) := dl_o42 kcX12_size (by decide +kernel)
theorem dX12_size_257 : decode cX12_size 257 = .ok (.getfield 97, 3) := dl_o180 kcX12_size (by decide +kernel)
theorem dX12_size_260 : decode cX12_size 260 = .ok (.iload_n 2, 1) := dl_o28 kcX12_size (by decide +kernel)
theorem dX12_size_261 : decode cX12_size 261 = .ok (.aload_n 0, 1) := dl_o42 kcX12_size (by decide +kernel)
theorem dX12_size_262 : decode cX12_size 262 = .ok (.iload_n 3, 1) := dl_o29 kcX12_size (by decide +kernel)
theorem dX12_size_263 : decode cX12_size 263 = .ok (.invokevirtual 257, 3) := dl_o182 kcX12_size (by decide +kernel)
theorem dX12_size_266 : decode cX12_size 266 = .ok (.iastore, 1) := dl_o79 kcX12_size (by decide +kernel)
theorem dX12_size_267 : decode cX12_size 267 = .ok (.aload_n 0, 1) := dl_o42 kcX12_size (by decide +kernel)
theorem dX12_size_268 : decode cX12_size 268 = .ok (.iload_n 3, 1) := dl_o29 kcX12_size (by decide +kernel)
theorem dX12_size_269 : decode cX12_size 269 = .ok (.invokevirtual 219, 3) := dl_o182 kcX12_size (by decide +kernel)
theorem dX12_size_272 : decode cX12_size 272 = .ok (.iconst (-1), 1) := dl_o2 kcX12_size (by decide +kernel)
theorem dX12_size_273 : decode cX12_size 273 = .ok (.if_icmp .eq 8, 3) := dl_o159 kcX12_size 8 (by decide +kernel) (by decide +kernel)
theorem dX12_size_276 : decode cX12_size 276 = .ok (.aload_n 0, 1) := dl_o42 kcX12_size (by decide +kernel)
theorem dX12_size_277 : decode cX12_size 277 = .ok (.iload_n 2, 1) := dl_o28 kcX12_size (by decide +kernel)
theorem dX12_size_278 : decode cX12_size 278 = .ok (.invokevirtual 770, 3) := dl_o182 kcX12_size (by decide +kernel)
theorem dX12_size_281 : decode cX12_size 281 = .ok (.iinc 2 1, 3) := by decide +kernel
theorem dX12_size_284 : decode cX12_size 284 = .ok (.goto (-65), 3) := dl_o167 kcX12_size 65471 (by decide +kernel) (by decide +kernel)
theorem dX12_size_287 : decode cX12_size 287 = .ok (.aload_n 0, 1) := dl_o42 kcX12_size (by decide +kernel)
theorem dX12_size_288 : decode cX12_size 288 = .ok (.getfield 409, 3) := dl_o180 kcX12_size (by decide +kernel)
theorem dX12_size_291 : decode cX12_size 291 = .ok (.ifCond .le 13, 3) := dl_o158 kcX12_size 13 (by decide +kernel) (by decide +kernel)
theorem dX12_size_294 : decode cX12_size 294 = .ok (.aload_n 0, 1) := dl_o42 kcX12_size (by decide +kernel)
theorem dX12_size_295 : decode cX12_size 295 = .ok (.iconst 0, 1) := dl_o3 kcX12_size (by decide +kernel)
theorem dX12_size_296 : decode cX12_size 296 = .ok (.putfield 621, 3) := dl_o181 kcX12_size (by decide +kernel)
theorem dX12_size_299 : decode cX12_size 299 = .ok (.aload_n 0, 1) := dl_o42 kcX12_size (by decide +kernel)
theorem dX12_size_300 : decode cX12_size 300 = .ok (.invokevirtual 773, 3) := dl_o182 kcX12_size (by decide +kernel)
theorem dX12_size_303 : decode cX12_size 303 = .ok (.ireturn, 1) := dl_o172 kcX12_size (by decide +kernel)
theorem dX12_size_304 : decode cX12_size 304 = .ok (.aload_n 0, 1) := dl_o42 kcX12_size (by decide +kernel)
theorem dX12_size_305 : decode cX12_size 305 = .ok (.invokevirtual 776, 3) := dl_o182 kcX12_size (by decide +kernel)
theorem dX12_size_308 : decode cX12_size 308 = .ok (.iconst 0, 1) := dl_o3 kcX12_size (by decide +kernel)
theorem dX12_size_309 : decode cX12_size 309 = .ok (.istore_n 2, 1) := dl_o61 kcX12_size (by decide +kernel)
theorem dX12_size_310 : decode cX12_size 310 = .ok (.iload_n 2, 1) := dl_o28 kcX12_size (by decide +kernel)
theorem dX12_size_311 : decode cX12_size 311 = .ok (.bipush 64, 2) := dl_o16 kcX12_size 64 (by decide +kernel) (by decide +kernel)
theorem dX12_size_313 : decode cX12_size 313 = .ok (.if_icmp .ge 21, 3) := dl_o162 kcX12_size 21 (by decide +kernel) (by decide +kernel)
theorem dX12_size_316 : decode cX12_size 316 = .ok (.aload_n 0, 1) := dl_o42 kcX12_size (by decide +kernel)
theorem dX12_size_317 : decode cX12_size 317 = .ok (.getfield 143, 3) := dl_o180 kcX12_size (by decide +kernel)
theorem dX12_size_320 : decode cX12_size 320 = .ok (.iload_n 2, 1) := dl_o28 kcX12_size (by decide +kernel)
theorem dX12_size_321 : decode cX12_size 321 = .ok (.aload_n 0, 1) := dl_o42 kcX12_size (by decide +kernel)
theorem dX12_size_322 : decode cX12_size 322 = .ok (.getfield 82, 3) := dl_o180 kcX12_size (by decide +kernel)
theorem dX12_size_325 : decode cX12_size 325 = .ok (.iload_n 2, 1) := dl_o28 kcX12_size (by decide +kernel)
theorem dX12_size_326 : decode cX12_size 326 = .ok (.iaload, 1) := dl_o46 kcX12_size (by decide +kernel)
theorem dX12_size_327 : decode cX12_size 327 = .ok (.iastore, 1) := dl_o79 kcX12_size (by decide +kernel)
theorem dX12_size_328 : decode cX12_size 328 = .ok (.iinc 2 1, 3) := by decide +kernel
theorem dX12_size_331 : decode cX12_size 331 = .ok (.goto (-21), 3) := dl_o167 kcX12_size 65515 (by decide +kernel) (by decide +kernel)
theorem dX12_size_334 : decode cX12_size 334 = .ok (.aload_n 0, 1) := dl_o42 kcX12_size (by decide +kernel)
theorem dX12_size_335 : decode cX12_size 335 = .ok (.iconst 1, 1) := dl_o4 kcX12_size (by decide +kernel)
theorem dX12_size_336 : decode cX12_size 336 = .ok (.putfield 767, 3) := dl_o181 kcX12_size (by decide +kernel)
theorem dX12_size_339 : decode cX12_size 339 = .ok (.aload_n 0, 1) := dl_o42 kcX12_size (by decide +kernel)
theorem dX12_size_340 : decode cX12_size 340 = .ok (.aload_n 0, 1) := dl_o42 kcX12_size (by decide +kernel)
theorem dX12_size_341 : decode cX12_size 341 = .ok (.getfield 505, 3) := dl_o180 kcX12_size (by decide +kernel)
theorem dX12_size_344 : decode cX12_size 344 = .ok (.putfield 756, 3) := dl_o181 kcX12_size (by decide +kernel)
theorem dX12_size_347 : decode cX12_size 347 = .ok (.aload_n 0, 1) := dl_o42 kcX12_size (by decide +kernel)
theorem dX12_size_348 : decode cX12_size 348 = .ok (.iconst 0, 1) := dl_o3 kcX12_size (by decide +kernel)
theorem dX12_size_349 : decode cX12_size 349 = .ok (.putfield 753, 3) := dl_o181 kcX12_size (by decide +kernel)
theorem dX12_size_352 : decode cX12_size 352 = .ok (.aload_n 0, 1) := dl_o42 kcX12_size (by decide +kernel)
theorem dX12_size_353 : decode cX12_size 353 = .ok (.iconst (-1), 1) := dl_o2 kcX12_size (by decide +kernel)
theorem dX12_size_354 : decode cX12_size 354 = .ok (.putfield 127, 3) := dl_o181 kcX12_size (by decide +kernel)
theorem dX12_size_357 : decode cX12_size 357 = .ok (.aload_n 0, 1) := dl_o42 kcX12_size (by decide +kernel)
theorem dX12_size_358 : decode cX12_size 358 = .ok (.getfield 505, 3) := dl_o180 kcX12_size (by decide +kernel)
theorem dX12_size_361 : decode cX12_size 361 = .ok (.ireturn, 1) := dl_o172 kcX12_size (by decide +kernel)
def B_X12_size_162 (N : Nat) (k111 : Int32 → sv_V → Option (Int32 × sv_V)) (l2 : Int32) (s1 : Int32) (s2 : Int32) (V : sv_V) : Option (Int32 × sv_V) := if sx_in s1 256 = true then sx_let (sv_I V 164 s1.toNatClampNeg s2) (fun V2 => sx_let (l2 + 1) (fun x3 => k111 x3 V2)) else none
set_option maxRecDepth 20000 in
theorem tB_X12_size_162 {g : sx_G} (hG : sx_Go g) {P : Option Value → sv_V → Prop} {r : Int32} {Vr : sv_V} (hP : P (some (.int r)) Vr) {N : Nat} {k111 : Int32 → sv_V → Option (Int32 × sv_V)} (hk111 : ∀ (l2 : Int32) (V : sv_V), k111 l2 V = some (r, Vr) → sv_N g qX12_size 10 111 [(0, .ref 146), (2, .int l2)] [] V P) {l2 : Int32} {s1 : Int32} {s2 : Int32} {V : sv_V} (h : B_X12_size_162 N k111 l2 s1 s2 V = some (r, Vr)) : sv_N g qX12_size 10 162 [(0, .ref 146), (2, .int l2)] [.int s2, .int s1, .ref 164] V P := by
  unfold B_X12_size_162 at h
  obtain ⟨g1, h⟩ := sx_grd h
  obtain ⟨V2, hV2⟩ : ∃ z : sv_V, z = sv_I V 164 s1.toNatClampNeg s2 := ⟨_, rfl⟩
  have h := sx_letE hV2 h
  refine sv_iast (pc := 162) hG dX12_size_162 lay_164 g1 hV2 ?_
  obtain ⟨x3, hx3⟩ : ∃ z : Int32, z = l2 + 1 := ⟨_, rfl⟩
  have h := sx_letE hx3 h
  refine sx_iinc (pc := 163) (v := x3) (lo' := [(2, .int x3), (0, .ref 146)]) dX12_size_163 sx_m1 (by rw [hx3]; rfl) (by decide) rfl ?_
  refine sx_goto (pc := 166) (tgt := 111) dX12_size_166 (by decide) ?_
  refine sx_wk (sx_s1 sx_m1 (sx_s1 sx_m0 sx_s0)) ?_
  exact hk111 _ _ h
def B_X12_size_281 (N : Nat) (k219 : Int32 → sv_V → Option (Int32 × sv_V)) (l2 : Int32) (V : sv_V) : Option (Int32 × sv_V) := sx_let (l2 + 1) (fun x4 => k219 x4 V)
set_option maxRecDepth 20000 in
theorem tB_X12_size_281 {g : sx_G} (hG : sx_Go g) {P : Option Value → sv_V → Prop} {r : Int32} {Vr : sv_V} (hP : P (some (.int r)) Vr) {N : Nat} {k219 : Int32 → sv_V → Option (Int32 × sv_V)} (hk219 : ∀ (l2 : Int32) (V : sv_V), k219 l2 V = some (r, Vr) → sv_N g qX12_size 10 219 [(0, .ref 146), (2, .int l2)] [] V P) {l2 : Int32} {V : sv_V} (h : B_X12_size_281 N k219 l2 V = some (r, Vr)) : sv_N g qX12_size 10 281 [(0, .ref 146), (2, .int l2)] [] V P := by
  unfold B_X12_size_281 at h
  obtain ⟨x4, hx4⟩ : ∃ z : Int32, z = l2 + 1 := ⟨_, rfl⟩
  have h := sx_letE hx4 h
  refine sx_iinc (pc := 281) (v := x4) (lo' := [(2, .int x4), (0, .ref 146)]) dX12_size_281 sx_m1 (by rw [hx4]; rfl) (by decide) rfl ?_
  refine sx_goto (pc := 284) (tgt := 219) dX12_size_284 (by decide) ?_
  refine sx_wk (sx_s1 sx_m1 (sx_s1 sx_m0 sx_s0)) ?_
  exact hk219 _ _ h
def B_X12_size_244 (N : Nat) (k219 : Int32 → sv_V → Option (Int32 × sv_V)) (l2 : Int32) (s0 : Int32) (V : sv_V) : Option (Int32 × sv_V) := (F_X12_beginOf N s0 V).bind (fun (x7, V5) => if sx_in l2 3 = true then sx_let (sv_I V5 174 l2.toNatClampNeg x7) (fun V9 => (F_X12_lengthOf N s0 V9).bind (fun (x12, V10) => if sx_in l2 3 = true then sx_let (sv_I V10 175 l2.toNatClampNeg x12) (fun V14 => (F_X12_tableOf N s0 V14).bind (fun (x17, V15) => if x17 = (-1 : Int32) then (B_X12_size_281 N k219 l2 V15) else ((F_X12_runProgram N l2 V15).bind (fun V19 => B_X12_size_281 N k219 l2 V19)))) else none)) else none)
set_option maxRecDepth 20000 in
theorem tB_X12_size_244 {g : sx_G} (hG : sx_Go g) {P : Option Value → sv_V → Prop} {r : Int32} {Vr : sv_V} (hP : P (some (.int r)) Vr) {N : Nat} {k219 : Int32 → sv_V → Option (Int32 × sv_V)} (hk219 : ∀ (l2 : Int32) (V : sv_V), k219 l2 V = some (r, Vr) → sv_N g qX12_size 10 219 [(0, .ref 146), (2, .int l2)] [] V P) {l2 : Int32} {s0 : Int32} {V : sv_V} (h : B_X12_size_244 N k219 l2 s0 V = some (r, Vr)) : sv_N g qX12_size 10 244 [(0, .ref 146), (2, .int l2)] [.int s0] V P := by
  unfold B_X12_size_244 at h
  refine sx_istore_n (pc := 244) (lo' := [(3, .int s0), (0, .ref 146), (2, .int l2)]) dX12_size_244 (by decide) rfl ?_
  refine sx_aload_n (pc := 245) dX12_size_245 sx_m1 ?_
  refine sv_getA (pc := 246) hG dX12_size_246 f_12_94 lay_146 rfl cr_146_89 ?_
  refine sx_iload_n (pc := 249) dX12_size_249 sx_m2 ?_
  refine sx_aload_n (pc := 250) dX12_size_250 sx_m1 ?_
  refine sx_iload_n (pc := 251) dX12_size_251 sx_m0 ?_
  obtain ⟨⟨x7, V5⟩, g6, h⟩ := sx_bnd h
  refine sv_cV (pc := 252) (y := qX12_beginOf) (o := (some (.int x7))) (as := [.int s0]) (V1 := V5) hG dX12_size_252 l_X12_251 y0X12_beginOf yvX12_beginOf rfl (Nat.le_of_ble_eq_true rfl) lay_146 kr_12 (by decide) (Nat.le_of_ble_eq_true rfl) rfl rfl rfl (t_X12_beginOf hG ⟨rfl, rfl⟩ g6) ?_
  obtain ⟨g8, h⟩ := sx_grd h
  obtain ⟨V9, hV9⟩ : ∃ z : sv_V, z = sv_I V5 174 l2.toNatClampNeg x7 := ⟨_, rfl⟩
  have h := sx_letE hV9 h
  refine sv_iast (pc := 255) hG dX12_size_255 lay_174 g8 hV9 ?_
  refine sx_aload_n (pc := 256) dX12_size_256 sx_m1 ?_
  refine sv_getA (pc := 257) hG dX12_size_257 f_12_97 lay_146 rfl cr_146_90 ?_
  refine sx_iload_n (pc := 260) dX12_size_260 sx_m2 ?_
  refine sx_aload_n (pc := 261) dX12_size_261 sx_m1 ?_
  refine sx_iload_n (pc := 262) dX12_size_262 sx_m0 ?_
  obtain ⟨⟨x12, V10⟩, g11, h⟩ := sx_bnd h
  refine sv_cV (pc := 263) (y := qX12_lengthOf) (o := (some (.int x12))) (as := [.int s0]) (V1 := V10) hG dX12_size_263 l_X12_257 y0X12_lengthOf yvX12_lengthOf rfl (Nat.le_of_ble_eq_true rfl) lay_146 kr_12 (by decide) (Nat.le_of_ble_eq_true rfl) rfl rfl rfl (t_X12_lengthOf hG ⟨rfl, rfl⟩ g11) ?_
  obtain ⟨g13, h⟩ := sx_grd h
  obtain ⟨V14, hV14⟩ : ∃ z : sv_V, z = sv_I V10 175 l2.toNatClampNeg x12 := ⟨_, rfl⟩
  have h := sx_letE hV14 h
  refine sv_iast (pc := 266) hG dX12_size_266 lay_175 g13 hV14 ?_
  refine sx_aload_n (pc := 267) dX12_size_267 sx_m1 ?_
  refine sx_iload_n (pc := 268) dX12_size_268 sx_m0 ?_
  obtain ⟨⟨x17, V15⟩, g16, h⟩ := sx_bnd h
  refine sv_cV (pc := 269) (y := qX12_tableOf) (o := (some (.int x17))) (as := [.int s0]) (V1 := V15) hG dX12_size_269 l_X12_219 y0X12_tableOf yvX12_tableOf rfl (Nat.le_of_ble_eq_true rfl) lay_146 kr_12 (by decide) (Nat.le_of_ble_eq_true rfl) rfl rfl rfl (t_X12_tableOf hG ⟨rfl, rfl⟩ g16) ?_
  refine sx_iconst (pc := 272) (v := (-1)) dX12_size_272 (by decide) ?_
  refine sx_icmp_eq (pc := 273) (tgt := 281) dX12_size_273 (by decide) (fun c18 => ?_) (fun c18 => ?_)
  · have h := sx_pos c18 h
    refine sx_wk (sx_s1 sx_m1 (sx_s1 sx_m2 sx_s0)) ?_
    exact tB_X12_size_281 hG hP hk219 h
  · have h := sx_neg c18 h
    refine sx_aload_n (pc := 276) dX12_size_276 sx_m1 ?_
    refine sx_iload_n (pc := 277) dX12_size_277 sx_m2 ?_
    obtain ⟨V19, g20, h⟩ := sx_bnd h
    refine sv_cV (pc := 278) (y := qX12_runProgram) (o := none) (as := [.int l2]) (V1 := V19) hG dX12_size_278 l_X12_770 y0X12_runProgram yvX12_runProgram rfl (Nat.le_of_ble_eq_true rfl) lay_146 kr_12 (by decide) (Nat.le_of_ble_eq_true rfl) rfl rfl rfl (t_X12_runProgram hG ⟨rfl, rfl⟩ g20) ?_
    refine sx_wk (sx_s1 sx_m1 (sx_s1 sx_m2 sx_s0)) ?_
    exact tB_X12_size_281 hG hP hk219 h
def B_X12_size_310 (N : Nat) (k310 : Int32 → sv_V → Option (Int32 × sv_V)) (l2 : Int32) (V : sv_V) : Option (Int32 × sv_V) := if (64 : Int32) ≤ l2 then (sx_let (sv_I V 146 107 (1 : Int32)) (fun V22 => sx_let (sv_I V22 146 109 (V22.1 146 58)) (fun V23 => sx_let (sv_I V23 146 111 (0 : Int32)) (fun V24 => sx_let (sv_I V24 146 112 (-1 : Int32)) (fun V25 => some (V25.1 146 58, V25)))))) else (if sx_in l2 204 = true then if sx_in l2 64 = true then sx_let (sv_I V 189 l2.toNatClampNeg (V.1 170 l2.toNatClampNeg)) (fun V28 => sx_let (l2 + 1) (fun x29 => k310 x29 V28)) else none else none)
set_option maxRecDepth 20000 in
theorem tB_X12_size_310 {g : sx_G} (hG : sx_Go g) {P : Option Value → sv_V → Prop} {r : Int32} {Vr : sv_V} (hP : P (some (.int r)) Vr) {N : Nat} {k310 : Int32 → sv_V → Option (Int32 × sv_V)} (hk310 : ∀ (l2 : Int32) (V : sv_V), k310 l2 V = some (r, Vr) → sv_N g qX12_size 10 310 [(0, .ref 146), (2, .int l2)] [] V P) {l2 : Int32} {V : sv_V} (h : B_X12_size_310 N k310 l2 V = some (r, Vr)) : sv_N g qX12_size 10 310 [(0, .ref 146), (2, .int l2)] [] V P := by
  unfold B_X12_size_310 at h
  refine sx_iload_n (pc := 310) dX12_size_310 sx_m1 ?_
  refine sx_bipush (pc := 311) (v := 64) dX12_size_311 (by decide) ?_
  refine sx_icmp_ge (pc := 313) (tgt := 334) dX12_size_313 (by decide) (fun c21 => ?_) (fun c21 => ?_)
  · have h := sx_pos c21 h
    refine sx_aload_n (pc := 334) dX12_size_334 sx_m0 ?_
    refine sx_iconst (pc := 335) (v := 1) dX12_size_335 (by decide) ?_
    obtain ⟨V22, hV22⟩ : ∃ z : sv_V, z = sv_I V 146 107 (1 : Int32) := ⟨_, rfl⟩
    have h := sx_letE hV22 h
    refine sv_putZ (pc := 336) hG dX12_size_336 f_12_767 lay_146 rfl rfl hV22 ?_
    refine sx_aload_n (pc := 339) dX12_size_339 sx_m0 ?_
    refine sx_aload_n (pc := 340) dX12_size_340 sx_m0 ?_
    refine sv_getI (pc := 341) hG dX12_size_341 f_12_505 lay_146 rfl ?_
    obtain ⟨V23, hV23⟩ : ∃ z : sv_V, z = sv_I V22 146 109 (V22.1 146 58) := ⟨_, rfl⟩
    have h := sx_letE hV23 h
    refine sv_putI (pc := 344) hG dX12_size_344 f_12_756 lay_146 rfl hV23 ?_
    refine sx_aload_n (pc := 347) dX12_size_347 sx_m0 ?_
    refine sx_iconst (pc := 348) (v := 0) dX12_size_348 (by decide) ?_
    obtain ⟨V24, hV24⟩ : ∃ z : sv_V, z = sv_I V23 146 111 (0 : Int32) := ⟨_, rfl⟩
    have h := sx_letE hV24 h
    refine sv_putI (pc := 349) hG dX12_size_349 f_12_753 lay_146 rfl hV24 ?_
    refine sx_aload_n (pc := 352) dX12_size_352 sx_m0 ?_
    refine sx_iconst (pc := 353) (v := (-1)) dX12_size_353 (by decide) ?_
    obtain ⟨V25, hV25⟩ : ∃ z : sv_V, z = sv_I V24 146 112 (-1 : Int32) := ⟨_, rfl⟩
    have h := sx_letE hV25 h
    refine sv_putI (pc := 354) hG dX12_size_354 f_12_127 lay_146 rfl hV25 ?_
    refine sx_aload_n (pc := 357) dX12_size_357 sx_m0 ?_
    refine sv_getI (pc := 358) hG dX12_size_358 f_12_505 lay_146 rfl ?_
    exact sv_iret (pc := 361) dX12_size_361 rfl h hP
  · have h := sx_neg c21 h
    refine sx_aload_n (pc := 316) dX12_size_316 sx_m0 ?_
    refine sv_getA (pc := 317) hG dX12_size_317 f_12_143 lay_146 rfl cr_146_117 ?_
    refine sx_iload_n (pc := 320) dX12_size_320 sx_m1 ?_
    refine sx_aload_n (pc := 321) dX12_size_321 sx_m0 ?_
    refine sv_getA (pc := 322) hG dX12_size_322 f_12_82 lay_146 rfl cr_146_50 ?_
    refine sx_iload_n (pc := 325) dX12_size_325 sx_m1 ?_
    obtain ⟨g26, h⟩ := sx_grd h
    refine sv_iald (pc := 326) hG dX12_size_326 lay_170 g26 ?_
    obtain ⟨g27, h⟩ := sx_grd h
    obtain ⟨V28, hV28⟩ : ∃ z : sv_V, z = sv_I V 189 l2.toNatClampNeg (V.1 170 l2.toNatClampNeg) := ⟨_, rfl⟩
    have h := sx_letE hV28 h
    refine sv_iast (pc := 327) hG dX12_size_327 lay_189 g27 hV28 ?_
    obtain ⟨x29, hx29⟩ : ∃ z : Int32, z = l2 + 1 := ⟨_, rfl⟩
    have h := sx_letE hx29 h
    refine sx_iinc (pc := 328) (v := x29) (lo' := [(2, .int x29), (0, .ref 146)]) dX12_size_328 sx_m1 (by rw [hx29]; rfl) (by decide) rfl ?_
    refine sx_goto (pc := 331) (tgt := 310) dX12_size_331 (by decide) ?_
    refine sx_wk (sx_s1 sx_m1 (sx_s1 sx_m0 sx_s0)) ?_
    exact hk310 _ _ h
theorem tL_X12_size_310 {g : sx_G} (hG : sx_Go g) {P : Option Value → sv_V → Prop} {r : Int32} {Vr : sv_V} (hP : P (some (.int r)) Vr) {N : Nat}   : ∀ (n : Nat) (l2 : Int32) (V : sv_V), sx_lp2 (B_X12_size_310 N ) n l2 V = some (r, Vr) → sv_N g qX12_size 10 310 [(0, .ref 146), (2, .int l2)] [] V P :=
  sx_lp2_ind (fun k0 ih _ V h => tB_X12_size_310 hG hP ih h)
def B_X12_size_287 (N : Nat)   (V : sv_V) : Option (Int32 × sv_V) := if (V.1 146 59) ≤ 0 then ((F_X12_keep N  V).bind (fun V31 => sx_lp2 (B_X12_size_310 N ) N (0 : Int32) V31)) else (sx_let (sv_I V 146 62 (0 : Int32)) (fun V33 => (F_X12_failedNow  V33).bind (fun (x36, V34) => some (x36, V34))))
set_option maxRecDepth 20000 in
theorem tB_X12_size_287 {g : sx_G} (hG : sx_Go g) {P : Option Value → sv_V → Prop} {r : Int32} {Vr : sv_V} (hP : P (some (.int r)) Vr) {N : Nat}    {V : sv_V} (h : B_X12_size_287 N   V = some (r, Vr)) : sv_N g qX12_size 10 287 [(0, .ref 146)] [] V P := by
  unfold B_X12_size_287 at h
  refine sx_aload_n (pc := 287) dX12_size_287 sx_m0 ?_
  refine sv_getI (pc := 288) hG dX12_size_288 f_12_409 lay_146 rfl ?_
  refine sx_if_le (pc := 291) (tgt := 304) dX12_size_291 (by decide) (fun c30 => ?_) (fun c30 => ?_)
  · have h := sx_pos c30 h
    refine sx_aload_n (pc := 304) dX12_size_304 sx_m0 ?_
    obtain ⟨V31, g32, h⟩ := sx_bnd h
    refine sv_cV (pc := 305) (y := qX12_keep) (o := none) (as := []) (V1 := V31) hG dX12_size_305 l_X12_776 y0X12_keep yvX12_keep rfl (Nat.le_of_ble_eq_true rfl) lay_146 kr_12 (by decide) (Nat.le_of_ble_eq_true rfl) rfl rfl rfl (t_X12_keep hG ⟨rfl, rfl⟩ g32) ?_
    refine sx_iconst (pc := 308) (v := 0) dX12_size_308 (by decide) ?_
    refine sx_istore_n (pc := 309) (lo' := [(2, .int (0 : Int32)), (0, .ref 146)]) dX12_size_309 (by decide) rfl ?_
    refine sx_wk (sx_s1 sx_m1 (sx_s1 sx_m0 sx_s0)) ?_
    exact tL_X12_size_310 hG hP  N _ _ h
  · have h := sx_neg c30 h
    refine sx_aload_n (pc := 294) dX12_size_294 sx_m0 ?_
    refine sx_iconst (pc := 295) (v := 0) dX12_size_295 (by decide) ?_
    obtain ⟨V33, hV33⟩ : ∃ z : sv_V, z = sv_I V 146 62 (0 : Int32) := ⟨_, rfl⟩
    have h := sx_letE hV33 h
    refine sv_putI (pc := 296) hG dX12_size_296 f_12_621 lay_146 rfl hV33 ?_
    refine sx_aload_n (pc := 299) dX12_size_299 sx_m0 ?_
    obtain ⟨⟨x36, V34⟩, g35, h⟩ := sx_bnd h
    refine sv_cV (pc := 300) (y := qX12_failedNow) (o := (some (.int x36))) (as := []) (V1 := V34) hG dX12_size_300 l_X12_773 y0X12_failedNow yvX12_failedNow rfl (Nat.le_of_ble_eq_true rfl) lay_146 kr_12 (by decide) (Nat.le_of_ble_eq_true rfl) rfl rfl rfl (t_X12_failedNow hG ⟨rfl, rfl⟩ g35) ?_
    exact sv_iret (pc := 303) dX12_size_303 rfl h hP
def B_X12_size_219 (N : Nat) (k219 : Int32 → sv_V → Option (Int32 × sv_V)) (l2 : Int32) (V : sv_V) : Option (Int32 × sv_V) := if (2 : Int32) ≤ l2 then (B_X12_size_287 N   V) else (if (V.1 146 59) = 0 then (if l2 = 0 then (B_X12_size_244 N k219 l2 (1718642541 : Int32) V) else (B_X12_size_244 N k219 l2 (1886545264 : Int32) V)) else (B_X12_size_287 N   V))
set_option maxRecDepth 20000 in
theorem tB_X12_size_219 {g : sx_G} (hG : sx_Go g) {P : Option Value → sv_V → Prop} {r : Int32} {Vr : sv_V} (hP : P (some (.int r)) Vr) {N : Nat} {k219 : Int32 → sv_V → Option (Int32 × sv_V)} (hk219 : ∀ (l2 : Int32) (V : sv_V), k219 l2 V = some (r, Vr) → sv_N g qX12_size 10 219 [(0, .ref 146), (2, .int l2)] [] V P) {l2 : Int32} {V : sv_V} (h : B_X12_size_219 N k219 l2 V = some (r, Vr)) : sv_N g qX12_size 10 219 [(0, .ref 146), (2, .int l2)] [] V P := by
  unfold B_X12_size_219 at h
  refine sx_iload_n (pc := 219) dX12_size_219 sx_m1 ?_
  refine sx_iconst (pc := 220) (v := 2) dX12_size_220 (by decide) ?_
  refine sx_icmp_ge (pc := 221) (tgt := 287) dX12_size_221 (by decide) (fun c37 => ?_) (fun c37 => ?_)
  · have h := sx_pos c37 h
    refine sx_wk (sx_s1 sx_m0 sx_s0) ?_
    exact tB_X12_size_287 hG hP  h
  · have h := sx_neg c37 h
    refine sx_aload_n (pc := 224) dX12_size_224 sx_m0 ?_
    refine sv_getI (pc := 225) hG dX12_size_225 f_12_409 lay_146 rfl ?_
    refine sx_if_ne (pc := 228) (tgt := 287) dX12_size_228 (by decide) (fun c38 => ?_) (fun c38 => ?_)
    · have h := sx_neg c38 h
      refine sx_wk (sx_s1 sx_m0 sx_s0) ?_
      exact tB_X12_size_287 hG hP  h
    · have h := sx_pos c38 h
      refine sx_iload_n (pc := 231) dX12_size_231 sx_m1 ?_
      refine sx_if_ne (pc := 232) (tgt := 241) dX12_size_232 (by decide) (fun c39 => ?_) (fun c39 => ?_)
      · have h := sx_neg c39 h
        refine sx_ldcw (pc := 241) dX12_size_241 k_X12_293 ?_
        refine sx_wk (sx_s1 sx_m0 (sx_s1 sx_m1 sx_s0)) ?_
        exact tB_X12_size_244 hG hP hk219 h
      · have h := sx_pos c39 h
        refine sx_ldcw (pc := 235) dX12_size_235 k_X12_292 ?_
        refine sx_goto (pc := 238) (tgt := 244) dX12_size_238 (by decide) ?_
        refine sx_wk (sx_s1 sx_m0 (sx_s1 sx_m1 sx_s0)) ?_
        exact tB_X12_size_244 hG hP hk219 h
theorem tL_X12_size_219 {g : sx_G} (hG : sx_Go g) {P : Option Value → sv_V → Prop} {r : Int32} {Vr : sv_V} (hP : P (some (.int r)) Vr) {N : Nat}   : ∀ (n : Nat) (l2 : Int32) (V : sv_V), sx_lp2 (B_X12_size_219 N ) n l2 V = some (r, Vr) → sv_N g qX12_size 10 219 [(0, .ref 146), (2, .int l2)] [] V P :=
  sx_lp2_ind (fun k0 ih _ V h => tB_X12_size_219 hG hP ih h)
def B_X12_size_111 (N : Nat) (k111 : Int32 → sv_V → Option (Int32 × sv_V)) (l2 : Int32) (V : sv_V) : Option (Int32 × sv_V) := if (256 : Int32) ≤ l2 then (sx_let (sv_I V 146 80 (68 : Int32)) (fun V41 => sx_let (sv_I V41 146 81 (0 : Int32)) (fun V42 => sx_let (sv_I V42 146 82 (0 : Int32)) (fun V43 => sx_let (sv_I V43 146 83 (64 : Int32)) (fun V44 => sx_let (sv_I V44 146 84 (1 : Int32)) (fun V45 => sx_let (sv_I V45 146 85 (9 : Int32)) (fun V46 => sx_let (sv_I V46 146 86 (3 : Int32)) (fun V47 => sx_let (sv_I V47 146 87 (0 : Int32)) (fun V48 => sx_let (sv_I V48 146 88 (0 : Int32)) (fun V49 => sx_lp2 (B_X12_size_219 N ) N (0 : Int32) V49)))))))))) else (if sx_in l2 256 = true then sx_let (sv_I V 178 l2.toNatClampNeg (-1 : Int32)) (fun V51 => if (V51.1 146 25) ≤ l2 then (B_X12_size_162 N k111 l2 l2 (0 : Int32) V51) else ((F_X12_beginOf N (1668707360 : Int32) V51).bind (fun (x55, V53) => (F_X12_s2 (x55 + ((2 : Int32) * l2)) V53).bind (fun (x58, V56) => (F_X12_scaled x58.toInt64 V56).bind (fun (x61, V59) => B_X12_size_162 N k111 l2 l2 x61 V59))))) else none)
set_option maxRecDepth 20000 in
theorem tB_X12_size_111 {g : sx_G} (hG : sx_Go g) {P : Option Value → sv_V → Prop} {r : Int32} {Vr : sv_V} (hP : P (some (.int r)) Vr) {N : Nat} {k111 : Int32 → sv_V → Option (Int32 × sv_V)} (hk111 : ∀ (l2 : Int32) (V : sv_V), k111 l2 V = some (r, Vr) → sv_N g qX12_size 10 111 [(0, .ref 146), (2, .int l2)] [] V P) {l2 : Int32} {V : sv_V} (h : B_X12_size_111 N k111 l2 V = some (r, Vr)) : sv_N g qX12_size 10 111 [(0, .ref 146), (2, .int l2)] [] V P := by
  unfold B_X12_size_111 at h
  refine sx_iload_n (pc := 111) dX12_size_111 sx_m1 ?_
  refine sx_sipush (pc := 112) (v := 256) dX12_size_112 (by decide) ?_
  refine sx_icmp_ge (pc := 115) (tgt := 169) dX12_size_115 (by decide) (fun c40 => ?_) (fun c40 => ?_)
  · have h := sx_pos c40 h
    refine sx_aload_n (pc := 169) dX12_size_169 sx_m0 ?_
    refine sx_bipush (pc := 170) (v := 68) dX12_size_170 (by decide) ?_
    obtain ⟨V41, hV41⟩ : ∃ z : sv_V, z = sv_I V 146 80 (68 : Int32) := ⟨_, rfl⟩
    have h := sx_letE hV41 h
    refine sv_putI (pc := 172) hG dX12_size_172 f_12_605 lay_146 rfl hV41 ?_
    refine sx_aload_n (pc := 175) dX12_size_175 sx_m0 ?_
    refine sx_iconst (pc := 176) (v := 0) dX12_size_176 (by decide) ?_
    obtain ⟨V42, hV42⟩ : ∃ z : sv_V, z = sv_I V41 146 81 (0 : Int32) := ⟨_, rfl⟩
    have h := sx_letE hV42 h
    refine sv_putI (pc := 177) hG dX12_size_177 f_12_615 lay_146 rfl hV42 ?_
    refine sx_aload_n (pc := 180) dX12_size_180 sx_m0 ?_
    refine sx_iconst (pc := 181) (v := 0) dX12_size_181 (by decide) ?_
    obtain ⟨V43, hV43⟩ : ∃ z : sv_V, z = sv_I V42 146 82 (0 : Int32) := ⟨_, rfl⟩
    have h := sx_letE hV43 h
    refine sv_putI (pc := 182) hG dX12_size_182 f_12_608 lay_146 rfl hV43 ?_
    refine sx_aload_n (pc := 185) dX12_size_185 sx_m0 ?_
    refine sx_bipush (pc := 186) (v := 64) dX12_size_186 (by decide) ?_
    obtain ⟨V44, hV44⟩ : ∃ z : sv_V, z = sv_I V43 146 83 (64 : Int32) := ⟨_, rfl⟩
    have h := sx_letE hV44 h
    refine sv_putI (pc := 188) hG dX12_size_188 f_12_595 lay_146 rfl hV44 ?_
    refine sx_aload_n (pc := 191) dX12_size_191 sx_m0 ?_
    refine sx_iconst (pc := 192) (v := 1) dX12_size_192 (by decide) ?_
    obtain ⟨V45, hV45⟩ : ∃ z : sv_V, z = sv_I V44 146 84 (1 : Int32) := ⟨_, rfl⟩
    have h := sx_letE hV45 h
    refine sv_putZ (pc := 193) hG dX12_size_193 f_12_683 lay_146 rfl rfl hV45 ?_
    refine sx_aload_n (pc := 196) dX12_size_196 sx_m0 ?_
    refine sx_bipush (pc := 197) (v := 9) dX12_size_197 (by decide) ?_
    obtain ⟨V46, hV46⟩ : ∃ z : sv_V, z = sv_I V45 146 85 (9 : Int32) := ⟨_, rfl⟩
    have h := sx_letE hV46 h
    refine sv_putI (pc := 199) hG dX12_size_199 f_12_700 lay_146 rfl hV46 ?_
    refine sx_aload_n (pc := 202) dX12_size_202 sx_m0 ?_
    refine sx_iconst (pc := 203) (v := 3) dX12_size_203 (by decide) ?_
    obtain ⟨V47, hV47⟩ : ∃ z : sv_V, z = sv_I V46 146 86 (3 : Int32) := ⟨_, rfl⟩
    have h := sx_letE hV47 h
    refine sv_putI (pc := 204) hG dX12_size_204 f_12_703 lay_146 rfl hV47 ?_
    refine sx_aload_n (pc := 207) dX12_size_207 sx_m0 ?_
    refine sx_iconst (pc := 208) (v := 0) dX12_size_208 (by decide) ?_
    obtain ⟨V48, hV48⟩ : ∃ z : sv_V, z = sv_I V47 146 87 (0 : Int32) := ⟨_, rfl⟩
    have h := sx_letE hV48 h
    refine sv_putI (pc := 209) hG dX12_size_209 f_12_739 lay_146 rfl hV48 ?_
    refine sx_aload_n (pc := 212) dX12_size_212 sx_m0 ?_
    refine sx_iconst (pc := 213) (v := 0) dX12_size_213 (by decide) ?_
    obtain ⟨V49, hV49⟩ : ∃ z : sv_V, z = sv_I V48 146 88 (0 : Int32) := ⟨_, rfl⟩
    have h := sx_letE hV49 h
    refine sv_putI (pc := 214) hG dX12_size_214 f_12_747 lay_146 rfl hV49 ?_
    refine sx_iconst (pc := 217) (v := 0) dX12_size_217 (by decide) ?_
    refine sx_istore_n (pc := 218) (lo' := [(2, .int (0 : Int32)), (0, .ref 146)]) dX12_size_218 (by decide) rfl ?_
    refine sx_wk (sx_s1 sx_m1 (sx_s1 sx_m0 sx_s0)) ?_
    exact tL_X12_size_219 hG hP  N _ _ h
  · have h := sx_neg c40 h
    refine sx_aload_n (pc := 118) dX12_size_118 sx_m0 ?_
    refine sv_getA (pc := 119) hG dX12_size_119 f_12_106 lay_146 rfl cr_146_96 ?_
    refine sx_iload_n (pc := 122) dX12_size_122 sx_m1 ?_
    refine sx_iconst (pc := 123) (v := (-1)) dX12_size_123 (by decide) ?_
    obtain ⟨g50, h⟩ := sx_grd h
    obtain ⟨V51, hV51⟩ : ∃ z : sv_V, z = sv_I V 178 l2.toNatClampNeg (-1 : Int32) := ⟨_, rfl⟩
    have h := sx_letE hV51 h
    refine sv_iast (pc := 124) hG dX12_size_124 lay_178 g50 hV51 ?_
    refine sx_aload_n (pc := 125) dX12_size_125 sx_m0 ?_
    refine sv_getA (pc := 126) hG dX12_size_126 f_12_64 lay_146 rfl cr_146_44 ?_
    refine sx_iload_n (pc := 129) dX12_size_129 sx_m1 ?_
    refine sx_iload_n (pc := 130) dX12_size_130 sx_m1 ?_
    refine sx_aload_n (pc := 131) dX12_size_131 sx_m0 ?_
    refine sv_getI (pc := 132) hG dX12_size_132 f_12_294 lay_146 rfl ?_
    refine sx_icmp_ge (pc := 135) (tgt := 161) dX12_size_135 (by decide) (fun c52 => ?_) (fun c52 => ?_)
    · have h := sx_pos c52 h
      refine sx_iconst (pc := 161) (v := 0) dX12_size_161 (by decide) ?_
      refine sx_wk (sx_s1 sx_m0 (sx_s1 sx_m1 sx_s0)) ?_
      exact tB_X12_size_162 hG hP hk111 h
    · have h := sx_neg c52 h
      refine sx_aload_n (pc := 138) dX12_size_138 sx_m0 ?_
      refine sx_aload_n (pc := 139) dX12_size_139 sx_m0 ?_
      refine sx_aload_n (pc := 140) dX12_size_140 sx_m0 ?_
      refine sx_ldcw (pc := 141) dX12_size_141 k_X12_291 ?_
      obtain ⟨⟨x55, V53⟩, g54, h⟩ := sx_bnd h
      refine sv_cV (pc := 144) (y := qX12_beginOf) (o := (some (.int x55))) (as := [.int (1668707360 : Int32)]) (V1 := V53) hG dX12_size_144 l_X12_251 y0X12_beginOf yvX12_beginOf rfl (Nat.le_of_ble_eq_true rfl) lay_146 kr_12 (by decide) (Nat.le_of_ble_eq_true rfl) rfl rfl rfl (t_X12_beginOf hG ⟨rfl, rfl⟩ g54) ?_
      refine sx_iconst (pc := 147) (v := 2) dX12_size_147 (by decide) ?_
      refine sx_iload_n (pc := 148) dX12_size_148 sx_m1 ?_
      refine sx_imul (pc := 149) dX12_size_149 ?_
      refine sx_iadd (pc := 150) dX12_size_150 ?_
      obtain ⟨⟨x58, V56⟩, g57, h⟩ := sx_bnd h
      refine sv_cV (pc := 151) (y := qX12_s2) (o := (some (.int x58))) (as := [.int (x55 + ((2 : Int32) * l2))]) (V1 := V56) hG dX12_size_151 l_X12_305 y0X12_s2 yvX12_s2 rfl (Nat.le_of_ble_eq_true rfl) lay_146 kr_12 (by decide) (Nat.le_of_ble_eq_true rfl) rfl rfl rfl (t_X12_s2 hG ⟨rfl, rfl⟩ g57) ?_
      refine sx_i2l (pc := 154) dX12_size_154 ?_
      obtain ⟨⟨x61, V59⟩, g60, h⟩ := sx_bnd h
      refine sv_cV (pc := 155) (y := qX12_scaled) (o := (some (.int x61))) (as := [.long x58.toInt64]) (V1 := V59) hG dX12_size_155 l_X12_611 y0X12_scaled yvX12_scaled rfl (Nat.le_of_ble_eq_true rfl) lay_146 kr_12 (by decide) (Nat.le_of_ble_eq_true rfl) rfl rfl rfl (t_X12_scaled hG ⟨rfl, rfl⟩ g60) ?_
      refine sx_goto (pc := 158) (tgt := 162) dX12_size_158 (by decide) ?_
      refine sx_wk (sx_s1 sx_m0 (sx_s1 sx_m1 sx_s0)) ?_
      exact tB_X12_size_162 hG hP hk111 h
theorem tL_X12_size_111 {g : sx_G} (hG : sx_Go g) {P : Option Value → sv_V → Prop} {r : Int32} {Vr : sv_V} (hP : P (some (.int r)) Vr) {N : Nat}   : ∀ (n : Nat) (l2 : Int32) (V : sv_V), sx_lp2 (B_X12_size_111 N ) n l2 V = some (r, Vr) → sv_N g qX12_size 10 111 [(0, .ref 146), (2, .int l2)] [] V P :=
  sx_lp2_ind (fun k0 ih _ V h => tB_X12_size_111 hG hP ih h)
def B_X12_size_69 (N : Nat) (k69 : Int32 → sv_V → Option (Int32 × sv_V)) (l2 : Int32) (V : sv_V) : Option (Int32 × sv_V) := if (64 : Int32) ≤ l2 then (sx_lp2 (B_X12_size_111 N ) N (0 : Int32) V) else (if sx_in l2 64 = true then sx_let (sv_I V 176 l2.toNatClampNeg (-1 : Int32)) (fun V64 => if sx_in l2 64 = true then sx_let (sv_I V64 165 l2.toNatClampNeg (0 : Int32)) (fun V66 => (F_X12_put l2 (0 : Int64) (0 : Int64) V66).bind (fun V67 => if sx_in l2 204 = true then sx_let (sv_I V67 170 l2.toNatClampNeg (0 : Int32)) (fun V70 => sx_let (l2 + 1) (fun x71 => k69 x71 V70)) else none)) else none) else none)
set_option maxRecDepth 20000 in
theorem tB_X12_size_69 {g : sx_G} (hG : sx_Go g) {P : Option Value → sv_V → Prop} {r : Int32} {Vr : sv_V} (hP : P (some (.int r)) Vr) {N : Nat} {k69 : Int32 → sv_V → Option (Int32 × sv_V)} (hk69 : ∀ (l2 : Int32) (V : sv_V), k69 l2 V = some (r, Vr) → sv_N g qX12_size 10 69 [(0, .ref 146), (2, .int l2)] [] V P) {l2 : Int32} {V : sv_V} (h : B_X12_size_69 N k69 l2 V = some (r, Vr)) : sv_N g qX12_size 10 69 [(0, .ref 146), (2, .int l2)] [] V P := by
  unfold B_X12_size_69 at h
  refine sx_iload_n (pc := 69) dX12_size_69 sx_m1 ?_
  refine sx_bipush (pc := 70) (v := 64) dX12_size_70 (by decide) ?_
  refine sx_icmp_ge (pc := 72) (tgt := 109) dX12_size_72 (by decide) (fun c62 => ?_) (fun c62 => ?_)
  · have h := sx_pos c62 h
    refine sx_iconst (pc := 109) (v := 0) dX12_size_109 (by decide) ?_
    refine sx_istore_n (pc := 110) (lo' := [(2, .int (0 : Int32)), (0, .ref 146)]) dX12_size_110 (by decide) rfl ?_
    refine sx_wk (sx_s1 sx_m1 (sx_s1 sx_m0 sx_s0)) ?_
    exact tL_X12_size_111 hG hP  N _ _ h
  · have h := sx_neg c62 h
    refine sx_aload_n (pc := 75) dX12_size_75 sx_m0 ?_
    refine sv_getA (pc := 76) hG dX12_size_76 f_12_100 lay_146 rfl cr_146_94 ?_
    refine sx_iload_n (pc := 79) dX12_size_79 sx_m1 ?_
    refine sx_iconst (pc := 80) (v := (-1)) dX12_size_80 (by decide) ?_
    obtain ⟨g63, h⟩ := sx_grd h
    obtain ⟨V64, hV64⟩ : ∃ z : sv_V, z = sv_I V 176 l2.toNatClampNeg (-1 : Int32) := ⟨_, rfl⟩
    have h := sx_letE hV64 h
    refine sv_iast (pc := 81) hG dX12_size_81 lay_176 g63 hV64 ?_
    refine sx_aload_n (pc := 82) dX12_size_82 sx_m0 ?_
    refine sv_getA (pc := 83) hG dX12_size_83 f_12_67 lay_146 rfl cr_146_45 ?_
    refine sx_iload_n (pc := 86) dX12_size_86 sx_m1 ?_
    refine sx_iconst (pc := 87) (v := 0) dX12_size_87 (by decide) ?_
    obtain ⟨g65, h⟩ := sx_grd h
    obtain ⟨V66, hV66⟩ : ∃ z : sv_V, z = sv_I V64 165 l2.toNatClampNeg (0 : Int32) := ⟨_, rfl⟩
    have h := sx_letE hV66 h
    refine sv_iast (pc := 88) hG dX12_size_88 lay_165 g65 hV66 ?_
    refine sx_aload_n (pc := 89) dX12_size_89 sx_m0 ?_
    refine sx_iload_n (pc := 90) dX12_size_90 sx_m1 ?_
    refine sx_lconst (pc := 91) (v := 0) dX12_size_91 rfl ?_
    refine sx_lconst (pc := 92) (v := 0) dX12_size_92 rfl ?_
    obtain ⟨V67, g68, h⟩ := sx_bnd h
    refine sv_cV (pc := 93) (y := qX12_put) (o := none) (as := [.int l2, .long (0 : Int64), .long (0 : Int64)]) (V1 := V67) hG dX12_size_93 l_X12_716 y0X12_put yvX12_put rfl (Nat.le_of_ble_eq_true rfl) lay_146 kr_12 (by decide) (Nat.le_of_ble_eq_true rfl) rfl rfl rfl (t_X12_put hG ⟨rfl, rfl⟩ g68) ?_
    refine sx_aload_n (pc := 96) dX12_size_96 sx_m0 ?_
    refine sv_getA (pc := 97) hG dX12_size_97 f_12_82 lay_146 rfl cr_146_50 ?_
    refine sx_iload_n (pc := 100) dX12_size_100 sx_m1 ?_
    refine sx_iconst (pc := 101) (v := 0) dX12_size_101 (by decide) ?_
    obtain ⟨g69, h⟩ := sx_grd h
    obtain ⟨V70, hV70⟩ : ∃ z : sv_V, z = sv_I V67 170 l2.toNatClampNeg (0 : Int32) := ⟨_, rfl⟩
    have h := sx_letE hV70 h
    refine sv_iast (pc := 102) hG dX12_size_102 lay_170 g69 hV70 ?_
    obtain ⟨x71, hx71⟩ : ∃ z : Int32, z = l2 + 1 := ⟨_, rfl⟩
    have h := sx_letE hx71 h
    refine sx_iinc (pc := 103) (v := x71) (lo' := [(2, .int x71), (0, .ref 146)]) dX12_size_103 sx_m1 (by rw [hx71]; rfl) (by decide) rfl ?_
    refine sx_goto (pc := 106) (tgt := 69) dX12_size_106 (by decide) ?_
    refine sx_wk (sx_s1 sx_m1 (sx_s1 sx_m0 sx_s0)) ?_
    exact hk69 _ _ h
theorem tL_X12_size_69 {g : sx_G} (hG : sx_Go g) {P : Option Value → sv_V → Prop} {r : Int32} {Vr : sv_V} (hP : P (some (.int r)) Vr) {N : Nat}   : ∀ (n : Nat) (l2 : Int32) (V : sv_V), sx_lp2 (B_X12_size_69 N ) n l2 V = some (r, Vr) → sv_N g qX12_size 10 69 [(0, .ref 146), (2, .int l2)] [] V P :=
  sx_lp2_ind (fun k0 ih _ V h => tB_X12_size_69 hG hP ih h)
def F_X12_size (N : Nat) (l1 : Int32) (V : sv_V) : Option (Int32 × sv_V) := if (V.1 146 4) = 0 then (some ((-3 : Int32), V)) else ((F_X12_in l1.toInt64 (4 : Int64) (48 : Int64) V).bind (fun (x75, V73) => if x75 = 0 then (some ((-2 : Int32), V73)) else (sx_let (sv_I V73 146 62 l1) (fun V77 => sx_let (sv_I V77 146 108 (0 : Int32)) (fun V78 => sx_let (sv_I V78 146 107 (0 : Int32)) (fun V79 => sx_let (sv_I V79 146 59 (0 : Int32)) (fun V80 => sx_let (sv_I V80 146 58 (0 : Int32)) (fun V81 => sx_let (sv_I V81 146 52 (0 : Int32)) (fun V82 => sx_let (sv_I V82 146 53 (0 : Int32)) (fun V83 => sx_let (sv_I V83 146 98 (0 : Int32)) (fun V84 => sx_lp2 (B_X12_size_69 N ) N (0 : Int32) V84)))))))))))
set_option maxRecDepth 20000 in
theorem t_X12_size {g : sx_G} (hG : sx_Go g) {P : Option Value → sv_V → Prop} {r : Int32} {Vr : sv_V} (hP : P (some (.int r)) Vr) {N : Nat} {l1 : Int32} {V : sv_V} (h : F_X12_size N l1 V = some (r, Vr)) : sv_N g qX12_size 10 0 [(0, .ref 146), (1, .int l1)] [] V P := by
  unfold F_X12_size at h
  refine sx_aload_n (pc := 0) dX12_size_0 sx_m0 ?_
  refine sv_getZ (pc := 1) hG dX12_size_1 f_12_759 lay_146 rfl ?_
  refine sx_if_ne (pc := 4) (tgt := 10) dX12_size_4 (by decide) (fun c72 => ?_) (fun c72 => ?_)
  · have h := sx_neg c72 h
    refine sx_iload_n (pc := 10) dX12_size_10 sx_m1 ?_
    refine sx_i2l (pc := 11) dX12_size_11 ?_
    refine sx_ldc2 (pc := 12) dX12_size_12 k_X12_228 ?_
    refine sx_ldc2 (pc := 15) dX12_size_15 k_X12_762 ?_
    obtain ⟨⟨x75, V73⟩, g74, h⟩ := sx_bnd h
    refine sv_cS (pc := 18) (y := qX12_in) (o := (some (.int x75))) (as := [.long l1.toInt64, .long (4 : Int64), .long (48 : Int64)]) (V1 := V73) dX12_size_18 l_X12_263 y0X12_in ysX12_in rfl (Nat.le_of_ble_eq_true rfl) (by decide) (Nat.le_of_ble_eq_true rfl) rfl rfl rfl (t_X12_in hG ⟨rfl, rfl⟩ g74) ?_
    refine sx_if_ne (pc := 21) (tgt := 27) dX12_size_21 (by decide) (fun c76 => ?_) (fun c76 => ?_)
    · have h := sx_neg c76 h
      refine sx_aload_n (pc := 27) dX12_size_27 sx_m0 ?_
      refine sx_iload_n (pc := 28) dX12_size_28 sx_m1 ?_
      obtain ⟨V77, hV77⟩ : ∃ z : sv_V, z = sv_I V73 146 62 l1 := ⟨_, rfl⟩
      have h := sx_letE hV77 h
      refine sv_putI (pc := 29) hG dX12_size_29 f_12_621 lay_146 rfl hV77 ?_
      refine sx_aload_n (pc := 32) dX12_size_32 sx_m0 ?_
      refine sx_iconst (pc := 33) (v := 0) dX12_size_33 (by decide) ?_
      obtain ⟨V78, hV78⟩ : ∃ z : sv_V, z = sv_I V77 146 108 (0 : Int32) := ⟨_, rfl⟩
      have h := sx_letE hV78 h
      refine sv_putZ (pc := 34) hG dX12_size_34 f_12_764 lay_146 rfl rfl hV78 ?_
      refine sx_aload_n (pc := 37) dX12_size_37 sx_m0 ?_
      refine sx_iconst (pc := 38) (v := 0) dX12_size_38 (by decide) ?_
      obtain ⟨V79, hV79⟩ : ∃ z : sv_V, z = sv_I V78 146 107 (0 : Int32) := ⟨_, rfl⟩
      have h := sx_letE hV79 h
      refine sv_putZ (pc := 39) hG dX12_size_39 f_12_767 lay_146 rfl rfl hV79 ?_
      refine sx_aload_n (pc := 42) dX12_size_42 sx_m0 ?_
      refine sx_iconst (pc := 43) (v := 0) dX12_size_43 (by decide) ?_
      obtain ⟨V80, hV80⟩ : ∃ z : sv_V, z = sv_I V79 146 59 (0 : Int32) := ⟨_, rfl⟩
      have h := sx_letE hV80 h
      refine sv_putI (pc := 44) hG dX12_size_44 f_12_409 lay_146 rfl hV80 ?_
      refine sx_aload_n (pc := 47) dX12_size_47 sx_m0 ?_
      refine sx_iconst (pc := 48) (v := 0) dX12_size_48 (by decide) ?_
      obtain ⟨V81, hV81⟩ : ∃ z : sv_V, z = sv_I V80 146 58 (0 : Int32) := ⟨_, rfl⟩
      have h := sx_letE hV81 h
      refine sv_putI (pc := 49) hG dX12_size_49 f_12_505 lay_146 rfl hV81 ?_
      refine sx_aload_n (pc := 52) dX12_size_52 sx_m0 ?_
      refine sx_iconst (pc := 53) (v := 0) dX12_size_53 (by decide) ?_
      obtain ⟨V82, hV82⟩ : ∃ z : sv_V, z = sv_I V81 146 52 (0 : Int32) := ⟨_, rfl⟩
      have h := sx_letE hV82 h
      refine sv_putI (pc := 54) hG dX12_size_54 f_12_514 lay_146 rfl hV82 ?_
      refine sx_aload_n (pc := 57) dX12_size_57 sx_m0 ?_
      refine sx_iconst (pc := 58) (v := 0) dX12_size_58 (by decide) ?_
      obtain ⟨V83, hV83⟩ : ∃ z : sv_V, z = sv_I V82 146 53 (0 : Int32) := ⟨_, rfl⟩
      have h := sx_letE hV83 h
      refine sv_putI (pc := 59) hG dX12_size_59 f_12_706 lay_146 rfl hV83 ?_
      refine sx_aload_n (pc := 62) dX12_size_62 sx_m0 ?_
      refine sx_iconst (pc := 63) (v := 0) dX12_size_63 (by decide) ?_
      obtain ⟨V84, hV84⟩ : ∃ z : sv_V, z = sv_I V83 146 98 (0 : Int32) := ⟨_, rfl⟩
      have h := sx_letE hV84 h
      refine sv_putI (pc := 64) hG dX12_size_64 f_12_655 lay_146 rfl hV84 ?_
      refine sx_iconst (pc := 67) (v := 0) dX12_size_67 (by decide) ?_
      refine sx_istore_n (pc := 68) (lo' := [(2, .int (0 : Int32)), (0, .ref 146), (1, .int l1)]) dX12_size_68 (by decide) rfl ?_
      refine sx_wk (sx_s1 sx_m1 (sx_s1 sx_m0 sx_s0)) ?_
      exact tL_X12_size_69 hG hP  N _ _ h
    · have h := sx_pos c76 h
      refine sx_bipush (pc := 24) (v := (-2)) dX12_size_24 (by decide) ?_
      exact sv_iret (pc := 26) dX12_size_26 rfl h hP
  · have h := sx_pos c72 h
    refine sx_bipush (pc := 7) (v := (-3)) dX12_size_7 (by decide) ?_
    exact sv_iret (pc := 9) dX12_size_9 rfl h hP
def ncX12_hint : Nat := 3223839384103389818735196920704314266476047886249203619706212852697820433961781402240298916433405789331648693741213226248723971290025827180946472471058212042590216257262550291758263708172228621624751381882181333763118388074371032565230521075489892323873004131865890866152700741820428725813072789651161048827277350925646137000449581664034752869584270716787546966008556124035488233707514412314795919254688786977756055388580916034481072326837748201084946033382799859684641581797221082582894134193681581604445663021258396870833707410894610346221405792985238327798667554650595800435060043855573614712349574089781606959891292414569695171438355731479259940539671014793427694564309526973496567911550978831162003946318306576091123537760904374840010387108463374844537294092288509357994651496511345493578751931612075225219379800088764525690828840365160067130997920685515708527895603692789446361777974177445795570894215904755713046464966700177705084370307338115519977909201288682972690026186071679206419095076929851854564306714758841346345214967702570415238085828987819982262106306090
theorem kcX12_hint : CK cX12_hint ncX12_hint 445 := ⟨by decide +kernel, by decide +kernel⟩
theorem dX12_hint_0 : decode cX12_hint 0 = .ok (.aload_n 0, 1) := dl_o42 kcX12_hint (by decide +kernel)
theorem dX12_hint_1 : decode cX12_hint 1 = .ok (.invokevirtual 816, 3) := dl_o182 kcX12_hint (by decide +kernel)
theorem dX12_hint_4 : decode cX12_hint 4 = .ok (.bipush 102, 2) := dl_o16 kcX12_hint 102 (by decide +kernel) (by decide +kernel)
theorem dX12_hint_6 : decode cX12_hint 6 = .ok (.iload_n 1, 1) := dl_o27 kcX12_hint (by decide +kernel)
theorem dX12_hint_7 : decode cX12_hint 7 = .ok (.imul, 1) := dl_o104 kcX12_hint (by decide +kernel)
theorem dX12_hint_8 : decode cX12_hint 8 = .ok (.istore_n 2, 1) := dl_o61 kcX12_hint (by decide +kernel)
theorem dX12_hint_9 : decode cX12_hint 9 = .ok (.aload_n 0, 1) := dl_o42 kcX12_hint (by decide +kernel)
theorem dX12_hint_10 : decode cX12_hint 10 = .ok (.getfield 146, 3) := dl_o180 kcX12_hint (by decide +kernel)
theorem dX12_hint_13 : decode cX12_hint 13 = .ok (.iload_n 1, 1) := dl_o27 kcX12_hint (by decide +kernel)
theorem dX12_hint_14 : decode cX12_hint 14 = .ok (.iaload, 1) := dl_o46 kcX12_hint (by decide +kernel)
theorem dX12_hint_15 : decode cX12_hint 15 = .ok (.istore_n 3, 1) := dl_o62 kcX12_hint (by decide +kernel)
theorem dX12_hint_16 : decode cX12_hint 16 = .ok (.aload_n 0, 1) := dl_o42 kcX12_hint (by decide +kernel)
theorem dX12_hint_17 : decode cX12_hint 17 = .ok (.iload_n 3, 1) := dl_o29 kcX12_hint (by decide +kernel)
theorem dX12_hint_18 : decode cX12_hint 18 = .ok (.iconst 2, 1) := dl_o5 kcX12_hint (by decide +kernel)
theorem dX12_hint_19 : decode cX12_hint 19 = .ok (.iadd, 1) := dl_o96 kcX12_hint (by decide +kernel)
theorem dX12_hint_20 : decode cX12_hint 20 = .ok (.putfield 514, 3) := dl_o181 kcX12_hint (by decide +kernel)
theorem dX12_hint_23 : decode cX12_hint 23 = .ok (.aload_n 0, 1) := dl_o42 kcX12_hint (by decide +kernel)
theorem dX12_hint_24 : decode cX12_hint 24 = .ok (.aload_n 0, 1) := dl_o42 kcX12_hint (by decide +kernel)
theorem dX12_hint_25 : decode cX12_hint 25 = .ok (.getfield 149, 3) := dl_o180 kcX12_hint (by decide +kernel)
theorem dX12_hint_28 : decode cX12_hint 28 = .ok (.iload_n 1, 1) := dl_o27 kcX12_hint (by decide +kernel)
theorem dX12_hint_29 : decode cX12_hint 29 = .ok (.iaload, 1) := dl_o46 kcX12_hint (by decide +kernel)
theorem dX12_hint_30 : decode cX12_hint 30 = .ok (.putfield 706, 3) := dl_o181 kcX12_hint (by decide +kernel)
theorem dX12_hint_33 : decode cX12_hint 33 = .ok (.iconst 0, 1) := dl_o3 kcX12_hint (by decide +kernel)
theorem dX12_hint_34 : decode cX12_hint 34 = .ok (.istore 4, 2) := dl_o54 kcX12_hint (by decide +kernel)
theorem dX12_hint_36 : decode cX12_hint 36 = .ok (.iload 4, 2) := dl_o21 kcX12_hint (by decide +kernel)
theorem dX12_hint_38 : decode cX12_hint 38 = .ok (.aload_n 0, 1) := dl_o42 kcX12_hint (by decide +kernel)
theorem dX12_hint_39 : decode cX12_hint 39 = .ok (.getfield 706, 3) := dl_o180 kcX12_hint (by decide +kernel)
theorem dX12_hint_42 : decode cX12_hint 42 = .ok (.if_icmp .ge 28, 3) := dl_o162 kcX12_hint 28 (by decide +kernel) (by decide +kernel)
theorem dX12_hint_45 : decode cX12_hint 45 = .ok (.aload_n 0, 1) := dl_o42 kcX12_hint (by decide +kernel)
theorem dX12_hint_46 : decode cX12_hint 46 = .ok (.getfield 88, 3) := dl_o180 kcX12_hint (by decide +kernel)
theorem dX12_hint_49 : decode cX12_hint 49 = .ok (.iload 4, 2) := dl_o21 kcX12_hint (by decide +kernel)
theorem dX12_hint_51 : decode cX12_hint 51 = .ok (.aload_n 0, 1) := dl_o42 kcX12_hint (by decide +kernel)
theorem dX12_hint_52 : decode cX12_hint 52 = .ok (.getfield 161, 3) := dl_o180 kcX12_hint (by decide +kernel)
theorem dX12_hint_55 : decode cX12_hint 55 = .ok (.bipush 20, 2) := dl_o16 kcX12_hint 20 (by decide +kernel) (by decide +kernel)
theorem dX12_hint_57 : decode cX12_hint 57 = .ok (.iload_n 1, 1) := dl_o27 kcX12_hint (by decide +kernel)
theorem dX12_hint_58 : decode cX12_hint 58 = .ok (.imul, 1) := dl_o104 kcX12_hint (by decide +kernel)
theorem dX12_hint_59 : decode cX12_hint 59 = .ok (.iload 4, 2) := dl_o21 kcX12_hint (by decide +kernel)
theorem dX12_hint_61 : decode cX12_hint 61 = .ok (.iadd, 1) := dl_o96 kcX12_hint (by decide +kernel)
theorem dX12_hint_62 : decode cX12_hint 62 = .ok (.iaload, 1) := dl_o46 kcX12_hint (by decide +kernel)
theorem dX12_hint_63 : decode cX12_hint 63 = .ok (.iastore, 1) := dl_o79 kcX12_hint (by decide +kernel)
theorem dX12_hint_64 : decode cX12_hint 64 = .ok (.iinc 4 1, 3) := by decide +kernel
theorem dX12_hint_67 : decode cX12_hint 67 = .ok (.goto (-31), 3) := dl_o167 kcX12_hint 65505 (by decide +kernel) (by decide +kernel)
theorem dX12_hint_70 : decode cX12_hint 70 = .ok (.iconst 0, 1) := dl_o3 kcX12_hint (by decide +kernel)
theorem dX12_hint_71 : decode cX12_hint 71 = .ok (.istore 4, 2) := dl_o54 kcX12_hint (by decide +kernel)
theorem dX12_hint_73 : decode cX12_hint 73 = .ok (.iload 4, 2) := dl_o21 kcX12_hint (by decide +kernel)
theorem dX12_hint_75 : decode cX12_hint 75 = .ok (.iload_n 3, 1) := dl_o29 kcX12_hint (by decide +kernel)
theorem dX12_hint_76 : decode cX12_hint 76 = .ok (.iconst 2, 1) := dl_o5 kcX12_hint (by decide +kernel)
theorem dX12_hint_77 : decode cX12_hint 77 = .ok (.iadd, 1) := dl_o96 kcX12_hint (by decide +kernel)
theorem dX12_hint_78 : decode cX12_hint 78 = .ok (.if_icmp .ge 131, 3) := dl_o162 kcX12_hint 131 (by decide +kernel) (by decide +kernel)
theorem dX12_hint_81 : decode cX12_hint 81 = .ok (.aload_n 0, 1) := dl_o42 kcX12_hint (by decide +kernel)
theorem dX12_hint_82 : decode cX12_hint 82 = .ok (.bipush 102, 2) := dl_o16 kcX12_hint 102 (by decide +kernel) (by decide +kernel)
theorem dX12_hint_84 : decode cX12_hint 84 = .ok (.iload 4, 2) := dl_o21 kcX12_hint (by decide +kernel)
theorem dX12_hint_86 : decode cX12_hint 86 = .ok (.iadd, 1) := dl_o96 kcX12_hint (by decide +kernel)
theorem dX12_hint_87 : decode cX12_hint 87 = .ok (.iload 4, 2) := dl_o21 kcX12_hint (by decide +kernel)
theorem dX12_hint_89 : decode cX12_hint 89 = .ok (.iload_n 3, 1) := dl_o29 kcX12_hint (by decide +kernel)
theorem dX12_hint_90 : decode cX12_hint 90 = .ok (.if_icmp .ge 16, 3) := dl_o162 kcX12_hint 16 (by decide +kernel) (by decide +kernel)
theorem dX12_hint_93 : decode cX12_hint 93 = .ok (.aload_n 0, 1) := dl_o42 kcX12_hint (by decide +kernel)
theorem dX12_hint_94 : decode cX12_hint 94 = .ok (.getfield 152, 3) := dl_o180 kcX12_hint (by decide +kernel)
theorem dX12_hint_97 : decode cX12_hint 97 = .ok (.iload_n 2, 1) := dl_o28 kcX12_hint (by decide +kernel)
theorem dX12_hint_98 : decode cX12_hint 98 = .ok (.iload 4, 2) := dl_o21 kcX12_hint (by decide +kernel)
theorem dX12_hint_100 : decode cX12_hint 100 = .ok (.iadd, 1) := dl_o96 kcX12_hint (by decide +kernel)
theorem dX12_hint_101 : decode cX12_hint 101 = .ok (.iaload, 1) := dl_o46 kcX12_hint (by decide +kernel)
theorem dX12_hint_102 : decode cX12_hint 102 = .ok (.i2l, 1) := dl_o133 kcX12_hint (by decide +kernel)
theorem dX12_hint_103 : decode cX12_hint 103 = .ok (.goto 19, 3) := dl_o167 kcX12_hint 19 (by decide +kernel) (by decide +kernel)
theorem dX12_hint_106 : decode cX12_hint 106 = .ok (.aload_n 0, 1) := dl_o42 kcX12_hint (by decide +kernel)
theorem dX12_hint_107 : decode cX12_hint 107 = .ok (.getfield 164, 3) := dl_o180 kcX12_hint (by decide +kernel)
theorem dX12_hint_110 : decode cX12_hint 110 = .ok (.iconst 4, 1) := dl_o7 kcX12_hint (by decide +kernel)
theorem dX12_hint_111 : decode cX12_hint 111 = .ok (.iload_n 1, 1) := dl_o27 kcX12_hint (by decide +kernel)
theorem dX12_hint_112 : decode cX12_hint 112 = .ok (.imul, 1) := dl_o104 kcX12_hint (by decide +kernel)
theorem dX12_hint_113 : decode cX12_hint 113 = .ok (.iconst 2, 1) := dl_o5 kcX12_hint (by decide +kernel)
theorem dX12_hint_114 : decode cX12_hint 114 = .ok (.iload 4, 2) := dl_o21 kcX12_hint (by decide +kernel)
theorem dX12_hint_116 : decode cX12_hint 116 = .ok (.iload_n 3, 1) := dl_o29 kcX12_hint (by decide +kernel)
theorem dX12_hint_117 : decode cX12_hint 117 = .ok (.isub, 1) := dl_o100 kcX12_hint (by decide +kernel)
theorem dX12_hint_118 : decode cX12_hint 118 = .ok (.imul, 1) := dl_o104 kcX12_hint (by decide +kernel)
theorem dX12_hint_119 : decode cX12_hint 119 = .ok (.iadd, 1) := dl_o96 kcX12_hint (by decide +kernel)
theorem dX12_hint_120 : decode cX12_hint 120 = .ok (.iaload, 1) := dl_o46 kcX12_hint (by decide +kernel)
theorem dX12_hint_121 : decode cX12_hint 121 = .ok (.i2l, 1) := dl_o133 kcX12_hint (by decide +kernel)
theorem dX12_hint_122 : decode cX12_hint 122 = .ok (.iload 4, 2) := dl_o21 kcX12_hint (by decide +kernel)
theorem dX12_hint_124 : decode cX12_hint 124 = .ok (.iload_n 3, 1) := dl_o29 kcX12_hint (by decide +kernel)
theorem dX12_hint_125 : decode cX12_hint 125 = .ok (.if_icmp .ge 16, 3) := dl_o162 kcX12_hint 16 (by decide +kernel) (by decide +kernel)
theorem dX12_hint_128 : decode cX12_hint 128 = .ok (.aload_n 0, 1) := dl_o42 kcX12_hint (by decide +kernel)
theorem dX12_hint_129 : decode cX12_hint 129 = .ok (.getfield 155, 3) := dl_o180 kcX12_hint (by decide +kernel)
theorem dX12_hint_132 : decode cX12_hint 132 = .ok (.iload_n 2, 1) := dl_o28 kcX12_hint (by decide +kernel)
theorem dX12_hint_133 : decode cX12_hint 133 = .ok (.iload 4, 2) := dl_o21 kcX12_hint (by decide +kernel)
theorem dX12_hint_135 : decode cX12_hint 135 = .ok (.iadd, 1) := dl_o96 kcX12_hint (by decide +kernel)
theorem dX12_hint_136 : decode cX12_hint 136 = .ok (.iaload, 1) := dl_o46 kcX12_hint (by decide +kernel)
theorem dX12_hint_137 : decode cX12_hint 137 = .ok (.i2l, 1) := dl_o133 kcX12_hint (by decide +kernel)
theorem dX12_hint_138 : decode cX12_hint 138 = .ok (.goto 21, 3) := dl_o167 kcX12_hint 21 (by decide +kernel) (by decide +kernel)
theorem dX12_hint_141 : decode cX12_hint 141 = .ok (.aload_n 0, 1) := dl_o42 kcX12_hint (by decide +kernel)
theorem dX12_hint_142 : decode cX12_hint 142 = .ok (.getfield 164, 3) := dl_o180 kcX12_hint (by decide +kernel)
theorem dX12_hint_145 : decode cX12_hint 145 = .ok (.iconst 4, 1) := dl_o7 kcX12_hint (by decide +kernel)
theorem dX12_hint_146 : decode cX12_hint 146 = .ok (.iload_n 1, 1) := dl_o27 kcX12_hint (by decide +kernel)
theorem dX12_hint_147 : decode cX12_hint 147 = .ok (.imul, 1) := dl_o104 kcX12_hint (by decide +kernel)
theorem dX12_hint_148 : decode cX12_hint 148 = .ok (.iconst 2, 1) := dl_o5 kcX12_hint (by decide +kernel)
theorem dX12_hint_149 : decode cX12_hint 149 = .ok (.iload 4, 2) := dl_o21 kcX12_hint (by decide +kernel)
theorem dX12_hint_151 : decode cX12_hint 151 = .ok (.iload_n 3, 1) := dl_o29 kcX12_hint (by decide +kernel)
theorem dX12_hint_152 : decode cX12_hint 152 = .ok (.isub, 1) := dl_o100 kcX12_hint (by decide +kernel)
theorem dX12_hint_153 : decode cX12_hint 153 = .ok (.imul, 1) := dl_o104 kcX12_hint (by decide +kernel)
theorem dX12_hint_154 : decode cX12_hint 154 = .ok (.iadd, 1) := dl_o96 kcX12_hint (by decide +kernel)
theorem dX12_hint_155 : decode cX12_hint 155 = .ok (.iconst 1, 1) := dl_o4 kcX12_hint (by decide +kernel)
theorem dX12_hint_156 : decode cX12_hint 156 = .ok (.iadd, 1) := dl_o96 kcX12_hint (by decide +kernel)
theorem dX12_hint_157 : decode cX12_hint 157 = .ok (.iaload, 1) := dl_o46 kcX12_hint (by decide +kernel)
theorem dX12_hint_158 : decode cX12_hint 158 = .ok (.i2l, 1) := dl_o133 kcX12_hint (by decide +kernel)
theorem dX12_hint_159 : decode cX12_hint 159 = .ok (.invokevirtual 716, 3) := dl_o182 kcX12_hint (by decide +kernel)
theorem dX12_hint_162 : decode cX12_hint 162 = .ok (.aload_n 0, 1) := dl_o42 kcX12_hint (by decide +kernel)
theorem dX12_hint_163 : decode cX12_hint 163 = .ok (.getfield 82, 3) := dl_o180 kcX12_hint (by decide +kernel)
theorem dX12_hint_166 : decode cX12_hint 166 = .ok (.bipush 102, 2) := dl_o16 kcX12_hint 102 (by decide +kernel) (by decide +kernel)
theorem dX12_hint_168 : decode cX12_hint 168 = .ok (.iload 4, 2) := dl_o21 kcX12_hint (by decide +kernel)
theorem dX12_hint_170 : decode cX12_hint 170 = .ok (.iadd, 1) := dl_o96 kcX12_hint (by decide +kernel)
theorem dX12_hint_171 : decode cX12_hint 171 = .ok (.iconst 0, 1) := dl_o3 kcX12_hint (by decide +kernel)
theorem dX12_hint_172 : decode cX12_hint 172 = .ok (.iastore, 1) := dl_o79 kcX12_hint (by decide +kernel)
theorem dX12_hint_173 : decode cX12_hint 173 = .ok (.aload_n 0, 1) := dl_o42 kcX12_hint (by decide +kernel)
theorem dX12_hint_174 : decode cX12_hint 174 = .ok (.getfield 85, 3) := dl_o180 kcX12_hint (by decide +kernel)
theorem dX12_hint_177 : decode cX12_hint 177 = .ok (.iload 4, 2) := dl_o21 kcX12_hint (by decide +kernel)
theorem dX12_hint_179 : decode cX12_hint 179 = .ok (.iload 4, 2) := dl_o21 kcX12_hint (by decide +kernel)
theorem dX12_hint_181 : decode cX12_hint 181 = .ok (.iload_n 3, 1) := dl_o29 kcX12_hint (by decide +kernel)
theorem dX12_hint_182 : decode cX12_hint 182 = .ok (.if_icmp .ge 19, 3) := dl_o162 kcX12_hint 19 (by decide +kernel) (by decide +kernel)
theorem dX12_hint_185 : decode cX12_hint 185 = .ok (.aload_n 0, 1) := dl_o42 kcX12_hint (by decide +kernel)
theorem dX12_hint_186 : decode cX12_hint 186 = .ok (.getfield 158, 3) := dl_o180 kcX12_hint (by decide +kernel)
theorem dX12_hint_189 : decode cX12_hint 189 = .ok (.iload_n 2, 1) := dl_o28 kcX12_hint (by decide +kernel)
theorem dX12_hint_190 : decode cX12_hint 190 = .ok (.iload 4, 2) := dl_o21 kcX12_hint (by decide +kernel)
theorem dX12_hint_192 : decode cX12_hint 192 = .ok (.iadd, 1) := dl_o96 kcX12_hint (by decide +kernel)
theorem dX12_hint_193 : decode cX12_hint 193 = .ok (.baload, 1) := dl_o51 kcX12_hint (by decide +kernel)
theorem dX12_hint_194 : decode cX12_hint 194 = .ok (.ifCond .eq 7, 3) := dl_o153 kcX12_hint 7 (by decide +kernel) (by decide +kernel)
theorem dX12_hint_197 : decode cX12_hint 197 = .ok (.iconst 1, 1) := dl_o4 kcX12_hint (by decide +kernel)
theorem dX12_hint_198 : decode cX12_hint 198 = .ok (.goto 4, 3) := dl_o167 kcX12_hint 4 (by decide +kernel) (by decide +kernel)
theorem dX12_hint_201 : decode cX12_hint 201 = .ok (.iconst 0, 1) := dl_o3 kcX12_hint (by decide +kernel)
theorem dX12_hint_202 : decode cX12_hint 202 = .ok (.bastore, 1) := dl_o84 kcX12_hint (by decide +kernel)
theorem dX12_hint_203 : decode cX12_hint 203 = .ok (.iinc 4 1, 3) := by decide +kernel
theorem dX12_hint_206 : decode cX12_hint 206 = .ok (.goto (-133), 3) := dl_o167 kcX12_hint 65403 (by decide +kernel) (by decide +kernel)
theorem dX12_hint_209 : decode cX12_hint 209 = .ok (.aload_n 0, 1) := dl_o42 kcX12_hint (by decide +kernel)
theorem dX12_hint_210 : decode cX12_hint 210 = .ok (.getfield 76, 3) := dl_o180 kcX12_hint (by decide +kernel)
theorem dX12_hint_213 : decode cX12_hint 213 = .ok (.bipush 102, 2) := dl_o16 kcX12_hint 102 (by decide +kernel) (by decide +kernel)
theorem dX12_hint_215 : decode cX12_hint 215 = .ok (.iload_n 3, 1) := dl_o29 kcX12_hint (by decide +kernel)
theorem dX12_hint_216 : decode cX12_hint 216 = .ok (.iadd, 1) := dl_o96 kcX12_hint (by decide +kernel)
theorem dX12_hint_217 : decode cX12_hint 217 = .ok (.aload_n 0, 1) := dl_o42 kcX12_hint (by decide +kernel)
theorem dX12_hint_218 : decode cX12_hint 218 = .ok (.getfield 76, 3) := dl_o180 kcX12_hint (by decide +kernel)
theorem dX12_hint_221 : decode cX12_hint 221 = .ok (.bipush 102, 2) := dl_o16 kcX12_hint 102 (by decide +kernel) (by decide +kernel)
theorem dX12_hint_223 : decode cX12_hint 223 = .ok (.iload_n 3, 1) := dl_o29 kcX12_hint (by decide +kernel)
theorem dX12_hint_224 : decode cX12_hint 224 = .ok (.iadd, 1) := dl_o96 kcX12_hint (by decide +kernel)
theorem dX12_hint_225 : decode cX12_hint 225 = .ok (.iaload, 1) := dl_o46 kcX12_hint (by decide +kernel)
theorem dX12_hint_226 : decode cX12_hint 226 = .ok (.i2l, 1) := dl_o133 kcX12_hint (by decide +kernel)
theorem dX12_hint_227 : decode cX12_hint 227 = .ok (.invokestatic 813, 3) := dl_o184 kcX12_hint (by decide +kernel)
theorem dX12_hint_230 : decode cX12_hint 230 = .ok (.iastore, 1) := dl_o79 kcX12_hint (by decide +kernel)
theorem dX12_hint_231 : decode cX12_hint 231 = .ok (.aload_n 0, 1) := dl_o42 kcX12_hint (by decide +kernel)
theorem dX12_hint_232 : decode cX12_hint 232 = .ok (.getfield 76, 3) := dl_o180 kcX12_hint (by decide +kernel)
theorem dX12_hint_235 : decode cX12_hint 235 = .ok (.bipush 103, 2) := dl_o16 kcX12_hint 103 (by decide +kernel) (by decide +kernel)
theorem dX12_hint_237 : decode cX12_hint 237 = .ok (.iload_n 3, 1) := dl_o29 kcX12_hint (by decide +kernel)
theorem dX12_hint_238 : decode cX12_hint 238 = .ok (.iadd, 1) := dl_o96 kcX12_hint (by decide +kernel)
theorem dX12_hint_239 : decode cX12_hint 239 = .ok (.aload_n 0, 1) := dl_o42 kcX12_hint (by decide +kernel)
theorem dX12_hint_240 : decode cX12_hint 240 = .ok (.getfield 76, 3) := dl_o180 kcX12_hint (by decide +kernel)
theorem dX12_hint_243 : decode cX12_hint 243 = .ok (.bipush 103, 2) := dl_o16 kcX12_hint 103 (by decide +kernel) (by decide +kernel)
theorem dX12_hint_245 : decode cX12_hint 245 = .ok (.iload_n 3, 1) := dl_o29 kcX12_hint (by decide +kernel)
theorem dX12_hint_246 : decode cX12_hint 246 = .ok (.iadd, 1) := dl_o96 kcX12_hint (by decide +kernel)
theorem dX12_hint_247 : decode cX12_hint 247 = .ok (.iaload, 1) := dl_o46 kcX12_hint (by decide +kernel)
theorem dX12_hint_248 : decode cX12_hint 248 = .ok (.i2l, 1) := dl_o133 kcX12_hint (by decide +kernel)
theorem dX12_hint_249 : decode cX12_hint 249 = .ok (.invokestatic 813, 3) := dl_o184 kcX12_hint (by decide +kernel)
theorem dX12_hint_252 : decode cX12_hint 252 = .ok (.iastore, 1) := dl_o79 kcX12_hint (by decide +kernel)
theorem dX12_hint_253 : decode cX12_hint 253 = .ok (.aload_n 0, 1) := dl_o42 kcX12_hint (by decide +kernel)
theorem dX12_hint_254 : decode cX12_hint 254 = .ok (.getfield 94, 3) := dl_o180 kcX12_hint (by decide +kernel)
theorem dX12_hint_257 : decode cX12_hint 257 = .ok (.iconst 2, 1) := dl_o5 kcX12_hint (by decide +kernel)
theorem dX12_hint_258 : decode cX12_hint 258 = .ok (.aload_n 0, 1) := dl_o42 kcX12_hint (by decide +kernel)
theorem dX12_hint_259 : decode cX12_hint 259 = .ok (.getfield 357, 3) := dl_o180 kcX12_hint (by decide +kernel)
theorem dX12_hint_262 : decode cX12_hint 262 = .ok (.iastore, 1) := dl_o79 kcX12_hint (by decide +kernel)
theorem dX12_hint_263 : decode cX12_hint 263 = .ok (.aload_n 0, 1) := dl_o42 kcX12_hint (by decide +kernel)
theorem dX12_hint_264 : decode cX12_hint 264 = .ok (.getfield 97, 3) := dl_o180 kcX12_hint (by decide +kernel)
theorem dX12_hint_267 : decode cX12_hint 267 = .ok (.iconst 2, 1) := dl_o5 kcX12_hint (by decide +kernel)
theorem dX12_hint_268 : decode cX12_hint 268 = .ok (.aload_n 0, 1) := dl_o42 kcX12_hint (by decide +kernel)
theorem dX12_hint_269 : decode cX12_hint 269 = .ok (.getfield 360, 3) := dl_o180 kcX12_hint (by decide +kernel)
theorem dX12_hint_272 : decode cX12_hint 272 = .ok (.iastore, 1) := dl_o79 kcX12_hint (by decide +kernel)
theorem dX12_hint_273 : decode cX12_hint 273 = .ok (.aload_n 0, 1) := dl_o42 kcX12_hint (by decide +kernel)
theorem dX12_hint_274 : decode cX12_hint 274 = .ok (.iconst 2, 1) := dl_o5 kcX12_hint (by decide +kernel)
theorem dX12_hint_275 : decode cX12_hint 275 = .ok (.invokevirtual 770, 3) := dl_o182 kcX12_hint (by decide +kernel)
theorem dX12_hint_278 : decode cX12_hint 278 = .ok (.iconst 0, 1) := dl_o3 kcX12_hint (by decide +kernel)
theorem dX12_hint_279 : decode cX12_hint 279 = .ok (.istore 4, 2) := dl_o54 kcX12_hint (by decide +kernel)
theorem dX12_hint_281 : decode cX12_hint 281 = .ok (.iload 4, 2) := dl_o21 kcX12_hint (by decide +kernel)
theorem dX12_hint_283 : decode cX12_hint 283 = .ok (.iload_n 3, 1) := dl_o29 kcX12_hint (by decide +kernel)
theorem dX12_hint_284 : decode cX12_hint 284 = .ok (.if_icmp .ge 63, 3) := dl_o162 kcX12_hint 63 (by decide +kernel) (by decide +kernel)
theorem dX12_hint_287 : decode cX12_hint 287 = .ok (.aload_n 0, 1) := dl_o42 kcX12_hint (by decide +kernel)
theorem dX12_hint_288 : decode cX12_hint 288 = .ok (.getfield 152, 3) := dl_o180 kcX12_hint (by decide +kernel)
theorem dX12_hint_291 : decode cX12_hint 291 = .ok (.iload_n 2, 1) := dl_o28 kcX12_hint (by decide +kernel)
theorem dX12_hint_292 : decode cX12_hint 292 = .ok (.iload 4, 2) := dl_o21 kcX12_hint (by decide +kernel)
theorem dX12_hint_294 : decode cX12_hint 294 = .ok (.iadd, 1) := dl_o96 kcX12_hint (by decide +kernel)
theorem dX12_hint_295 : decode cX12_hint 295 = .ok (.aload_n 0, 1) := dl_o42 kcX12_hint (by decide +kernel)
theorem dX12_hint_296 : decode cX12_hint 296 = .ok (.getfield 76, 3) := dl_o180 kcX12_hint (by decide +kernel)
theorem dX12_hint_299 : decode cX12_hint 299 = .ok (.bipush 102, 2) := dl_o16 kcX12_hint 102 (by decide +kernel) (by decide +kernel)
theorem dX12_hint_301 : decode cX12_hint 301 = .ok (.iload 4, 2) := dl_o21 kcX12_hint (by decide +kernel)
theorem dX12_hint_303 : decode cX12_hint 303 = .ok (.iadd, 1) := dl_o96 kcX12_hint (by decide +kernel)
theorem dX12_hint_304 : decode cX12_hint 304 = .ok (.iaload, 1) := dl_o46 kcX12_hint (by decide +kernel)
theorem dX12_hint_305 : decode cX12_hint 305 = .ok (.iastore, 1) := dl_o79 kcX12_hint (by decide +kernel)
theorem dX12_hint_306 : decode cX12_hint 306 = .ok (.aload_n 0, 1) := dl_o42 kcX12_hint (by decide +kernel)
theorem dX12_hint_307 : decode cX12_hint 307 = .ok (.getfield 155, 3) := dl_o180 kcX12_hint (by decide +kernel)
theorem dX12_hint_310 : decode cX12_hint 310 = .ok (.iload_n 2, 1) := dl_o28 kcX12_hint (by decide +kernel)
theorem dX12_hint_311 : decode cX12_hint 311 = .ok (.iload 4, 2) := dl_o21 kcX12_hint (by decide +kernel)
theorem dX12_hint_313 : decode cX12_hint 313 = .ok (.iadd, 1) := dl_o96 kcX12_hint (by decide +kernel)
theorem dX12_hint_314 : decode cX12_hint 314 = .ok (.aload_n 0, 1) := dl_o42 kcX12_hint (by decide +kernel)
theorem dX12_hint_315 : decode cX12_hint 315 = .ok (.getfield 79, 3) := dl_o180 kcX12_hint (by decide +kernel)
theorem dX12_hint_318 : decode cX12_hint 318 = .ok (.bipush 102, 2) := dl_o16 kcX12_hint 102 (by decide +kernel) (by decide +kernel)
theorem dX12_hint_320 : decode cX12_hint 320 = .ok (.iload 4, 2) := dl_o21 kcX12_hint (by decide +kernel)
theorem dX12_hint_322 : decode cX12_hint 322 = .ok (.iadd, 1) := dl_o96 kcX12_hint (by decide +kernel)
theorem dX12_hint_323 : decode cX12_hint 323 = .ok (.iaload, 1) := dl_o46 kcX12_hint (by decide +kernel)
theorem dX12_hint_324 : decode cX12_hint 324 = .ok (.iastore, 1) := dl_o79 kcX12_hint (by decide +kernel)
theorem dX12_hint_325 : decode cX12_hint 325 = .ok (.aload_n 0, 1) := dl_o42 kcX12_hint (by decide +kernel)
theorem dX12_hint_326 : decode cX12_hint 326 = .ok (.getfield 158, 3) := dl_o180 kcX12_hint (by decide +kernel)
theorem dX12_hint_329 : decode cX12_hint 329 = .ok (.iload_n 2, 1) := dl_o28 kcX12_hint (by decide +kernel)
theorem dX12_hint_330 : decode cX12_hint 330 = .ok (.iload 4, 2) := dl_o21 kcX12_hint (by decide +kernel)
theorem dX12_hint_332 : decode cX12_hint 332 = .ok (.iadd, 1) := dl_o96 kcX12_hint (by decide +kernel)
theorem dX12_hint_333 : decode cX12_hint 333 = .ok (.aload_n 0, 1) := dl_o42 kcX12_hint (by decide +kernel)
theorem dX12_hint_334 : decode cX12_hint 334 = .ok (.getfield 85, 3) := dl_o180 kcX12_hint (by decide +kernel)
theorem dX12_hint_337 : decode cX12_hint 337 = .ok (.iload 4, 2) := dl_o21 kcX12_hint (by decide +kernel)
theorem dX12_hint_339 : decode cX12_hint 339 = .ok (.baload, 1) := dl_o51 kcX12_hint (by decide +kernel)
theorem dX12_hint_340 : decode cX12_hint 340 = .ok (.bastore, 1) := dl_o84 kcX12_hint (by decide +kernel)
theorem dX12_hint_341 : decode cX12_hint 341 = .ok (.iinc 4 1, 3) := by decide +kernel
theorem dX12_hint_344 : decode cX12_hint 344 = .ok (.goto (-63), 3) := dl_o167 kcX12_hint 65473 (by decide +kernel) (by decide +kernel)
theorem dX12_hint_347 : decode cX12_hint 347 = .ok (.iconst 0, 1) := dl_o3 kcX12_hint (by decide +kernel)
theorem dX12_hint_348 : decode cX12_hint 348 = .ok (.istore 4, 2) := dl_o54 kcX12_hint (by decide +kernel)
theorem dX12_hint_350 : decode cX12_hint 350 = .ok (.iload 4, 2) := dl_o21 kcX12_hint (by decide +kernel)
theorem dX12_hint_352 : decode cX12_hint 352 = .ok (.iconst 2, 1) := dl_o5 kcX12_hint (by decide +kernel)
theorem dX12_hint_353 : decode cX12_hint 353 = .ok (.if_icmp .ge 61, 3) := dl_o162 kcX12_hint 61 (by decide +kernel) (by decide +kernel)
theorem dX12_hint_356 : decode cX12_hint 356 = .ok (.aload_n 0, 1) := dl_o42 kcX12_hint (by decide +kernel)
theorem dX12_hint_357 : decode cX12_hint 357 = .ok (.getfield 164, 3) := dl_o180 kcX12_hint (by decide +kernel)
theorem dX12_hint_360 : decode cX12_hint 360 = .ok (.iconst 4, 1) := dl_o7 kcX12_hint (by decide +kernel)
theorem dX12_hint_361 : decode cX12_hint 361 = .ok (.iload_n 1, 1) := dl_o27 kcX12_hint (by decide +kernel)
theorem dX12_hint_362 : decode cX12_hint 362 = .ok (.imul, 1) := dl_o104 kcX12_hint (by decide +kernel)
theorem dX12_hint_363 : decode cX12_hint 363 = .ok (.iconst 2, 1) := dl_o5 kcX12_hint (by decide +kernel)
theorem dX12_hint_364 : decode cX12_hint 364 = .ok (.iload 4, 2) := dl_o21 kcX12_hint (by decide +kernel)
theorem dX12_hint_366 : decode cX12_hint 366 = .ok (.imul, 1) := dl_o104 kcX12_hint (by decide +kernel)
theorem dX12_hint_367 : decode cX12_hint 367 = .ok (.iadd, 1) := dl_o96 kcX12_hint (by decide +kernel)
theorem dX12_hint_368 : decode cX12_hint 368 = .ok (.aload_n 0, 1) := dl_o42 kcX12_hint (by decide +kernel)
theorem dX12_hint_369 : decode cX12_hint 369 = .ok (.getfield 76, 3) := dl_o180 kcX12_hint (by decide +kernel)
theorem dX12_hint_372 : decode cX12_hint 372 = .ok (.bipush 102, 2) := dl_o16 kcX12_hint 102 (by decide +kernel) (by decide +kernel)
theorem dX12_hint_374 : decode cX12_hint 374 = .ok (.iload_n 3, 1) := dl_o29 kcX12_hint (by decide +kernel)
theorem dX12_hint_375 : decode cX12_hint 375 = .ok (.iadd, 1) := dl_o96 kcX12_hint (by decide +kernel)
theorem dX12_hint_376 : decode cX12_hint 376 = .ok (.iload 4, 2) := dl_o21 kcX12_hint (by decide +kernel)
theorem dX12_hint_378 : decode cX12_hint 378 = .ok (.iadd, 1) := dl_o96 kcX12_hint (by decide +kernel)
theorem dX12_hint_379 : decode cX12_hint 379 = .ok (.iaload, 1) := dl_o46 kcX12_hint (by decide +kernel)
theorem dX12_hint_380 : decode cX12_hint 380 = .ok (.iastore, 1) := dl_o79 kcX12_hint (by decide +kernel)
theorem dX12_hint_381 : decode cX12_hint 381 = .ok (.aload_n 0, 1) := dl_o42 kcX12_hint (by decide +kernel)
theorem dX12_hint_382 : decode cX12_hint 382 = .ok (.getfield 164, 3) := dl_o180 kcX12_hint (by decide +kernel)
theorem dX12_hint_385 : decode cX12_hint 385 = .ok (.iconst 4, 1) := dl_o7 kcX12_hint (by decide +kernel)
theorem dX12_hint_386 : decode cX12_hint 386 = .ok (.iload_n 1, 1) := dl_o27 kcX12_hint (by decide +kernel)
theorem dX12_hint_387 : decode cX12_hint 387 = .ok (.imul, 1) := dl_o104 kcX12_hint (by decide +kernel)
theorem dX12_hint_388 : decode cX12_hint 388 = .ok (.iconst 2, 1) := dl_o5 kcX12_hint (by decide +kernel)
theorem dX12_hint_389 : decode cX12_hint 389 = .ok (.iload 4, 2) := dl_o21 kcX12_hint (by decide +kernel)
theorem dX12_hint_391 : decode cX12_hint 391 = .ok (.imul, 1) := dl_o104 kcX12_hint (by decide +kernel)
theorem dX12_hint_392 : decode cX12_hint 392 = .ok (.iadd, 1) := dl_o96 kcX12_hint (by decide +kernel)
theorem dX12_hint_393 : decode cX12_hint 393 = .ok (.iconst 1, 1) := dl_o4 kcX12_hint (by decide +kernel)
theorem dX12_hint_394 : decode cX12_hint 394 = .ok (.iadd, 1) := dl_o96 kcX12_hint (by decide +kernel)
theorem dX12_hint_395 : decode cX12_hint 395 = .ok (.aload_n 0, 1) := dl_o42 kcX12_hint (by decide +kernel)
theorem dX12_hint_396 : decode cX12_hint 396 = .ok (.getfield 79, 3) := dl_o180 kcX12_hint (by decide +kernel)
theorem dX12_hint_399 : decode cX12_hint 399 = .ok (.bipush 102, 2) := dl_o16 kcX12_hint 102 (by decide +kernel) (by decide +kernel)
theorem dX12_hint_401 : decode cX12_hint 401 = .ok (.iload_n 3, 1) := dl_o29 kcX12_hint (by decide +kernel)
theorem dX12_hint_402 : decode cX12_hint 402 = .ok (.iadd, 1) := dl_o96 kcX12_hint (by decide +kernel)
theorem dX12_hint_403 : decode cX12_hint 403 = .ok (.iload 4, 2) := dl_o21 kcX12_hint (by decide +kernel)
theorem dX12_hint_405 : decode cX12_hint 405 = .ok (.iadd, 1) := dl_o96 kcX12_hint (by decide +kernel)
theorem dX12_hint_406 : decode cX12_hint 406 = .ok (.iaload, 1) := dl_o46 kcX12_hint (by decide +kernel)
theorem dX12_hint_407 : decode cX12_hint 407 = .ok (.iastore, 1) := dl_o79 kcX12_hint (by decide +kernel)
theorem dX12_hint_408 : decode cX12_hint 408 = .ok (.iinc 4 1, 3) := by decide +kernel
theorem dX12_hint_411 : decode cX12_hint 411 = .ok (.goto (-61), 3) := dl_o167 kcX12_hint 65475 (by decide +kernel) (by decide +kernel)
theorem dX12_hint_414 : decode cX12_hint 414 = .ok (.iload_n 1, 1) := dl_o27 kcX12_hint (by decide +kernel)
theorem dX12_hint_415 : decode cX12_hint 415 = .ok (.ifCond .ne 19, 3) := dl_o154 kcX12_hint 19 (by decide +kernel) (by decide +kernel)
theorem dX12_hint_418 : decode cX12_hint 418 = .ok (.aload_n 0, 1) := dl_o42 kcX12_hint (by decide +kernel)
theorem dX12_hint_419 : decode cX12_hint 419 = .ok (.aload_n 0, 1) := dl_o42 kcX12_hint (by decide +kernel)
theorem dX12_hint_420 : decode cX12_hint 420 = .ok (.getfield 739, 3) := dl_o180 kcX12_hint (by decide +kernel)
theorem dX12_hint_423 : decode cX12_hint 423 = .ok (.putfield 798, 3) := dl_o181 kcX12_hint (by decide +kernel)
theorem dX12_hint_426 : decode cX12_hint 426 = .ok (.aload_n 0, 1) := dl_o42 kcX12_hint (by decide +kernel)
theorem dX12_hint_427 : decode cX12_hint 427 = .ok (.aload_n 0, 1) := dl_o42 kcX12_hint (by decide +kernel)
theorem dX12_hint_428 : decode cX12_hint 428 = .ok (.getfield 747, 3) := dl_o180 kcX12_hint (by decide +kernel)
theorem dX12_hint_431 : decode cX12_hint 431 = .ok (.putfield 801, 3) := dl_o181 kcX12_hint (by decide +kernel)
theorem dX12_hint_434 : decode cX12_hint 434 = .ok (.aload_n 0, 1) := dl_o42 kcX12_hint (by decide +kernel)
theorem dX12_hint_435 : decode cX12_hint 435 = .ok (.iconst 0, 1) := dl_o3 kcX12_hint (by decide +kernel)
theorem dX12_hint_436 : decode cX12_hint 436 = .ok (.putfield 514, 3) := dl_o181 kcX12_hint (by decide +kernel)
theorem dX12_hint_439 : decode cX12_hint 439 = .ok (.aload_n 0, 1) := dl_o42 kcX12_hint (by decide +kernel)
theorem dX12_hint_440 : decode cX12_hint 440 = .ok (.iconst 0, 1) := dl_o3 kcX12_hint (by decide +kernel)
theorem dX12_hint_441 : decode cX12_hint 441 = .ok (.putfield 706, 3) := dl_o181 kcX12_hint (by decide +kernel)
theorem dX12_hint_444 : decode cX12_hint 444 = .ok (.return_, 1) := dl_o177 kcX12_hint (by decide +kernel)
def B_X12_hint_202 (N : Nat) (k73 : Int32 → Int32 → Int32 → Int32 → sv_V → Option sv_V) (l1 : Int32) (l2 : Int32) (l3 : Int32) (l4 : Int32) (s1 : Int32) (s2 : Int32) (V : sv_V) : Option sv_V := if sx_in s1 102 = true then if sv_bl s2 = true then sx_let (sv_I V 171 s1.toNatClampNeg s2) (fun V3 => sx_let (l4 + 1) (fun x4 => k73 l1 l2 l3 x4 V3)) else none else none
set_option maxRecDepth 20000 in
theorem tB_X12_hint_202 {g : sx_G} (hG : sx_Go g) {P : Option Value → sv_V → Prop} {Vr : sv_V} (hP : P none Vr) {N : Nat} {k73 : Int32 → Int32 → Int32 → Int32 → sv_V → Option sv_V} (hk73 : ∀ (l1 : Int32) (l2 : Int32) (l3 : Int32) (l4 : Int32) (V : sv_V), k73 l1 l2 l3 l4 V = some Vr → sv_N g qX12_hint 10 73 [(0, .ref 146), (1, .int l1), (2, .int l2), (3, .int l3), (4, .int l4)] [] V P) {l1 : Int32} {l2 : Int32} {l3 : Int32} {l4 : Int32} {s1 : Int32} {s2 : Int32} {V : sv_V} (h : B_X12_hint_202 N k73 l1 l2 l3 l4 s1 s2 V = some Vr) : sv_N g qX12_hint 10 202 [(0, .ref 146), (1, .int l1), (2, .int l2), (3, .int l3), (4, .int l4)] [.int s2, .int s1, .ref 171] V P := by
  unfold B_X12_hint_202 at h
  obtain ⟨g1, h⟩ := sx_grd h
  obtain ⟨g2, h⟩ := sx_grd h
  obtain ⟨V3, hV3⟩ : ∃ z : sv_V, z = sv_I V 171 s1.toNatClampNeg s2 := ⟨_, rfl⟩
  have h := sx_letE hV3 h
  refine sv_zast (pc := 202) hG dX12_hint_202 lay_171 g1 g2 hV3 ?_
  obtain ⟨x4, hx4⟩ : ∃ z : Int32, z = l4 + 1 := ⟨_, rfl⟩
  have h := sx_letE hx4 h
  refine sx_iinc (pc := 203) (v := x4) (lo' := [(4, .int x4), (0, .ref 146), (1, .int l1), (2, .int l2), (3, .int l3)]) dX12_hint_203 sx_m4 (by rw [hx4]; rfl) (by decide) rfl ?_
  refine sx_goto (pc := 206) (tgt := 73) dX12_hint_206 (by decide) ?_
  refine sx_wk (sx_s1 sx_m1 (sx_s1 sx_m2 (sx_s1 sx_m3 (sx_s1 sx_m4 (sx_s1 sx_m0 sx_s0))))) ?_
  exact hk73 _ _ _ _ _ h
def B_X12_hint_201 (N : Nat) (k73 : Int32 → Int32 → Int32 → Int32 → sv_V → Option sv_V) (l1 : Int32) (l2 : Int32) (l3 : Int32) (l4 : Int32) (s1 : Int32) (V : sv_V) : Option sv_V := B_X12_hint_202 N k73 l1 l2 l3 l4 s1 (0 : Int32) V
set_option maxRecDepth 20000 in
theorem tB_X12_hint_201 {g : sx_G} (hG : sx_Go g) {P : Option Value → sv_V → Prop} {Vr : sv_V} (hP : P none Vr) {N : Nat} {k73 : Int32 → Int32 → Int32 → Int32 → sv_V → Option sv_V} (hk73 : ∀ (l1 : Int32) (l2 : Int32) (l3 : Int32) (l4 : Int32) (V : sv_V), k73 l1 l2 l3 l4 V = some Vr → sv_N g qX12_hint 10 73 [(0, .ref 146), (1, .int l1), (2, .int l2), (3, .int l3), (4, .int l4)] [] V P) {l1 : Int32} {l2 : Int32} {l3 : Int32} {l4 : Int32} {s1 : Int32} {V : sv_V} (h : B_X12_hint_201 N k73 l1 l2 l3 l4 s1 V = some Vr) : sv_N g qX12_hint 10 201 [(0, .ref 146), (1, .int l1), (2, .int l2), (3, .int l3), (4, .int l4)] [.int s1, .ref 171] V P := by
  unfold B_X12_hint_201 at h
  refine sx_iconst (pc := 201) (v := 0) dX12_hint_201 (by decide) ?_
  refine sx_wk (sx_s1 sx_m0 (sx_s1 sx_m1 (sx_s1 sx_m2 (sx_s1 sx_m3 (sx_s1 sx_m4 sx_s0))))) ?_
  exact tB_X12_hint_202 hG hP hk73 h
def B_X12_hint_159 (N : Nat) (k73 : Int32 → Int32 → Int32 → Int32 → sv_V → Option sv_V) (l1 : Int32) (l2 : Int32) (l3 : Int32) (l4 : Int32) (s1 : Int32) (s2 : Int64) (s3 : Int64) (V : sv_V) : Option sv_V := (F_X12_put s1 s2 s3 V).bind (fun V5 => if sx_in ((102 : Int32) + l4) 204 = true then sx_let (sv_I V5 170 ((102 : Int32) + l4).toNatClampNeg (0 : Int32)) (fun V8 => if l3 ≤ l4 then (B_X12_hint_201 N k73 l1 l2 l3 l4 l4 V8) else (if sx_in (l2 + l4) 612 = true then if (V8.1 194 (l2 + l4).toNatClampNeg) = 0 then (B_X12_hint_201 N k73 l1 l2 l3 l4 l4 V8) else (B_X12_hint_202 N k73 l1 l2 l3 l4 l4 (1 : Int32) V8) else none)) else none)
set_option maxRecDepth 20000 in
theorem tB_X12_hint_159 {g : sx_G} (hG : sx_Go g) {P : Option Value → sv_V → Prop} {Vr : sv_V} (hP : P none Vr) {N : Nat} {k73 : Int32 → Int32 → Int32 → Int32 → sv_V → Option sv_V} (hk73 : ∀ (l1 : Int32) (l2 : Int32) (l3 : Int32) (l4 : Int32) (V : sv_V), k73 l1 l2 l3 l4 V = some Vr → sv_N g qX12_hint 10 73 [(0, .ref 146), (1, .int l1), (2, .int l2), (3, .int l3), (4, .int l4)] [] V P) {l1 : Int32} {l2 : Int32} {l3 : Int32} {l4 : Int32} {s1 : Int32} {s2 : Int64} {s3 : Int64} {V : sv_V} (h : B_X12_hint_159 N k73 l1 l2 l3 l4 s1 s2 s3 V = some Vr) : sv_N g qX12_hint 10 159 [(0, .ref 146), (1, .int l1), (2, .int l2), (3, .int l3), (4, .int l4)] [.long s3, .long s2, .int s1, .ref 146] V P := by
  unfold B_X12_hint_159 at h
  obtain ⟨V5, g6, h⟩ := sx_bnd h
  refine sv_cV (pc := 159) (y := qX12_put) (o := none) (as := [.int s1, .long s2, .long s3]) (V1 := V5) hG dX12_hint_159 l_X12_716 y0X12_put yvX12_put rfl (Nat.le_of_ble_eq_true rfl) lay_146 kr_12 (by decide) (Nat.le_of_ble_eq_true rfl) rfl rfl rfl (t_X12_put hG ⟨rfl, rfl⟩ g6) ?_
  refine sx_aload_n (pc := 162) dX12_hint_162 sx_m0 ?_
  refine sv_getA (pc := 163) hG dX12_hint_163 f_12_82 lay_146 rfl cr_146_50 ?_
  refine sx_bipush (pc := 166) (v := 102) dX12_hint_166 (by decide) ?_
  refine sx_iload (pc := 168) dX12_hint_168 sx_m4 ?_
  refine sx_iadd (pc := 170) dX12_hint_170 ?_
  refine sx_iconst (pc := 171) (v := 0) dX12_hint_171 (by decide) ?_
  obtain ⟨g7, h⟩ := sx_grd h
  obtain ⟨V8, hV8⟩ : ∃ z : sv_V, z = sv_I V5 170 ((102 : Int32) + l4).toNatClampNeg (0 : Int32) := ⟨_, rfl⟩
  have h := sx_letE hV8 h
  refine sv_iast (pc := 172) hG dX12_hint_172 lay_170 g7 hV8 ?_
  refine sx_aload_n (pc := 173) dX12_hint_173 sx_m0 ?_
  refine sv_getA (pc := 174) hG dX12_hint_174 f_12_85 lay_146 rfl cr_146_51 ?_
  refine sx_iload (pc := 177) dX12_hint_177 sx_m4 ?_
  refine sx_iload (pc := 179) dX12_hint_179 sx_m4 ?_
  refine sx_iload_n (pc := 181) dX12_hint_181 sx_m3 ?_
  refine sx_icmp_ge (pc := 182) (tgt := 201) dX12_hint_182 (by decide) (fun c9 => ?_) (fun c9 => ?_)
  · have h := sx_pos c9 h
    refine sx_wk (sx_s1 sx_m0 (sx_s1 sx_m1 (sx_s1 sx_m2 (sx_s1 sx_m3 (sx_s1 sx_m4 sx_s0))))) ?_
    exact tB_X12_hint_201 hG hP hk73 h
  · have h := sx_neg c9 h
    refine sx_aload_n (pc := 185) dX12_hint_185 sx_m0 ?_
    refine sv_getA (pc := 186) hG dX12_hint_186 f_12_158 lay_146 rfl cr_146_122 ?_
    refine sx_iload_n (pc := 189) dX12_hint_189 sx_m2 ?_
    refine sx_iload (pc := 190) dX12_hint_190 sx_m4 ?_
    refine sx_iadd (pc := 192) dX12_hint_192 ?_
    obtain ⟨g10, h⟩ := sx_grd h
    refine sv_zald (pc := 193) hG dX12_hint_193 lay_194 g10 ?_
    refine sx_if_eq (pc := 194) (tgt := 201) dX12_hint_194 (by decide) (fun c11 => ?_) (fun c11 => ?_)
    · have h := sx_pos c11 h
      refine sx_wk (sx_s1 sx_m0 (sx_s1 sx_m1 (sx_s1 sx_m2 (sx_s1 sx_m3 (sx_s1 sx_m4 sx_s0))))) ?_
      exact tB_X12_hint_201 hG hP hk73 h
    · have h := sx_neg c11 h
      refine sx_iconst (pc := 197) (v := 1) dX12_hint_197 (by decide) ?_
      refine sx_goto (pc := 198) (tgt := 202) dX12_hint_198 (by decide) ?_
      refine sx_wk (sx_s1 sx_m0 (sx_s1 sx_m1 (sx_s1 sx_m2 (sx_s1 sx_m3 (sx_s1 sx_m4 sx_s0))))) ?_
      exact tB_X12_hint_202 hG hP hk73 h
def B_X12_hint_122 (N : Nat) (k73 : Int32 → Int32 → Int32 → Int32 → sv_V → Option sv_V) (l1 : Int32) (l2 : Int32) (l3 : Int32) (l4 : Int32) (s1 : Int32) (s2 : Int64) (V : sv_V) : Option sv_V := if l3 ≤ l4 then (if sx_in ((((4 : Int32) * l1) + ((2 : Int32) * (l4 - l3))) + (1 : Int32)) 24 = true then B_X12_hint_159 N k73 l1 l2 l3 l4 s1 s2 ((V.1 196 ((((4 : Int32) * l1) + ((2 : Int32) * (l4 - l3))) + (1 : Int32)).toNatClampNeg).toInt64) V else none) else (if sx_in (l2 + l4) 612 = true then B_X12_hint_159 N k73 l1 l2 l3 l4 s1 s2 ((V.1 193 (l2 + l4).toNatClampNeg).toInt64) V else none)
set_option maxRecDepth 20000 in
theorem tB_X12_hint_122 {g : sx_G} (hG : sx_Go g) {P : Option Value → sv_V → Prop} {Vr : sv_V} (hP : P none Vr) {N : Nat} {k73 : Int32 → Int32 → Int32 → Int32 → sv_V → Option sv_V} (hk73 : ∀ (l1 : Int32) (l2 : Int32) (l3 : Int32) (l4 : Int32) (V : sv_V), k73 l1 l2 l3 l4 V = some Vr → sv_N g qX12_hint 10 73 [(0, .ref 146), (1, .int l1), (2, .int l2), (3, .int l3), (4, .int l4)] [] V P) {l1 : Int32} {l2 : Int32} {l3 : Int32} {l4 : Int32} {s1 : Int32} {s2 : Int64} {V : sv_V} (h : B_X12_hint_122 N k73 l1 l2 l3 l4 s1 s2 V = some Vr) : sv_N g qX12_hint 10 122 [(0, .ref 146), (1, .int l1), (2, .int l2), (3, .int l3), (4, .int l4)] [.long s2, .int s1, .ref 146] V P := by
  unfold B_X12_hint_122 at h
  refine sx_iload (pc := 122) dX12_hint_122 sx_m4 ?_
  refine sx_iload_n (pc := 124) dX12_hint_124 sx_m3 ?_
  refine sx_icmp_ge (pc := 125) (tgt := 141) dX12_hint_125 (by decide) (fun c12 => ?_) (fun c12 => ?_)
  · have h := sx_pos c12 h
    refine sx_aload_n (pc := 141) dX12_hint_141 sx_m0 ?_
    refine sv_getA (pc := 142) hG dX12_hint_142 f_12_164 lay_146 rfl cr_146_124 ?_
    refine sx_iconst (pc := 145) (v := 4) dX12_hint_145 (by decide) ?_
    refine sx_iload_n (pc := 146) dX12_hint_146 sx_m1 ?_
    refine sx_imul (pc := 147) dX12_hint_147 ?_
    refine sx_iconst (pc := 148) (v := 2) dX12_hint_148 (by decide) ?_
    refine sx_iload (pc := 149) dX12_hint_149 sx_m4 ?_
    refine sx_iload_n (pc := 151) dX12_hint_151 sx_m3 ?_
    refine sx_isub (pc := 152) dX12_hint_152 ?_
    refine sx_imul (pc := 153) dX12_hint_153 ?_
    refine sx_iadd (pc := 154) dX12_hint_154 ?_
    refine sx_iconst (pc := 155) (v := 1) dX12_hint_155 (by decide) ?_
    refine sx_iadd (pc := 156) dX12_hint_156 ?_
    obtain ⟨g13, h⟩ := sx_grd h
    refine sv_iald (pc := 157) hG dX12_hint_157 lay_196 g13 ?_
    refine sx_i2l (pc := 158) dX12_hint_158 ?_
    refine sx_wk (sx_s1 sx_m0 (sx_s1 sx_m1 (sx_s1 sx_m2 (sx_s1 sx_m3 (sx_s1 sx_m4 sx_s0))))) ?_
    exact tB_X12_hint_159 hG hP hk73 h
  · have h := sx_neg c12 h
    refine sx_aload_n (pc := 128) dX12_hint_128 sx_m0 ?_
    refine sv_getA (pc := 129) hG dX12_hint_129 f_12_155 lay_146 rfl cr_146_121 ?_
    refine sx_iload_n (pc := 132) dX12_hint_132 sx_m2 ?_
    refine sx_iload (pc := 133) dX12_hint_133 sx_m4 ?_
    refine sx_iadd (pc := 135) dX12_hint_135 ?_
    obtain ⟨g14, h⟩ := sx_grd h
    refine sv_iald (pc := 136) hG dX12_hint_136 lay_193 g14 ?_
    refine sx_i2l (pc := 137) dX12_hint_137 ?_
    refine sx_goto (pc := 138) (tgt := 159) dX12_hint_138 (by decide) ?_
    refine sx_wk (sx_s1 sx_m0 (sx_s1 sx_m1 (sx_s1 sx_m2 (sx_s1 sx_m3 (sx_s1 sx_m4 sx_s0))))) ?_
    exact tB_X12_hint_159 hG hP hk73 h
def B_X12_hint_434 (N : Nat)   (V : sv_V) : Option sv_V := sx_let (sv_I V 146 52 (0 : Int32)) (fun V15 => sx_let (sv_I V15 146 53 (0 : Int32)) (fun V16 => some V16))
set_option maxRecDepth 20000 in
theorem tB_X12_hint_434 {g : sx_G} (hG : sx_Go g) {P : Option Value → sv_V → Prop} {Vr : sv_V} (hP : P none Vr) {N : Nat}    {V : sv_V} (h : B_X12_hint_434 N   V = some Vr) : sv_N g qX12_hint 10 434 [(0, .ref 146)] [] V P := by
  unfold B_X12_hint_434 at h
  refine sx_aload_n (pc := 434) dX12_hint_434 sx_m0 ?_
  refine sx_iconst (pc := 435) (v := 0) dX12_hint_435 (by decide) ?_
  obtain ⟨V15, hV15⟩ : ∃ z : sv_V, z = sv_I V 146 52 (0 : Int32) := ⟨_, rfl⟩
  have h := sx_letE hV15 h
  refine sv_putI (pc := 436) hG dX12_hint_436 f_12_514 lay_146 rfl hV15 ?_
  refine sx_aload_n (pc := 439) dX12_hint_439 sx_m0 ?_
  refine sx_iconst (pc := 440) (v := 0) dX12_hint_440 (by decide) ?_
  obtain ⟨V16, hV16⟩ : ∃ z : sv_V, z = sv_I V15 146 53 (0 : Int32) := ⟨_, rfl⟩
  have h := sx_letE hV16 h
  refine sv_putI (pc := 441) hG dX12_hint_441 f_12_706 lay_146 rfl hV16 ?_
  exact sv_vret (pc := 444) dX12_hint_444 rfl h hP
def B_X12_hint_350 (N : Nat) (k350 : Int32 → Int32 → Int32 → sv_V → Option sv_V) (l1 : Int32) (l3 : Int32) (l4 : Int32) (V : sv_V) : Option sv_V := if (2 : Int32) ≤ l4 then (if l1 = 0 then (sx_let (sv_I V 146 126 (V.1 146 87)) (fun V19 => sx_let (sv_I V19 146 127 (V19.1 146 88)) (fun V20 => B_X12_hint_434 N   V20))) else (B_X12_hint_434 N   V)) else (if sx_in (((102 : Int32) + l3) + l4) 204 = true then if sx_in (((4 : Int32) * l1) + ((2 : Int32) * l4)) 24 = true then sx_let (sv_I V 196 (((4 : Int32) * l1) + ((2 : Int32) * l4)).toNatClampNeg (V.1 168 (((102 : Int32) + l3) + l4).toNatClampNeg)) (fun V23 => if sx_in (((102 : Int32) + l3) + l4) 204 = true then if sx_in ((((4 : Int32) * l1) + ((2 : Int32) * l4)) + (1 : Int32)) 24 = true then sx_let (sv_I V23 196 ((((4 : Int32) * l1) + ((2 : Int32) * l4)) + (1 : Int32)).toNatClampNeg (V23.1 169 (((102 : Int32) + l3) + l4).toNatClampNeg)) (fun V26 => sx_let (l4 + 1) (fun x27 => k350 l1 l3 x27 V26)) else none else none) else none else none)
set_option maxRecDepth 20000 in
theorem tB_X12_hint_350 {g : sx_G} (hG : sx_Go g) {P : Option Value → sv_V → Prop} {Vr : sv_V} (hP : P none Vr) {N : Nat} {k350 : Int32 → Int32 → Int32 → sv_V → Option sv_V} (hk350 : ∀ (l1 : Int32) (l3 : Int32) (l4 : Int32) (V : sv_V), k350 l1 l3 l4 V = some Vr → sv_N g qX12_hint 10 350 [(0, .ref 146), (1, .int l1), (3, .int l3), (4, .int l4)] [] V P) {l1 : Int32} {l3 : Int32} {l4 : Int32} {V : sv_V} (h : B_X12_hint_350 N k350 l1 l3 l4 V = some Vr) : sv_N g qX12_hint 10 350 [(0, .ref 146), (1, .int l1), (3, .int l3), (4, .int l4)] [] V P := by
  unfold B_X12_hint_350 at h
  refine sx_iload (pc := 350) dX12_hint_350 sx_m3 ?_
  refine sx_iconst (pc := 352) (v := 2) dX12_hint_352 (by decide) ?_
  refine sx_icmp_ge (pc := 353) (tgt := 414) dX12_hint_353 (by decide) (fun c17 => ?_) (fun c17 => ?_)
  · have h := sx_pos c17 h
    refine sx_iload_n (pc := 414) dX12_hint_414 sx_m1 ?_
    refine sx_if_ne (pc := 415) (tgt := 434) dX12_hint_415 (by decide) (fun c18 => ?_) (fun c18 => ?_)
    · have h := sx_neg c18 h
      refine sx_wk (sx_s1 sx_m0 sx_s0) ?_
      exact tB_X12_hint_434 hG hP  h
    · have h := sx_pos c18 h
      refine sx_aload_n (pc := 418) dX12_hint_418 sx_m0 ?_
      refine sx_aload_n (pc := 419) dX12_hint_419 sx_m0 ?_
      refine sv_getI (pc := 420) hG dX12_hint_420 f_12_739 lay_146 rfl ?_
      obtain ⟨V19, hV19⟩ : ∃ z : sv_V, z = sv_I V 146 126 (V.1 146 87) := ⟨_, rfl⟩
      have h := sx_letE hV19 h
      refine sv_putI (pc := 423) hG dX12_hint_423 f_12_798 lay_146 rfl hV19 ?_
      refine sx_aload_n (pc := 426) dX12_hint_426 sx_m0 ?_
      refine sx_aload_n (pc := 427) dX12_hint_427 sx_m0 ?_
      refine sv_getI (pc := 428) hG dX12_hint_428 f_12_747 lay_146 rfl ?_
      obtain ⟨V20, hV20⟩ : ∃ z : sv_V, z = sv_I V19 146 127 (V19.1 146 88) := ⟨_, rfl⟩
      have h := sx_letE hV20 h
      refine sv_putI (pc := 431) hG dX12_hint_431 f_12_801 lay_146 rfl hV20 ?_
      refine sx_wk (sx_s1 sx_m0 sx_s0) ?_
      exact tB_X12_hint_434 hG hP  h
  · have h := sx_neg c17 h
    refine sx_aload_n (pc := 356) dX12_hint_356 sx_m0 ?_
    refine sv_getA (pc := 357) hG dX12_hint_357 f_12_164 lay_146 rfl cr_146_124 ?_
    refine sx_iconst (pc := 360) (v := 4) dX12_hint_360 (by decide) ?_
    refine sx_iload_n (pc := 361) dX12_hint_361 sx_m1 ?_
    refine sx_imul (pc := 362) dX12_hint_362 ?_
    refine sx_iconst (pc := 363) (v := 2) dX12_hint_363 (by decide) ?_
    refine sx_iload (pc := 364) dX12_hint_364 sx_m3 ?_
    refine sx_imul (pc := 366) dX12_hint_366 ?_
    refine sx_iadd (pc := 367) dX12_hint_367 ?_
    refine sx_aload_n (pc := 368) dX12_hint_368 sx_m0 ?_
    refine sv_getA (pc := 369) hG dX12_hint_369 f_12_76 lay_146 rfl cr_146_48 ?_
    refine sx_bipush (pc := 372) (v := 102) dX12_hint_372 (by decide) ?_
    refine sx_iload_n (pc := 374) dX12_hint_374 sx_m2 ?_
    refine sx_iadd (pc := 375) dX12_hint_375 ?_
    refine sx_iload (pc := 376) dX12_hint_376 sx_m3 ?_
    refine sx_iadd (pc := 378) dX12_hint_378 ?_
    obtain ⟨g21, h⟩ := sx_grd h
    refine sv_iald (pc := 379) hG dX12_hint_379 lay_168 g21 ?_
    obtain ⟨g22, h⟩ := sx_grd h
    obtain ⟨V23, hV23⟩ : ∃ z : sv_V, z = sv_I V 196 (((4 : Int32) * l1) + ((2 : Int32) * l4)).toNatClampNeg (V.1 168 (((102 : Int32) + l3) + l4).toNatClampNeg) := ⟨_, rfl⟩
    have h := sx_letE hV23 h
    refine sv_iast (pc := 380) hG dX12_hint_380 lay_196 g22 hV23 ?_
    refine sx_aload_n (pc := 381) dX12_hint_381 sx_m0 ?_
    refine sv_getA (pc := 382) hG dX12_hint_382 f_12_164 lay_146 rfl cr_146_124 ?_
    refine sx_iconst (pc := 385) (v := 4) dX12_hint_385 (by decide) ?_
    refine sx_iload_n (pc := 386) dX12_hint_386 sx_m1 ?_
    refine sx_imul (pc := 387) dX12_hint_387 ?_
    refine sx_iconst (pc := 388) (v := 2) dX12_hint_388 (by decide) ?_
    refine sx_iload (pc := 389) dX12_hint_389 sx_m3 ?_
    refine sx_imul (pc := 391) dX12_hint_391 ?_
    refine sx_iadd (pc := 392) dX12_hint_392 ?_
    refine sx_iconst (pc := 393) (v := 1) dX12_hint_393 (by decide) ?_
    refine sx_iadd (pc := 394) dX12_hint_394 ?_
    refine sx_aload_n (pc := 395) dX12_hint_395 sx_m0 ?_
    refine sv_getA (pc := 396) hG dX12_hint_396 f_12_79 lay_146 rfl cr_146_49 ?_
    refine sx_bipush (pc := 399) (v := 102) dX12_hint_399 (by decide) ?_
    refine sx_iload_n (pc := 401) dX12_hint_401 sx_m2 ?_
    refine sx_iadd (pc := 402) dX12_hint_402 ?_
    refine sx_iload (pc := 403) dX12_hint_403 sx_m3 ?_
    refine sx_iadd (pc := 405) dX12_hint_405 ?_
    obtain ⟨g24, h⟩ := sx_grd h
    refine sv_iald (pc := 406) hG dX12_hint_406 lay_169 g24 ?_
    obtain ⟨g25, h⟩ := sx_grd h
    obtain ⟨V26, hV26⟩ : ∃ z : sv_V, z = sv_I V23 196 ((((4 : Int32) * l1) + ((2 : Int32) * l4)) + (1 : Int32)).toNatClampNeg (V23.1 169 (((102 : Int32) + l3) + l4).toNatClampNeg) := ⟨_, rfl⟩
    have h := sx_letE hV26 h
    refine sv_iast (pc := 407) hG dX12_hint_407 lay_196 g25 hV26 ?_
    obtain ⟨x27, hx27⟩ : ∃ z : Int32, z = l4 + 1 := ⟨_, rfl⟩
    have h := sx_letE hx27 h
    refine sx_iinc (pc := 408) (v := x27) (lo' := [(4, .int x27), (0, .ref 146), (1, .int l1), (3, .int l3)]) dX12_hint_408 sx_m3 (by rw [hx27]; rfl) (by decide) rfl ?_
    refine sx_goto (pc := 411) (tgt := 350) dX12_hint_411 (by decide) ?_
    refine sx_wk (sx_s1 sx_m1 (sx_s1 sx_m2 (sx_s1 sx_m3 (sx_s1 sx_m0 sx_s0)))) ?_
    exact hk350 _ _ _ _ h
theorem tL_X12_hint_350 {g : sx_G} (hG : sx_Go g) {P : Option Value → sv_V → Prop} {Vr : sv_V} (hP : P none Vr) {N : Nat}   : ∀ (n : Nat) (l1 : Int32) (l3 : Int32) (l4 : Int32) (V : sv_V), sx_lp4 (B_X12_hint_350 N ) n l1 l3 l4 V = some Vr → sv_N g qX12_hint 10 350 [(0, .ref 146), (1, .int l1), (3, .int l3), (4, .int l4)] [] V P :=
  sx_lp4_ind (fun k0 ih _ _ _ V h => tB_X12_hint_350 hG hP ih h)
def B_X12_hint_281 (N : Nat) (k281 : Int32 → Int32 → Int32 → Int32 → sv_V → Option sv_V) (l1 : Int32) (l2 : Int32) (l3 : Int32) (l4 : Int32) (V : sv_V) : Option sv_V := if l3 ≤ l4 then (sx_lp4 (B_X12_hint_350 N ) N l1 l3 (0 : Int32) V) else (if sx_in ((102 : Int32) + l4) 204 = true then if sx_in (l2 + l4) 612 = true then sx_let (sv_I V 192 (l2 + l4).toNatClampNeg (V.1 168 ((102 : Int32) + l4).toNatClampNeg)) (fun V31 => if sx_in ((102 : Int32) + l4) 204 = true then if sx_in (l2 + l4) 612 = true then sx_let (sv_I V31 193 (l2 + l4).toNatClampNeg (V31.1 169 ((102 : Int32) + l4).toNatClampNeg)) (fun V34 => if sx_in l4 102 = true then if sx_in (l2 + l4) 612 = true then if sv_bl (V34.1 171 l4.toNatClampNeg) = true then sx_let (sv_I V34 194 (l2 + l4).toNatClampNeg (V34.1 171 l4.toNatClampNeg)) (fun V38 => sx_let (l4 + 1) (fun x39 => k281 l1 l2 l3 x39 V38)) else none else none else none) else none else none) else none else none)
set_option maxRecDepth 20000 in
theorem tB_X12_hint_281 {g : sx_G} (hG : sx_Go g) {P : Option Value → sv_V → Prop} {Vr : sv_V} (hP : P none Vr) {N : Nat} {k281 : Int32 → Int32 → Int32 → Int32 → sv_V → Option sv_V} (hk281 : ∀ (l1 : Int32) (l2 : Int32) (l3 : Int32) (l4 : Int32) (V : sv_V), k281 l1 l2 l3 l4 V = some Vr → sv_N g qX12_hint 10 281 [(0, .ref 146), (1, .int l1), (2, .int l2), (3, .int l3), (4, .int l4)] [] V P) {l1 : Int32} {l2 : Int32} {l3 : Int32} {l4 : Int32} {V : sv_V} (h : B_X12_hint_281 N k281 l1 l2 l3 l4 V = some Vr) : sv_N g qX12_hint 10 281 [(0, .ref 146), (1, .int l1), (2, .int l2), (3, .int l3), (4, .int l4)] [] V P := by
  unfold B_X12_hint_281 at h
  refine sx_iload (pc := 281) dX12_hint_281 sx_m4 ?_
  refine sx_iload_n (pc := 283) dX12_hint_283 sx_m3 ?_
  refine sx_icmp_ge (pc := 284) (tgt := 347) dX12_hint_284 (by decide) (fun c28 => ?_) (fun c28 => ?_)
  · have h := sx_pos c28 h
    refine sx_iconst (pc := 347) (v := 0) dX12_hint_347 (by decide) ?_
    refine sx_istore (pc := 348) (lo' := [(4, .int (0 : Int32)), (0, .ref 146), (1, .int l1), (2, .int l2), (3, .int l3)]) dX12_hint_348 (by decide) rfl ?_
    refine sx_wk (sx_s1 sx_m1 (sx_s1 sx_m2 (sx_s1 sx_m4 (sx_s1 sx_m0 sx_s0)))) ?_
    exact tL_X12_hint_350 hG hP  N _ _ _ _ h
  · have h := sx_neg c28 h
    refine sx_aload_n (pc := 287) dX12_hint_287 sx_m0 ?_
    refine sv_getA (pc := 288) hG dX12_hint_288 f_12_152 lay_146 rfl cr_146_120 ?_
    refine sx_iload_n (pc := 291) dX12_hint_291 sx_m2 ?_
    refine sx_iload (pc := 292) dX12_hint_292 sx_m4 ?_
    refine sx_iadd (pc := 294) dX12_hint_294 ?_
    refine sx_aload_n (pc := 295) dX12_hint_295 sx_m0 ?_
    refine sv_getA (pc := 296) hG dX12_hint_296 f_12_76 lay_146 rfl cr_146_48 ?_
    refine sx_bipush (pc := 299) (v := 102) dX12_hint_299 (by decide) ?_
    refine sx_iload (pc := 301) dX12_hint_301 sx_m4 ?_
    refine sx_iadd (pc := 303) dX12_hint_303 ?_
    obtain ⟨g29, h⟩ := sx_grd h
    refine sv_iald (pc := 304) hG dX12_hint_304 lay_168 g29 ?_
    obtain ⟨g30, h⟩ := sx_grd h
    obtain ⟨V31, hV31⟩ : ∃ z : sv_V, z = sv_I V 192 (l2 + l4).toNatClampNeg (V.1 168 ((102 : Int32) + l4).toNatClampNeg) := ⟨_, rfl⟩
    have h := sx_letE hV31 h
    refine sv_iast (pc := 305) hG dX12_hint_305 lay_192 g30 hV31 ?_
    refine sx_aload_n (pc := 306) dX12_hint_306 sx_m0 ?_
    refine sv_getA (pc := 307) hG dX12_hint_307 f_12_155 lay_146 rfl cr_146_121 ?_
    refine sx_iload_n (pc := 310) dX12_hint_310 sx_m2 ?_
    refine sx_iload (pc := 311) dX12_hint_311 sx_m4 ?_
    refine sx_iadd (pc := 313) dX12_hint_313 ?_
    refine sx_aload_n (pc := 314) dX12_hint_314 sx_m0 ?_
    refine sv_getA (pc := 315) hG dX12_hint_315 f_12_79 lay_146 rfl cr_146_49 ?_
    refine sx_bipush (pc := 318) (v := 102) dX12_hint_318 (by decide) ?_
    refine sx_iload (pc := 320) dX12_hint_320 sx_m4 ?_
    refine sx_iadd (pc := 322) dX12_hint_322 ?_
    obtain ⟨g32, h⟩ := sx_grd h
    refine sv_iald (pc := 323) hG dX12_hint_323 lay_169 g32 ?_
    obtain ⟨g33, h⟩ := sx_grd h
    obtain ⟨V34, hV34⟩ : ∃ z : sv_V, z = sv_I V31 193 (l2 + l4).toNatClampNeg (V31.1 169 ((102 : Int32) + l4).toNatClampNeg) := ⟨_, rfl⟩
    have h := sx_letE hV34 h
    refine sv_iast (pc := 324) hG dX12_hint_324 lay_193 g33 hV34 ?_
    refine sx_aload_n (pc := 325) dX12_hint_325 sx_m0 ?_
    refine sv_getA (pc := 326) hG dX12_hint_326 f_12_158 lay_146 rfl cr_146_122 ?_
    refine sx_iload_n (pc := 329) dX12_hint_329 sx_m2 ?_
    refine sx_iload (pc := 330) dX12_hint_330 sx_m4 ?_
    refine sx_iadd (pc := 332) dX12_hint_332 ?_
    refine sx_aload_n (pc := 333) dX12_hint_333 sx_m0 ?_
    refine sv_getA (pc := 334) hG dX12_hint_334 f_12_85 lay_146 rfl cr_146_51 ?_
    refine sx_iload (pc := 337) dX12_hint_337 sx_m4 ?_
    obtain ⟨g35, h⟩ := sx_grd h
    refine sv_zald (pc := 339) hG dX12_hint_339 lay_171 g35 ?_
    obtain ⟨g36, h⟩ := sx_grd h
    obtain ⟨g37, h⟩ := sx_grd h
    obtain ⟨V38, hV38⟩ : ∃ z : sv_V, z = sv_I V34 194 (l2 + l4).toNatClampNeg (V34.1 171 l4.toNatClampNeg) := ⟨_, rfl⟩
    have h := sx_letE hV38 h
    refine sv_zast (pc := 340) hG dX12_hint_340 lay_194 g36 g37 hV38 ?_
    obtain ⟨x39, hx39⟩ : ∃ z : Int32, z = l4 + 1 := ⟨_, rfl⟩
    have h := sx_letE hx39 h
    refine sx_iinc (pc := 341) (v := x39) (lo' := [(4, .int x39), (0, .ref 146), (1, .int l1), (2, .int l2), (3, .int l3)]) dX12_hint_341 sx_m4 (by rw [hx39]; rfl) (by decide) rfl ?_
    refine sx_goto (pc := 344) (tgt := 281) dX12_hint_344 (by decide) ?_
    refine sx_wk (sx_s1 sx_m1 (sx_s1 sx_m2 (sx_s1 sx_m3 (sx_s1 sx_m4 (sx_s1 sx_m0 sx_s0))))) ?_
    exact hk281 _ _ _ _ _ h
theorem tL_X12_hint_281 {g : sx_G} (hG : sx_Go g) {P : Option Value → sv_V → Prop} {Vr : sv_V} (hP : P none Vr) {N : Nat}   : ∀ (n : Nat) (l1 : Int32) (l2 : Int32) (l3 : Int32) (l4 : Int32) (V : sv_V), sx_lp5 (B_X12_hint_281 N ) n l1 l2 l3 l4 V = some Vr → sv_N g qX12_hint 10 281 [(0, .ref 146), (1, .int l1), (2, .int l2), (3, .int l3), (4, .int l4)] [] V P :=
  sx_lp5_ind (fun k0 ih _ _ _ _ V h => tB_X12_hint_281 hG hP ih h)
def B_X12_hint_73 (N : Nat) (k73 : Int32 → Int32 → Int32 → Int32 → sv_V → Option sv_V) (l1 : Int32) (l2 : Int32) (l3 : Int32) (l4 : Int32) (V : sv_V) : Option sv_V := if (l3 + (2 : Int32)) ≤ l4 then (if sx_in ((102 : Int32) + l3) 204 = true then (F_X12_toPixel ((V.1 168 ((102 : Int32) + l3).toNatClampNeg).toInt64) V).bind (fun (x44, V42) => if sx_in ((102 : Int32) + l3) 204 = true then sx_let (sv_I V42 168 ((102 : Int32) + l3).toNatClampNeg x44) (fun V46 => if sx_in ((103 : Int32) + l3) 204 = true then (F_X12_toPixel ((V46.1 168 ((103 : Int32) + l3).toNatClampNeg).toInt64) V46).bind (fun (x50, V48) => if sx_in ((103 : Int32) + l3) 204 = true then sx_let (sv_I V48 168 ((103 : Int32) + l3).toNatClampNeg x50) (fun V52 => sx_let (sv_I V52 174 (2 : Int32).toNatClampNeg (V52.1 146 31)) (fun V53 => sx_let (sv_I V53 175 (2 : Int32).toNatClampNeg (V53.1 146 32)) (fun V54 => (F_X12_runProgram N (2 : Int32) V54).bind (fun V55 => sx_lp5 (B_X12_hint_281 N ) N l1 l2 l3 (0 : Int32) V55)))) else none) else none) else none) else none) else (if l3 ≤ l4 then (if sx_in (((4 : Int32) * l1) + ((2 : Int32) * (l4 - l3))) 24 = true then B_X12_hint_122 N k73 l1 l2 l3 l4 ((102 : Int32) + l4) ((V.1 196 (((4 : Int32) * l1) + ((2 : Int32) * (l4 - l3))).toNatClampNeg).toInt64) V else none) else (if sx_in (l2 + l4) 612 = true then B_X12_hint_122 N k73 l1 l2 l3 l4 ((102 : Int32) + l4) ((V.1 192 (l2 + l4).toNatClampNeg).toInt64) V else none))
set_option maxRecDepth 20000 in
theorem tB_X12_hint_73 {g : sx_G} (hG : sx_Go g) {P : Option Value → sv_V → Prop} {Vr : sv_V} (hP : P none Vr) {N : Nat} {k73 : Int32 → Int32 → Int32 → Int32 → sv_V → Option sv_V} (hk73 : ∀ (l1 : Int32) (l2 : Int32) (l3 : Int32) (l4 : Int32) (V : sv_V), k73 l1 l2 l3 l4 V = some Vr → sv_N g qX12_hint 10 73 [(0, .ref 146), (1, .int l1), (2, .int l2), (3, .int l3), (4, .int l4)] [] V P) {l1 : Int32} {l2 : Int32} {l3 : Int32} {l4 : Int32} {V : sv_V} (h : B_X12_hint_73 N k73 l1 l2 l3 l4 V = some Vr) : sv_N g qX12_hint 10 73 [(0, .ref 146), (1, .int l1), (2, .int l2), (3, .int l3), (4, .int l4)] [] V P := by
  unfold B_X12_hint_73 at h
  refine sx_iload (pc := 73) dX12_hint_73 sx_m4 ?_
  refine sx_iload_n (pc := 75) dX12_hint_75 sx_m3 ?_
  refine sx_iconst (pc := 76) (v := 2) dX12_hint_76 (by decide) ?_
  refine sx_iadd (pc := 77) dX12_hint_77 ?_
  refine sx_icmp_ge (pc := 78) (tgt := 209) dX12_hint_78 (by decide) (fun c40 => ?_) (fun c40 => ?_)
  · have h := sx_pos c40 h
    refine sx_aload_n (pc := 209) dX12_hint_209 sx_m0 ?_
    refine sv_getA (pc := 210) hG dX12_hint_210 f_12_76 lay_146 rfl cr_146_48 ?_
    refine sx_bipush (pc := 213) (v := 102) dX12_hint_213 (by decide) ?_
    refine sx_iload_n (pc := 215) dX12_hint_215 sx_m3 ?_
    refine sx_iadd (pc := 216) dX12_hint_216 ?_
    refine sx_aload_n (pc := 217) dX12_hint_217 sx_m0 ?_
    refine sv_getA (pc := 218) hG dX12_hint_218 f_12_76 lay_146 rfl cr_146_48 ?_
    refine sx_bipush (pc := 221) (v := 102) dX12_hint_221 (by decide) ?_
    refine sx_iload_n (pc := 223) dX12_hint_223 sx_m3 ?_
    refine sx_iadd (pc := 224) dX12_hint_224 ?_
    obtain ⟨g41, h⟩ := sx_grd h
    refine sv_iald (pc := 225) hG dX12_hint_225 lay_168 g41 ?_
    refine sx_i2l (pc := 226) dX12_hint_226 ?_
    obtain ⟨⟨x44, V42⟩, g43, h⟩ := sx_bnd h
    refine sv_cS (pc := 227) (y := qX12_toPixel) (o := (some (.int x44))) (as := [.long ((V.1 168 ((102 : Int32) + l3).toNatClampNeg).toInt64)]) (V1 := V42) dX12_hint_227 l_X12_813 y0X12_toPixel ysX12_toPixel rfl (Nat.le_of_ble_eq_true rfl) (by decide) (Nat.le_of_ble_eq_true rfl) rfl rfl rfl (t_X12_toPixel hG ⟨rfl, rfl⟩ g43) ?_
    obtain ⟨g45, h⟩ := sx_grd h
    obtain ⟨V46, hV46⟩ : ∃ z : sv_V, z = sv_I V42 168 ((102 : Int32) + l3).toNatClampNeg x44 := ⟨_, rfl⟩
    have h := sx_letE hV46 h
    refine sv_iast (pc := 230) hG dX12_hint_230 lay_168 g45 hV46 ?_
    refine sx_aload_n (pc := 231) dX12_hint_231 sx_m0 ?_
    refine sv_getA (pc := 232) hG dX12_hint_232 f_12_76 lay_146 rfl cr_146_48 ?_
    refine sx_bipush (pc := 235) (v := 103) dX12_hint_235 (by decide) ?_
    refine sx_iload_n (pc := 237) dX12_hint_237 sx_m3 ?_
    refine sx_iadd (pc := 238) dX12_hint_238 ?_
    refine sx_aload_n (pc := 239) dX12_hint_239 sx_m0 ?_
    refine sv_getA (pc := 240) hG dX12_hint_240 f_12_76 lay_146 rfl cr_146_48 ?_
    refine sx_bipush (pc := 243) (v := 103) dX12_hint_243 (by decide) ?_
    refine sx_iload_n (pc := 245) dX12_hint_245 sx_m3 ?_
    refine sx_iadd (pc := 246) dX12_hint_246 ?_
    obtain ⟨g47, h⟩ := sx_grd h
    refine sv_iald (pc := 247) hG dX12_hint_247 lay_168 g47 ?_
    refine sx_i2l (pc := 248) dX12_hint_248 ?_
    obtain ⟨⟨x50, V48⟩, g49, h⟩ := sx_bnd h
    refine sv_cS (pc := 249) (y := qX12_toPixel) (o := (some (.int x50))) (as := [.long ((V46.1 168 ((103 : Int32) + l3).toNatClampNeg).toInt64)]) (V1 := V48) dX12_hint_249 l_X12_813 y0X12_toPixel ysX12_toPixel rfl (Nat.le_of_ble_eq_true rfl) (by decide) (Nat.le_of_ble_eq_true rfl) rfl rfl rfl (t_X12_toPixel hG ⟨rfl, rfl⟩ g49) ?_
    obtain ⟨g51, h⟩ := sx_grd h
    obtain ⟨V52, hV52⟩ : ∃ z : sv_V, z = sv_I V48 168 ((103 : Int32) + l3).toNatClampNeg x50 := ⟨_, rfl⟩
    have h := sx_letE hV52 h
    refine sv_iast (pc := 252) hG dX12_hint_252 lay_168 g51 hV52 ?_
    refine sx_aload_n (pc := 253) dX12_hint_253 sx_m0 ?_
    refine sv_getA (pc := 254) hG dX12_hint_254 f_12_94 lay_146 rfl cr_146_89 ?_
    refine sx_iconst (pc := 257) (v := 2) dX12_hint_257 (by decide) ?_
    refine sx_aload_n (pc := 258) dX12_hint_258 sx_m0 ?_
    refine sv_getI (pc := 259) hG dX12_hint_259 f_12_357 lay_146 rfl ?_
    obtain ⟨V53, hV53⟩ : ∃ z : sv_V, z = sv_I V52 174 (2 : Int32).toNatClampNeg (V52.1 146 31) := ⟨_, rfl⟩
    have h := sx_letE hV53 h
    refine sv_iast (pc := 262) hG dX12_hint_262 lay_174 (by decide) hV53 ?_
    refine sx_aload_n (pc := 263) dX12_hint_263 sx_m0 ?_
    refine sv_getA (pc := 264) hG dX12_hint_264 f_12_97 lay_146 rfl cr_146_90 ?_
    refine sx_iconst (pc := 267) (v := 2) dX12_hint_267 (by decide) ?_
    refine sx_aload_n (pc := 268) dX12_hint_268 sx_m0 ?_
    refine sv_getI (pc := 269) hG dX12_hint_269 f_12_360 lay_146 rfl ?_
    obtain ⟨V54, hV54⟩ : ∃ z : sv_V, z = sv_I V53 175 (2 : Int32).toNatClampNeg (V53.1 146 32) := ⟨_, rfl⟩
    have h := sx_letE hV54 h
    refine sv_iast (pc := 272) hG dX12_hint_272 lay_175 (by decide) hV54 ?_
    refine sx_aload_n (pc := 273) dX12_hint_273 sx_m0 ?_
    refine sx_iconst (pc := 274) (v := 2) dX12_hint_274 (by decide) ?_
    obtain ⟨V55, g56, h⟩ := sx_bnd h
    refine sv_cV (pc := 275) (y := qX12_runProgram) (o := none) (as := [.int (2 : Int32)]) (V1 := V55) hG dX12_hint_275 l_X12_770 y0X12_runProgram yvX12_runProgram rfl (Nat.le_of_ble_eq_true rfl) lay_146 kr_12 (by decide) (Nat.le_of_ble_eq_true rfl) rfl rfl rfl (t_X12_runProgram hG ⟨rfl, rfl⟩ g56) ?_
    refine sx_iconst (pc := 278) (v := 0) dX12_hint_278 (by decide) ?_
    refine sx_istore (pc := 279) (lo' := [(4, .int (0 : Int32)), (0, .ref 146), (1, .int l1), (2, .int l2), (3, .int l3)]) dX12_hint_279 (by decide) rfl ?_
    refine sx_wk (sx_s1 sx_m1 (sx_s1 sx_m2 (sx_s1 sx_m3 (sx_s1 sx_m4 (sx_s1 sx_m0 sx_s0))))) ?_
    exact tL_X12_hint_281 hG hP  N _ _ _ _ _ h
  · have h := sx_neg c40 h
    refine sx_aload_n (pc := 81) dX12_hint_81 sx_m0 ?_
    refine sx_bipush (pc := 82) (v := 102) dX12_hint_82 (by decide) ?_
    refine sx_iload (pc := 84) dX12_hint_84 sx_m4 ?_
    refine sx_iadd (pc := 86) dX12_hint_86 ?_
    refine sx_iload (pc := 87) dX12_hint_87 sx_m4 ?_
    refine sx_iload_n (pc := 89) dX12_hint_89 sx_m3 ?_
    refine sx_icmp_ge (pc := 90) (tgt := 106) dX12_hint_90 (by decide) (fun c57 => ?_) (fun c57 => ?_)
    · have h := sx_pos c57 h
      refine sx_aload_n (pc := 106) dX12_hint_106 sx_m0 ?_
      refine sv_getA (pc := 107) hG dX12_hint_107 f_12_164 lay_146 rfl cr_146_124 ?_
      refine sx_iconst (pc := 110) (v := 4) dX12_hint_110 (by decide) ?_
      refine sx_iload_n (pc := 111) dX12_hint_111 sx_m1 ?_
      refine sx_imul (pc := 112) dX12_hint_112 ?_
      refine sx_iconst (pc := 113) (v := 2) dX12_hint_113 (by decide) ?_
      refine sx_iload (pc := 114) dX12_hint_114 sx_m4 ?_
      refine sx_iload_n (pc := 116) dX12_hint_116 sx_m3 ?_
      refine sx_isub (pc := 117) dX12_hint_117 ?_
      refine sx_imul (pc := 118) dX12_hint_118 ?_
      refine sx_iadd (pc := 119) dX12_hint_119 ?_
      obtain ⟨g58, h⟩ := sx_grd h
      refine sv_iald (pc := 120) hG dX12_hint_120 lay_196 g58 ?_
      refine sx_i2l (pc := 121) dX12_hint_121 ?_
      refine sx_wk (sx_s1 sx_m0 (sx_s1 sx_m1 (sx_s1 sx_m2 (sx_s1 sx_m3 (sx_s1 sx_m4 sx_s0))))) ?_
      exact tB_X12_hint_122 hG hP hk73 h
    · have h := sx_neg c57 h
      refine sx_aload_n (pc := 93) dX12_hint_93 sx_m0 ?_
      refine sv_getA (pc := 94) hG dX12_hint_94 f_12_152 lay_146 rfl cr_146_120 ?_
      refine sx_iload_n (pc := 97) dX12_hint_97 sx_m2 ?_
      refine sx_iload (pc := 98) dX12_hint_98 sx_m4 ?_
      refine sx_iadd (pc := 100) dX12_hint_100 ?_
      obtain ⟨g59, h⟩ := sx_grd h
      refine sv_iald (pc := 101) hG dX12_hint_101 lay_192 g59 ?_
      refine sx_i2l (pc := 102) dX12_hint_102 ?_
      refine sx_goto (pc := 103) (tgt := 122) dX12_hint_103 (by decide) ?_
      refine sx_wk (sx_s1 sx_m0 (sx_s1 sx_m1 (sx_s1 sx_m2 (sx_s1 sx_m3 (sx_s1 sx_m4 sx_s0))))) ?_
      exact tB_X12_hint_122 hG hP hk73 h
theorem tL_X12_hint_73 {g : sx_G} (hG : sx_Go g) {P : Option Value → sv_V → Prop} {Vr : sv_V} (hP : P none Vr) {N : Nat}   : ∀ (n : Nat) (l1 : Int32) (l2 : Int32) (l3 : Int32) (l4 : Int32) (V : sv_V), sx_lp5 (B_X12_hint_73 N ) n l1 l2 l3 l4 V = some Vr → sv_N g qX12_hint 10 73 [(0, .ref 146), (1, .int l1), (2, .int l2), (3, .int l3), (4, .int l4)] [] V P :=
  sx_lp5_ind (fun k0 ih _ _ _ _ V h => tB_X12_hint_73 hG hP ih h)
def B_X12_hint_36 (N : Nat) (k36 : Int32 → Int32 → Int32 → Int32 → sv_V → Option sv_V) (l1 : Int32) (l2 : Int32) (l3 : Int32) (l4 : Int32) (V : sv_V) : Option sv_V := if (V.1 146 53) ≤ l4 then (sx_lp5 (B_X12_hint_73 N ) N l1 l2 l3 (0 : Int32) V) else (if sx_in (((20 : Int32) * l1) + l4) 120 = true then if sx_in l4 20 = true then sx_let (sv_I V 172 l4.toNatClampNeg (V.1 195 (((20 : Int32) * l1) + l4).toNatClampNeg)) (fun V63 => sx_let (l4 + 1) (fun x64 => k36 l1 l2 l3 x64 V63)) else none else none)
set_option maxRecDepth 20000 in
theorem tB_X12_hint_36 {g : sx_G} (hG : sx_Go g) {P : Option Value → sv_V → Prop} {Vr : sv_V} (hP : P none Vr) {N : Nat} {k36 : Int32 → Int32 → Int32 → Int32 → sv_V → Option sv_V} (hk36 : ∀ (l1 : Int32) (l2 : Int32) (l3 : Int32) (l4 : Int32) (V : sv_V), k36 l1 l2 l3 l4 V = some Vr → sv_N g qX12_hint 10 36 [(0, .ref 146), (1, .int l1), (2, .int l2), (3, .int l3), (4, .int l4)] [] V P) {l1 : Int32} {l2 : Int32} {l3 : Int32} {l4 : Int32} {V : sv_V} (h : B_X12_hint_36 N k36 l1 l2 l3 l4 V = some Vr) : sv_N g qX12_hint 10 36 [(0, .ref 146), (1, .int l1), (2, .int l2), (3, .int l3), (4, .int l4)] [] V P := by
  unfold B_X12_hint_36 at h
  refine sx_iload (pc := 36) dX12_hint_36 sx_m4 ?_
  refine sx_aload_n (pc := 38) dX12_hint_38 sx_m0 ?_
  refine sv_getI (pc := 39) hG dX12_hint_39 f_12_706 lay_146 rfl ?_
  refine sx_icmp_ge (pc := 42) (tgt := 70) dX12_hint_42 (by decide) (fun c60 => ?_) (fun c60 => ?_)
  · have h := sx_pos c60 h
    refine sx_iconst (pc := 70) (v := 0) dX12_hint_70 (by decide) ?_
    refine sx_istore (pc := 71) (lo' := [(4, .int (0 : Int32)), (0, .ref 146), (1, .int l1), (2, .int l2), (3, .int l3)]) dX12_hint_71 (by decide) rfl ?_
    refine sx_wk (sx_s1 sx_m1 (sx_s1 sx_m2 (sx_s1 sx_m3 (sx_s1 sx_m4 (sx_s1 sx_m0 sx_s0))))) ?_
    exact tL_X12_hint_73 hG hP  N _ _ _ _ _ h
  · have h := sx_neg c60 h
    refine sx_aload_n (pc := 45) dX12_hint_45 sx_m0 ?_
    refine sv_getA (pc := 46) hG dX12_hint_46 f_12_88 lay_146 rfl cr_146_54 ?_
    refine sx_iload (pc := 49) dX12_hint_49 sx_m4 ?_
    refine sx_aload_n (pc := 51) dX12_hint_51 sx_m0 ?_
    refine sv_getA (pc := 52) hG dX12_hint_52 f_12_161 lay_146 rfl cr_146_123 ?_
    refine sx_bipush (pc := 55) (v := 20) dX12_hint_55 (by decide) ?_
    refine sx_iload_n (pc := 57) dX12_hint_57 sx_m1 ?_
    refine sx_imul (pc := 58) dX12_hint_58 ?_
    refine sx_iload (pc := 59) dX12_hint_59 sx_m4 ?_
    refine sx_iadd (pc := 61) dX12_hint_61 ?_
    obtain ⟨g61, h⟩ := sx_grd h
    refine sv_iald (pc := 62) hG dX12_hint_62 lay_195 g61 ?_
    obtain ⟨g62, h⟩ := sx_grd h
    obtain ⟨V63, hV63⟩ : ∃ z : sv_V, z = sv_I V 172 l4.toNatClampNeg (V.1 195 (((20 : Int32) * l1) + l4).toNatClampNeg) := ⟨_, rfl⟩
    have h := sx_letE hV63 h
    refine sv_iast (pc := 63) hG dX12_hint_63 lay_172 g62 hV63 ?_
    obtain ⟨x64, hx64⟩ : ∃ z : Int32, z = l4 + 1 := ⟨_, rfl⟩
    have h := sx_letE hx64 h
    refine sx_iinc (pc := 64) (v := x64) (lo' := [(4, .int x64), (0, .ref 146), (1, .int l1), (2, .int l2), (3, .int l3)]) dX12_hint_64 sx_m4 (by rw [hx64]; rfl) (by decide) rfl ?_
    refine sx_goto (pc := 67) (tgt := 36) dX12_hint_67 (by decide) ?_
    refine sx_wk (sx_s1 sx_m1 (sx_s1 sx_m2 (sx_s1 sx_m3 (sx_s1 sx_m4 (sx_s1 sx_m0 sx_s0))))) ?_
    exact hk36 _ _ _ _ _ h
theorem tL_X12_hint_36 {g : sx_G} (hG : sx_Go g) {P : Option Value → sv_V → Prop} {Vr : sv_V} (hP : P none Vr) {N : Nat}   : ∀ (n : Nat) (l1 : Int32) (l2 : Int32) (l3 : Int32) (l4 : Int32) (V : sv_V), sx_lp5 (B_X12_hint_36 N ) n l1 l2 l3 l4 V = some Vr → sv_N g qX12_hint 10 36 [(0, .ref 146), (1, .int l1), (2, .int l2), (3, .int l3), (4, .int l4)] [] V P :=
  sx_lp5_ind (fun k0 ih _ _ _ _ V h => tB_X12_hint_36 hG hP ih h)
def F_X12_hint (N : Nat) (l1 : Int32) (V : sv_V) : Option sv_V := (F_X12_bring N  V).bind (fun V65 => sx_let ((102 : Int32) * l1) (fun x67 => if sx_in l1 6 = true then sx_let (V65.1 190 l1.toNatClampNeg) (fun x69 => sx_let (sv_I V65 146 52 (x69 + (2 : Int32))) (fun V70 => if sx_in l1 6 = true then sx_let (sv_I V70 146 53 (V70.1 191 l1.toNatClampNeg)) (fun V72 => sx_lp5 (B_X12_hint_36 N ) N l1 x67 x69 (0 : Int32) V72) else none)) else none))
set_option maxRecDepth 20000 in
theorem t_X12_hint {g : sx_G} (hG : sx_Go g) {P : Option Value → sv_V → Prop} {Vr : sv_V} (hP : P none Vr) {N : Nat} {l1 : Int32} {V : sv_V} (h : F_X12_hint N l1 V = some Vr) : sv_N g qX12_hint 10 0 [(0, .ref 146), (1, .int l1)] [] V P := by
  unfold F_X12_hint at h
  refine sx_aload_n (pc := 0) dX12_hint_0 sx_m0 ?_
  obtain ⟨V65, g66, h⟩ := sx_bnd h
  refine sv_cV (pc := 1) (y := qX12_bring) (o := none) (as := []) (V1 := V65) hG dX12_hint_1 l_X12_816 y0X12_bring yvX12_bring rfl (Nat.le_of_ble_eq_true rfl) lay_146 kr_12 (by decide) (Nat.le_of_ble_eq_true rfl) rfl rfl rfl (t_X12_bring hG ⟨rfl, rfl⟩ g66) ?_
  refine sx_bipush (pc := 4) (v := 102) dX12_hint_4 (by decide) ?_
  refine sx_iload_n (pc := 6) dX12_hint_6 sx_m1 ?_
  refine sx_imul (pc := 7) dX12_hint_7 ?_
  refine sv_tI (fun x67 hx67 => ?_)
  have h := sx_letE hx67 h
  refine sx_istore_n (pc := 8) (lo' := [(2, .int x67), (0, .ref 146), (1, .int l1)]) dX12_hint_8 (by decide) rfl ?_
  refine sx_aload_n (pc := 9) dX12_hint_9 sx_m1 ?_
  refine sv_getA (pc := 10) hG dX12_hint_10 f_12_146 lay_146 rfl cr_146_118 ?_
  refine sx_iload_n (pc := 13) dX12_hint_13 sx_m2 ?_
  obtain ⟨g68, h⟩ := sx_grd h
  refine sv_iald (pc := 14) hG dX12_hint_14 lay_190 g68 ?_
  refine sv_tI (fun x69 hx69 => ?_)
  have h := sx_letE hx69 h
  refine sx_istore_n (pc := 15) (lo' := [(3, .int x69), (2, .int x67), (0, .ref 146), (1, .int l1)]) dX12_hint_15 (by decide) rfl ?_
  refine sx_aload_n (pc := 16) dX12_hint_16 sx_m2 ?_
  refine sx_iload_n (pc := 17) dX12_hint_17 sx_m0 ?_
  refine sx_iconst (pc := 18) (v := 2) dX12_hint_18 (by decide) ?_
  refine sx_iadd (pc := 19) dX12_hint_19 ?_
  obtain ⟨V70, hV70⟩ : ∃ z : sv_V, z = sv_I V65 146 52 (x69 + (2 : Int32)) := ⟨_, rfl⟩
  have h := sx_letE hV70 h
  refine sv_putI (pc := 20) hG dX12_hint_20 f_12_514 lay_146 rfl hV70 ?_
  refine sx_aload_n (pc := 23) dX12_hint_23 sx_m2 ?_
  refine sx_aload_n (pc := 24) dX12_hint_24 sx_m2 ?_
  refine sv_getA (pc := 25) hG dX12_hint_25 f_12_149 lay_146 rfl cr_146_119 ?_
  refine sx_iload_n (pc := 28) dX12_hint_28 sx_m3 ?_
  obtain ⟨g71, h⟩ := sx_grd h
  refine sv_iald (pc := 29) hG dX12_hint_29 lay_191 g71 ?_
  obtain ⟨V72, hV72⟩ : ∃ z : sv_V, z = sv_I V70 146 53 (V70.1 191 l1.toNatClampNeg) := ⟨_, rfl⟩
  have h := sx_letE hV72 h
  refine sv_putI (pc := 30) hG dX12_hint_30 f_12_706 lay_146 rfl hV72 ?_
  refine sx_iconst (pc := 33) (v := 0) dX12_hint_33 (by decide) ?_
  refine sx_istore (pc := 34) (lo' := [(4, .int (0 : Int32)), (3, .int x69), (2, .int x67), (0, .ref 146), (1, .int l1)]) dX12_hint_34 (by decide) rfl ?_
  refine sx_wk (sx_s1 sx_m3 (sx_s1 sx_m4 (sx_s1 sx_m2 (sx_s1 sx_m1 (sx_s1 sx_m0 sx_s0))))) ?_
  exact tL_X12_hint_36 hG hP  N _ _ _ _ _ h
def ncX12_makeGlyph : Nat := 191488639703401796656641733859573997693329379458589060804600311073834484893068861750916955796228368502596096878118935923895720263680298292481274982019599877838472008472950374253113962818667566413364561660791040169609895788676626139282903528745410127063206567585829739362160947943611962453313132172817572300633130285117794017961384800129755090744152519579743529065189484122699796691773360244272173496112888361605932528972469436584042961479060898789878965033195900730099454441902783845292881915445639847937255278524952721364404370465619836174908705516534644379135762331959212440970081369559758541215659249754957345298320682530019965754180174923278495031832546531598924274073184401136684632520967137835773090335748660257997225031493829325537402561042040888647788182047667035175920284961705503373604013658804140083162598802125944358835465604323177551046370196331181788825943854235679730972286628021618035987597586070349539729423748079059660114442429373254788113281767095823885020631473816848886349844640017525614711444336776908854649146848818548446849717378565168044842
theorem kcX12_makeGlyph : CK cX12_makeGlyph ncX12_makeGlyph 442 := ⟨by decide +kernel, by decide +kernel⟩
theorem dX12_makeGlyph_0 : decode cX12_makeGlyph 0 = .ok (.aload_n 0, 1) := dl_o42 kcX12_makeGlyph (by decide +kernel)
theorem dX12_makeGlyph_1 : decode cX12_makeGlyph 1 = .ok (.iload_n 1, 1) := dl_o27 kcX12_makeGlyph (by decide +kernel)
theorem dX12_makeGlyph_2 : decode cX12_makeGlyph 2 = .ok (.invokevirtual 779, 3) := dl_o182 kcX12_makeGlyph (by decide +kernel)
theorem dX12_makeGlyph_5 : decode cX12_makeGlyph 5 = .ok (.istore_n 3, 1) := dl_o62 kcX12_makeGlyph (by decide +kernel)
theorem dX12_makeGlyph_6 : decode cX12_makeGlyph 6 = .ok (.bipush 102, 2) := dl_o16 kcX12_makeGlyph 102 (by decide +kernel) (by decide +kernel)
theorem dX12_makeGlyph_8 : decode cX12_makeGlyph 8 = .ok (.iload_n 2, 1) := dl_o28 kcX12_makeGlyph (by decide +kernel)
theorem dX12_makeGlyph_9 : decode cX12_makeGlyph 9 = .ok (.imul, 1) := dl_o104 kcX12_makeGlyph (by decide +kernel)
theorem dX12_makeGlyph_10 : decode cX12_makeGlyph 10 = .ok (.istore 4, 2) := dl_o54 kcX12_makeGlyph (by decide +kernel)
theorem dX12_makeGlyph_12 : decode cX12_makeGlyph 12 = .ok (.iload_n 3, 1) := dl_o29 kcX12_makeGlyph (by decide +kernel)
theorem dX12_makeGlyph_13 : decode cX12_makeGlyph 13 = .ok (.aload_n 0, 1) := dl_o42 kcX12_makeGlyph (by decide +kernel)
theorem dX12_makeGlyph_14 : decode cX12_makeGlyph 14 = .ok (.iload_n 1, 1) := dl_o27 kcX12_makeGlyph (by decide +kernel)
theorem dX12_makeGlyph_15 : decode cX12_makeGlyph 15 = .ok (.invokevirtual 782, 3) := dl_o182 kcX12_makeGlyph (by decide +kernel)
theorem dX12_makeGlyph_18 : decode cX12_makeGlyph 18 = .ok (.isub, 1) := dl_o100 kcX12_makeGlyph (by decide +kernel)
theorem dX12_makeGlyph_19 : decode cX12_makeGlyph 19 = .ok (.istore 5, 2) := dl_o54 kcX12_makeGlyph (by decide +kernel)
theorem dX12_makeGlyph_21 : decode cX12_makeGlyph 21 = .ok (.aload_n 0, 1) := dl_o42 kcX12_makeGlyph (by decide +kernel)
theorem dX12_makeGlyph_22 : decode cX12_makeGlyph 22 = .ok (.getfield 164, 3) := dl_o180 kcX12_makeGlyph (by decide +kernel)
theorem dX12_makeGlyph_25 : decode cX12_makeGlyph 25 = .ok (.iconst 4, 1) := dl_o7 kcX12_makeGlyph (by decide +kernel)
theorem dX12_makeGlyph_26 : decode cX12_makeGlyph 26 = .ok (.iload_n 2, 1) := dl_o28 kcX12_makeGlyph (by decide +kernel)
theorem dX12_makeGlyph_27 : decode cX12_makeGlyph 27 = .ok (.imul, 1) := dl_o104 kcX12_makeGlyph (by decide +kernel)
theorem dX12_makeGlyph_28 : decode cX12_makeGlyph 28 = .ok (.aload_n 0, 1) := dl_o42 kcX12_makeGlyph (by decide +kernel)
theorem dX12_makeGlyph_29 : decode cX12_makeGlyph 29 = .ok (.iload 5, 2) := dl_o21 kcX12_makeGlyph (by decide +kernel)
theorem dX12_makeGlyph_31 : decode cX12_makeGlyph 31 = .ok (.i2l, 1) := dl_o133 kcX12_makeGlyph (by decide +kernel)
theorem dX12_makeGlyph_32 : decode cX12_makeGlyph 32 = .ok (.invokevirtual 611, 3) := dl_o182 kcX12_makeGlyph (by decide +kernel)
theorem dX12_makeGlyph_35 : decode cX12_makeGlyph 35 = .ok (.iastore, 1) := dl_o79 kcX12_makeGlyph (by decide +kernel)
theorem dX12_makeGlyph_36 : decode cX12_makeGlyph 36 = .ok (.aload_n 0, 1) := dl_o42 kcX12_makeGlyph (by decide +kernel)
theorem dX12_makeGlyph_37 : decode cX12_makeGlyph 37 = .ok (.getfield 164, 3) := dl_o180 kcX12_makeGlyph (by decide +kernel)
theorem dX12_makeGlyph_40 : decode cX12_makeGlyph 40 = .ok (.iconst 4, 1) := dl_o7 kcX12_makeGlyph (by decide +kernel)
theorem dX12_makeGlyph_41 : decode cX12_makeGlyph 41 = .ok (.iload_n 2, 1) := dl_o28 kcX12_makeGlyph (by decide +kernel)
theorem dX12_makeGlyph_42 : decode cX12_makeGlyph 42 = .ok (.imul, 1) := dl_o104 kcX12_makeGlyph (by decide +kernel)
theorem dX12_makeGlyph_43 : decode cX12_makeGlyph 43 = .ok (.iconst 1, 1) := dl_o4 kcX12_makeGlyph (by decide +kernel)
theorem dX12_makeGlyph_44 : decode cX12_makeGlyph 44 = .ok (.iadd, 1) := dl_o96 kcX12_makeGlyph (by decide +kernel)
theorem dX12_makeGlyph_45 : decode cX12_makeGlyph 45 = .ok (.iconst 0, 1) := dl_o3 kcX12_makeGlyph (by decide +kernel)
theorem dX12_makeGlyph_46 : decode cX12_makeGlyph 46 = .ok (.iastore, 1) := dl_o79 kcX12_makeGlyph (by decide +kernel)
theorem dX12_makeGlyph_47 : decode cX12_makeGlyph 47 = .ok (.aload_n 0, 1) := dl_o42 kcX12_makeGlyph (by decide +kernel)
theorem dX12_makeGlyph_48 : decode cX12_makeGlyph 48 = .ok (.getfield 164, 3) := dl_o180 kcX12_makeGlyph (by decide +kernel)
theorem dX12_makeGlyph_51 : decode cX12_makeGlyph 51 = .ok (.iconst 4, 1) := dl_o7 kcX12_makeGlyph (by decide +kernel)
theorem dX12_makeGlyph_52 : decode cX12_makeGlyph 52 = .ok (.iload_n 2, 1) := dl_o28 kcX12_makeGlyph (by decide +kernel)
theorem dX12_makeGlyph_53 : decode cX12_makeGlyph 53 = .ok (.imul, 1) := dl_o104 kcX12_makeGlyph (by decide +kernel)
theorem dX12_makeGlyph_54 : decode cX12_makeGlyph 54 = .ok (.iconst 2, 1) := dl_o5 kcX12_makeGlyph (by decide +kernel)
theorem dX12_makeGlyph_55 : decode cX12_makeGlyph 55 = .ok (.iadd, 1) := dl_o96 kcX12_makeGlyph (by decide +kernel)
theorem dX12_makeGlyph_56 : decode cX12_makeGlyph 56 = .ok (.aload_n 0, 1) := dl_o42 kcX12_makeGlyph (by decide +kernel)
theorem dX12_makeGlyph_57 : decode cX12_makeGlyph 57 = .ok (.iload 5, 2) := dl_o21 kcX12_makeGlyph (by decide +kernel)
theorem dX12_makeGlyph_59 : decode cX12_makeGlyph 59 = .ok (.i2l, 1) := dl_o133 kcX12_makeGlyph (by decide +kernel)
theorem dX12_makeGlyph_60 : decode cX12_makeGlyph 60 = .ok (.aload_n 0, 1) := dl_o42 kcX12_makeGlyph (by decide +kernel)
theorem dX12_makeGlyph_61 : decode cX12_makeGlyph 61 = .ok (.iload_n 1, 1) := dl_o27 kcX12_makeGlyph (by decide +kernel)
theorem dX12_makeGlyph_62 : decode cX12_makeGlyph 62 = .ok (.invokevirtual 785, 3) := dl_o182 kcX12_makeGlyph (by decide +kernel)
theorem dX12_makeGlyph_65 : decode cX12_makeGlyph 65 = .ok (.i2l, 1) := dl_o133 kcX12_makeGlyph (by decide +kernel)
theorem dX12_makeGlyph_66 : decode cX12_makeGlyph 66 = .ok (.ladd, 1) := dl_o97 kcX12_makeGlyph (by decide +kernel)
theorem dX12_makeGlyph_67 : decode cX12_makeGlyph 67 = .ok (.invokevirtual 611, 3) := dl_o182 kcX12_makeGlyph (by decide +kernel)
theorem dX12_makeGlyph_70 : decode cX12_makeGlyph 70 = .ok (.iastore, 1) := dl_o79 kcX12_makeGlyph (by decide +kernel)
theorem dX12_makeGlyph_71 : decode cX12_makeGlyph 71 = .ok (.aload_n 0, 1) := dl_o42 kcX12_makeGlyph (by decide +kernel)
theorem dX12_makeGlyph_72 : decode cX12_makeGlyph 72 = .ok (.getfield 164, 3) := dl_o180 kcX12_makeGlyph (by decide +kernel)
theorem dX12_makeGlyph_75 : decode cX12_makeGlyph 75 = .ok (.iconst 4, 1) := dl_o7 kcX12_makeGlyph (by decide +kernel)
theorem dX12_makeGlyph_76 : decode cX12_makeGlyph 76 = .ok (.iload_n 2, 1) := dl_o28 kcX12_makeGlyph (by decide +kernel)
theorem dX12_makeGlyph_77 : decode cX12_makeGlyph 77 = .ok (.imul, 1) := dl_o104 kcX12_makeGlyph (by decide +kernel)
theorem dX12_makeGlyph_78 : decode cX12_makeGlyph 78 = .ok (.iconst 3, 1) := dl_o6 kcX12_makeGlyph (by decide +kernel)
theorem dX12_makeGlyph_79 : decode cX12_makeGlyph 79 = .ok (.iadd, 1) := dl_o96 kcX12_makeGlyph (by decide +kernel)
theorem dX12_makeGlyph_80 : decode cX12_makeGlyph 80 = .ok (.iconst 0, 1) := dl_o3 kcX12_makeGlyph (by decide +kernel)
theorem dX12_makeGlyph_81 : decode cX12_makeGlyph 81 = .ok (.iastore, 1) := dl_o79 kcX12_makeGlyph (by decide +kernel)
theorem dX12_makeGlyph_82 : decode cX12_makeGlyph 82 = .ok (.aload_n 0, 1) := dl_o42 kcX12_makeGlyph (by decide +kernel)
theorem dX12_makeGlyph_83 : decode cX12_makeGlyph 83 = .ok (.getfield 146, 3) := dl_o180 kcX12_makeGlyph (by decide +kernel)
theorem dX12_makeGlyph_86 : decode cX12_makeGlyph 86 = .ok (.iload_n 2, 1) := dl_o28 kcX12_makeGlyph (by decide +kernel)
theorem dX12_makeGlyph_87 : decode cX12_makeGlyph 87 = .ok (.iconst 0, 1) := dl_o3 kcX12_makeGlyph (by decide +kernel)
theorem dX12_makeGlyph_88 : decode cX12_makeGlyph 88 = .ok (.iastore, 1) := dl_o79 kcX12_makeGlyph (by decide +kernel)
theorem dX12_makeGlyph_89 : decode cX12_makeGlyph 89 = .ok (.aload_n 0, 1) := dl_o42 kcX12_makeGlyph (by decide +kernel)
theorem dX12_makeGlyph_90 : decode cX12_makeGlyph 90 = .ok (.getfield 149, 3) := dl_o180 kcX12_makeGlyph (by decide +kernel)
theorem dX12_makeGlyph_93 : decode cX12_makeGlyph 93 = .ok (.iload_n 2, 1) := dl_o28 kcX12_makeGlyph (by decide +kernel)
theorem dX12_makeGlyph_94 : decode cX12_makeGlyph 94 = .ok (.iconst 0, 1) := dl_o3 kcX12_makeGlyph (by decide +kernel)
theorem dX12_makeGlyph_95 : decode cX12_makeGlyph 95 = .ok (.iastore, 1) := dl_o79 kcX12_makeGlyph (by decide +kernel)
theorem dX12_makeGlyph_96 : decode cX12_makeGlyph 96 = .ok (.aload_n 0, 1) := dl_o42 kcX12_makeGlyph (by decide +kernel)
theorem dX12_makeGlyph_97 : decode cX12_makeGlyph 97 = .ok (.iload_n 1, 1) := dl_o27 kcX12_makeGlyph (by decide +kernel)
theorem dX12_makeGlyph_98 : decode cX12_makeGlyph 98 = .ok (.invokevirtual 278, 3) := dl_o182 kcX12_makeGlyph (by decide +kernel)
theorem dX12_makeGlyph_101 : decode cX12_makeGlyph 101 = .ok (.istore 6, 2) := dl_o54 kcX12_makeGlyph (by decide +kernel)
theorem dX12_makeGlyph_103 : decode cX12_makeGlyph 103 = .ok (.aload_n 0, 1) := dl_o42 kcX12_makeGlyph (by decide +kernel)
theorem dX12_makeGlyph_104 : decode cX12_makeGlyph 104 = .ok (.getfield 348, 3) := dl_o180 kcX12_makeGlyph (by decide +kernel)
theorem dX12_makeGlyph_107 : decode cX12_makeGlyph 107 = .ok (.iconst (-1), 1) := dl_o2 kcX12_makeGlyph (by decide +kernel)
theorem dX12_makeGlyph_108 : decode cX12_makeGlyph 108 = .ok (.if_icmp .ne 43, 3) := dl_o160 kcX12_makeGlyph 43 (by decide +kernel) (by decide +kernel)
theorem dX12_makeGlyph_111 : decode cX12_makeGlyph 111 = .ok (.aload_n 0, 1) := dl_o42 kcX12_makeGlyph (by decide +kernel)
theorem dX12_makeGlyph_112 : decode cX12_makeGlyph 112 = .ok (.getfield 354, 3) := dl_o180 kcX12_makeGlyph (by decide +kernel)
theorem dX12_makeGlyph_115 : decode cX12_makeGlyph 115 = .ok (.istore 7, 2) := dl_o54 kcX12_makeGlyph (by decide +kernel)
theorem dX12_makeGlyph_117 : decode cX12_makeGlyph 117 = .ok (.iconst 0, 1) := dl_o3 kcX12_makeGlyph (by decide +kernel)
theorem dX12_makeGlyph_118 : decode cX12_makeGlyph 118 = .ok (.istore 8, 2) := dl_o54 kcX12_makeGlyph (by decide +kernel)
theorem dX12_makeGlyph_120 : decode cX12_makeGlyph 120 = .ok (.iload 8, 2) := dl_o21 kcX12_makeGlyph (by decide +kernel)
theorem dX12_makeGlyph_122 : decode cX12_makeGlyph 122 = .ok (.iload 7, 2) := dl_o21 kcX12_makeGlyph (by decide +kernel)
theorem dX12_makeGlyph_124 : decode cX12_makeGlyph 124 = .ok (.if_icmp .ge 24, 3) := dl_o162 kcX12_makeGlyph 24 (by decide +kernel) (by decide +kernel)
theorem dX12_makeGlyph_127 : decode cX12_makeGlyph 127 = .ok (.aload_n 0, 1) := dl_o42 kcX12_makeGlyph (by decide +kernel)
theorem dX12_makeGlyph_128 : decode cX12_makeGlyph 128 = .ok (.getfield 409, 3) := dl_o180 kcX12_makeGlyph (by decide +kernel)
theorem dX12_makeGlyph_131 : decode cX12_makeGlyph 131 = .ok (.ifCond .ne 17, 3) := dl_o154 kcX12_makeGlyph 17 (by decide +kernel) (by decide +kernel)
theorem dX12_makeGlyph_134 : decode cX12_makeGlyph 134 = .ok (.aload_n 0, 1) := dl_o42 kcX12_makeGlyph (by decide +kernel)
theorem dX12_makeGlyph_135 : decode cX12_makeGlyph 135 = .ok (.iload_n 1, 1) := dl_o27 kcX12_makeGlyph (by decide +kernel)
theorem dX12_makeGlyph_136 : decode cX12_makeGlyph 136 = .ok (.iload 8, 2) := dl_o21 kcX12_makeGlyph (by decide +kernel)
theorem dX12_makeGlyph_138 : decode cX12_makeGlyph 138 = .ok (.iload_n 2, 1) := dl_o28 kcX12_makeGlyph (by decide +kernel)
theorem dX12_makeGlyph_139 : decode cX12_makeGlyph 139 = .ok (.invokevirtual 788, 3) := dl_o182 kcX12_makeGlyph (by decide +kernel)
theorem dX12_makeGlyph_142 : decode cX12_makeGlyph 142 = .ok (.iinc 8 1, 3) := by decide +kernel
theorem dX12_makeGlyph_145 : decode cX12_makeGlyph 145 = .ok (.goto (-25), 3) := dl_o167 kcX12_makeGlyph 65511 (by decide +kernel) (by decide +kernel)
theorem dX12_makeGlyph_148 : decode cX12_makeGlyph 148 = .ok (.goto 162, 3) := dl_o167 kcX12_makeGlyph 162 (by decide +kernel) (by decide +kernel)
theorem dX12_makeGlyph_151 : decode cX12_makeGlyph 151 = .ok (.aload_n 0, 1) := dl_o42 kcX12_makeGlyph (by decide +kernel)
theorem dX12_makeGlyph_152 : decode cX12_makeGlyph 152 = .ok (.getfield 146, 3) := dl_o180 kcX12_makeGlyph (by decide +kernel)
theorem dX12_makeGlyph_155 : decode cX12_makeGlyph 155 = .ok (.iload_n 2, 1) := dl_o28 kcX12_makeGlyph (by decide +kernel)
theorem dX12_makeGlyph_156 : decode cX12_makeGlyph 156 = .ok (.aload_n 0, 1) := dl_o42 kcX12_makeGlyph (by decide +kernel)
theorem dX12_makeGlyph_157 : decode cX12_makeGlyph 157 = .ok (.getfield 351, 3) := dl_o180 kcX12_makeGlyph (by decide +kernel)
theorem dX12_makeGlyph_160 : decode cX12_makeGlyph 160 = .ok (.iastore, 1) := dl_o79 kcX12_makeGlyph (by decide +kernel)
theorem dX12_makeGlyph_161 : decode cX12_makeGlyph 161 = .ok (.aload_n 0, 1) := dl_o42 kcX12_makeGlyph (by decide +kernel)
theorem dX12_makeGlyph_162 : decode cX12_makeGlyph 162 = .ok (.getfield 149, 3) := dl_o180 kcX12_makeGlyph (by decide +kernel)
theorem dX12_makeGlyph_165 : decode cX12_makeGlyph 165 = .ok (.iload_n 2, 1) := dl_o28 kcX12_makeGlyph (by decide +kernel)
theorem dX12_makeGlyph_166 : decode cX12_makeGlyph 166 = .ok (.aload_n 0, 1) := dl_o42 kcX12_makeGlyph (by decide +kernel)
theorem dX12_makeGlyph_167 : decode cX12_makeGlyph 167 = .ok (.getfield 351, 3) := dl_o180 kcX12_makeGlyph (by decide +kernel)
theorem dX12_makeGlyph_170 : decode cX12_makeGlyph 170 = .ok (.ifCond .ne 7, 3) := dl_o154 kcX12_makeGlyph 7 (by decide +kernel) (by decide +kernel)
theorem dX12_makeGlyph_173 : decode cX12_makeGlyph 173 = .ok (.iconst 0, 1) := dl_o3 kcX12_makeGlyph (by decide +kernel)
theorem dX12_makeGlyph_174 : decode cX12_makeGlyph 174 = .ok (.goto 7, 3) := dl_o167 kcX12_makeGlyph 7 (by decide +kernel) (by decide +kernel)
theorem dX12_makeGlyph_177 : decode cX12_makeGlyph 177 = .ok (.aload_n 0, 1) := dl_o42 kcX12_makeGlyph (by decide +kernel)
theorem dX12_makeGlyph_178 : decode cX12_makeGlyph 178 = .ok (.getfield 348, 3) := dl_o180 kcX12_makeGlyph (by decide +kernel)
theorem dX12_makeGlyph_181 : decode cX12_makeGlyph 181 = .ok (.iastore, 1) := dl_o79 kcX12_makeGlyph (by decide +kernel)
theorem dX12_makeGlyph_182 : decode cX12_makeGlyph 182 = .ok (.iconst 0, 1) := dl_o3 kcX12_makeGlyph (by decide +kernel)
theorem dX12_makeGlyph_183 : decode cX12_makeGlyph 183 = .ok (.istore 7, 2) := dl_o54 kcX12_makeGlyph (by decide +kernel)
theorem dX12_makeGlyph_185 : decode cX12_makeGlyph 185 = .ok (.iload 7, 2) := dl_o21 kcX12_makeGlyph (by decide +kernel)
theorem dX12_makeGlyph_187 : decode cX12_makeGlyph 187 = .ok (.aload_n 0, 1) := dl_o42 kcX12_makeGlyph (by decide +kernel)
theorem dX12_makeGlyph_188 : decode cX12_makeGlyph 188 = .ok (.getfield 149, 3) := dl_o180 kcX12_makeGlyph (by decide +kernel)
theorem dX12_makeGlyph_191 : decode cX12_makeGlyph 191 = .ok (.iload_n 2, 1) := dl_o28 kcX12_makeGlyph (by decide +kernel)
theorem dX12_makeGlyph_192 : decode cX12_makeGlyph 192 = .ok (.iaload, 1) := dl_o46 kcX12_makeGlyph (by decide +kernel)
theorem dX12_makeGlyph_193 : decode cX12_makeGlyph 193 = .ok (.if_icmp .ge 28, 3) := dl_o162 kcX12_makeGlyph 28 (by decide +kernel) (by decide +kernel)
theorem dX12_makeGlyph_196 : decode cX12_makeGlyph 196 = .ok (.aload_n 0, 1) := dl_o42 kcX12_makeGlyph (by decide +kernel)
theorem dX12_makeGlyph_197 : decode cX12_makeGlyph 197 = .ok (.getfield 161, 3) := dl_o180 kcX12_makeGlyph (by decide +kernel)
theorem dX12_makeGlyph_200 : decode cX12_makeGlyph 200 = .ok (.bipush 20, 2) := dl_o16 kcX12_makeGlyph 20 (by decide +kernel) (by decide +kernel)
theorem dX12_makeGlyph_202 : decode cX12_makeGlyph 202 = .ok (.iload_n 2, 1) := dl_o28 kcX12_makeGlyph (by decide +kernel)
theorem dX12_makeGlyph_203 : decode cX12_makeGlyph 203 = .ok (.imul, 1) := dl_o104 kcX12_makeGlyph (by decide +kernel)
theorem dX12_makeGlyph_204 : decode cX12_makeGlyph 204 = .ok (.iload 7, 2) := dl_o21 kcX12_makeGlyph (by decide +kernel)
theorem dX12_makeGlyph_206 : decode cX12_makeGlyph 206 = .ok (.iadd, 1) := dl_o96 kcX12_makeGlyph (by decide +kernel)
theorem dX12_makeGlyph_207 : decode cX12_makeGlyph 207 = .ok (.aload_n 0, 1) := dl_o42 kcX12_makeGlyph (by decide +kernel)
theorem dX12_makeGlyph_208 : decode cX12_makeGlyph 208 = .ok (.getfield 30, 3) := dl_o180 kcX12_makeGlyph (by decide +kernel)
theorem dX12_makeGlyph_211 : decode cX12_makeGlyph 211 = .ok (.iload 7, 2) := dl_o21 kcX12_makeGlyph (by decide +kernel)
theorem dX12_makeGlyph_213 : decode cX12_makeGlyph 213 = .ok (.iaload, 1) := dl_o46 kcX12_makeGlyph (by decide +kernel)
theorem dX12_makeGlyph_214 : decode cX12_makeGlyph 214 = .ok (.iastore, 1) := dl_o79 kcX12_makeGlyph (by decide +kernel)
theorem dX12_makeGlyph_215 : decode cX12_makeGlyph 215 = .ok (.iinc 7 1, 3) := by decide +kernel
theorem dX12_makeGlyph_218 : decode cX12_makeGlyph 218 = .ok (.goto (-33), 3) := dl_o167 kcX12_makeGlyph 65503 (by decide +kernel) (by decide +kernel)
theorem dX12_makeGlyph_221 : decode cX12_makeGlyph 221 = .ok (.iconst 0, 1) := dl_o3 kcX12_makeGlyph (by decide +kernel)
theorem dX12_makeGlyph_222 : decode cX12_makeGlyph 222 = .ok (.istore 7, 2) := dl_o54 kcX12_makeGlyph (by decide +kernel)
theorem dX12_makeGlyph_224 : decode cX12_makeGlyph 224 = .ok (.iload 7, 2) := dl_o21 kcX12_makeGlyph (by decide +kernel)
theorem dX12_makeGlyph_226 : decode cX12_makeGlyph 226 = .ok (.aload_n 0, 1) := dl_o42 kcX12_makeGlyph (by decide +kernel)
theorem dX12_makeGlyph_227 : decode cX12_makeGlyph 227 = .ok (.getfield 351, 3) := dl_o180 kcX12_makeGlyph (by decide +kernel)
theorem dX12_makeGlyph_230 : decode cX12_makeGlyph 230 = .ok (.if_icmp .ge 80, 3) := dl_o162 kcX12_makeGlyph 80 (by decide +kernel) (by decide +kernel)
theorem dX12_makeGlyph_233 : decode cX12_makeGlyph 233 = .ok (.aload_n 0, 1) := dl_o42 kcX12_makeGlyph (by decide +kernel)
theorem dX12_makeGlyph_234 : decode cX12_makeGlyph 234 = .ok (.getfield 152, 3) := dl_o180 kcX12_makeGlyph (by decide +kernel)
theorem dX12_makeGlyph_237 : decode cX12_makeGlyph 237 = .ok (.iload 4, 2) := dl_o21 kcX12_makeGlyph (by decide +kernel)
theorem dX12_makeGlyph_239 : decode cX12_makeGlyph 239 = .ok (.iload 7, 2) := dl_o21 kcX12_makeGlyph (by decide +kernel)
theorem dX12_makeGlyph_241 : decode cX12_makeGlyph 241 = .ok (.iadd, 1) := dl_o96 kcX12_makeGlyph (by decide +kernel)
theorem dX12_makeGlyph_242 : decode cX12_makeGlyph 242 = .ok (.aload_n 0, 1) := dl_o42 kcX12_makeGlyph (by decide +kernel)
theorem dX12_makeGlyph_243 : decode cX12_makeGlyph 243 = .ok (.aload_n 0, 1) := dl_o42 kcX12_makeGlyph (by decide +kernel)
theorem dX12_makeGlyph_244 : decode cX12_makeGlyph 244 = .ok (.getfield 33, 3) := dl_o180 kcX12_makeGlyph (by decide +kernel)
theorem dX12_makeGlyph_247 : decode cX12_makeGlyph 247 = .ok (.iload 7, 2) := dl_o21 kcX12_makeGlyph (by decide +kernel)
theorem dX12_makeGlyph_249 : decode cX12_makeGlyph 249 = .ok (.iaload, 1) := dl_o46 kcX12_makeGlyph (by decide +kernel)
theorem dX12_makeGlyph_250 : decode cX12_makeGlyph 250 = .ok (.i2l, 1) := dl_o133 kcX12_makeGlyph (by decide +kernel)
theorem dX12_makeGlyph_251 : decode cX12_makeGlyph 251 = .ok (.invokevirtual 611, 3) := dl_o182 kcX12_makeGlyph (by decide +kernel)
theorem dX12_makeGlyph_254 : decode cX12_makeGlyph 254 = .ok (.iastore, 1) := dl_o79 kcX12_makeGlyph (by decide +kernel)
theorem dX12_makeGlyph_255 : decode cX12_makeGlyph 255 = .ok (.aload_n 0, 1) := dl_o42 kcX12_makeGlyph (by decide +kernel)
theorem dX12_makeGlyph_256 : decode cX12_makeGlyph 256 = .ok (.getfield 155, 3) := dl_o180 kcX12_makeGlyph (by decide +kernel)
theorem dX12_makeGlyph_259 : decode cX12_makeGlyph 259 = .ok (.iload 4, 2) := dl_o21 kcX12_makeGlyph (by decide +kernel)
theorem dX12_makeGlyph_261 : decode cX12_makeGlyph 261 = .ok (.iload 7, 2) := dl_o21 kcX12_makeGlyph (by decide +kernel)
theorem dX12_makeGlyph_263 : decode cX12_makeGlyph 263 = .ok (.iadd, 1) := dl_o96 kcX12_makeGlyph (by decide +kernel)
theorem dX12_makeGlyph_264 : decode cX12_makeGlyph 264 = .ok (.aload_n 0, 1) := dl_o42 kcX12_makeGlyph (by decide +kernel)
theorem dX12_makeGlyph_265 : decode cX12_makeGlyph 265 = .ok (.aload_n 0, 1) := dl_o42 kcX12_makeGlyph (by decide +kernel)
theorem dX12_makeGlyph_266 : decode cX12_makeGlyph 266 = .ok (.getfield 36, 3) := dl_o180 kcX12_makeGlyph (by decide +kernel)
theorem dX12_makeGlyph_269 : decode cX12_makeGlyph 269 = .ok (.iload 7, 2) := dl_o21 kcX12_makeGlyph (by decide +kernel)
theorem dX12_makeGlyph_271 : decode cX12_makeGlyph 271 = .ok (.iaload, 1) := dl_o46 kcX12_makeGlyph (by decide +kernel)
theorem dX12_makeGlyph_272 : decode cX12_makeGlyph 272 = .ok (.i2l, 1) := dl_o133 kcX12_makeGlyph (by decide +kernel)
theorem dX12_makeGlyph_273 : decode cX12_makeGlyph 273 = .ok (.invokevirtual 611, 3) := dl_o182 kcX12_makeGlyph (by decide +kernel)
theorem dX12_makeGlyph_276 : decode cX12_makeGlyph 276 = .ok (.iastore, 1) := dl_o79 kcX12_makeGlyph (by decide +kernel)
theorem dX12_makeGlyph_277 : decode cX12_makeGlyph 277 = .ok (.aload_n 0, 1) := dl_o42 kcX12_makeGlyph (by decide +kernel)
theorem dX12_makeGlyph_278 : decode cX12_makeGlyph 278 = .ok (.getfield 158, 3) := dl_o180 kcX12_makeGlyph (by decide +kernel)
theorem dX12_makeGlyph_281 : decode cX12_makeGlyph 281 = .ok (.iload 4, 2) := dl_o21 kcX12_makeGlyph (by decide +kernel)
theorem dX12_makeGlyph_283 : decode cX12_makeGlyph 283 = .ok (.iload 7, 2) := dl_o21 kcX12_makeGlyph (by decide +kernel)
theorem dX12_makeGlyph_285 : decode cX12_makeGlyph 285 = .ok (.iadd, 1) := dl_o96 kcX12_makeGlyph (by decide +kernel)
theorem dX12_makeGlyph_286 : decode cX12_makeGlyph 286 = .ok (.aload_n 0, 1) := dl_o42 kcX12_makeGlyph (by decide +kernel)
theorem dX12_makeGlyph_287 : decode cX12_makeGlyph 287 = .ok (.getfield 39, 3) := dl_o180 kcX12_makeGlyph (by decide +kernel)
theorem dX12_makeGlyph_290 : decode cX12_makeGlyph 290 = .ok (.iload 7, 2) := dl_o21 kcX12_makeGlyph (by decide +kernel)
theorem dX12_makeGlyph_292 : decode cX12_makeGlyph 292 = .ok (.iaload, 1) := dl_o46 kcX12_makeGlyph (by decide +kernel)
theorem dX12_makeGlyph_293 : decode cX12_makeGlyph 293 = .ok (.iconst 1, 1) := dl_o4 kcX12_makeGlyph (by decide +kernel)
theorem dX12_makeGlyph_294 : decode cX12_makeGlyph 294 = .ok (.iand, 1) := dl_o126 kcX12_makeGlyph (by decide +kernel)
theorem dX12_makeGlyph_295 : decode cX12_makeGlyph 295 = .ok (.ifCond .eq 7, 3) := dl_o153 kcX12_makeGlyph 7 (by decide +kernel) (by decide +kernel)
theorem dX12_makeGlyph_298 : decode cX12_makeGlyph 298 = .ok (.iconst 1, 1) := dl_o4 kcX12_makeGlyph (by decide +kernel)
theorem dX12_makeGlyph_299 : decode cX12_makeGlyph 299 = .ok (.goto 4, 3) := dl_o167 kcX12_makeGlyph 4 (by decide +kernel) (by decide +kernel)
theorem dX12_makeGlyph_302 : decode cX12_makeGlyph 302 = .ok (.iconst 0, 1) := dl_o3 kcX12_makeGlyph (by decide +kernel)
theorem dX12_makeGlyph_303 : decode cX12_makeGlyph 303 = .ok (.bastore, 1) := dl_o84 kcX12_makeGlyph (by decide +kernel)
theorem dX12_makeGlyph_304 : decode cX12_makeGlyph 304 = .ok (.iinc 7 1, 3) := by decide +kernel
theorem dX12_makeGlyph_307 : decode cX12_makeGlyph 307 = .ok (.goto (-83), 3) := dl_o167 kcX12_makeGlyph 65453 (by decide +kernel) (by decide +kernel)
theorem dX12_makeGlyph_310 : decode cX12_makeGlyph 310 = .ok (.iconst 0, 1) := dl_o3 kcX12_makeGlyph (by decide +kernel)
theorem dX12_makeGlyph_311 : decode cX12_makeGlyph 311 = .ok (.istore 7, 2) := dl_o54 kcX12_makeGlyph (by decide +kernel)
theorem dX12_makeGlyph_313 : decode cX12_makeGlyph 313 = .ok (.iload 7, 2) := dl_o21 kcX12_makeGlyph (by decide +kernel)
theorem dX12_makeGlyph_315 : decode cX12_makeGlyph 315 = .ok (.aload_n 0, 1) := dl_o42 kcX12_makeGlyph (by decide +kernel)
theorem dX12_makeGlyph_316 : decode cX12_makeGlyph 316 = .ok (.getfield 146, 3) := dl_o180 kcX12_makeGlyph (by decide +kernel)
theorem dX12_makeGlyph_319 : decode cX12_makeGlyph 319 = .ok (.iload_n 2, 1) := dl_o28 kcX12_makeGlyph (by decide +kernel)
theorem dX12_makeGlyph_320 : decode cX12_makeGlyph 320 = .ok (.iaload, 1) := dl_o46 kcX12_makeGlyph (by decide +kernel)
theorem dX12_makeGlyph_321 : decode cX12_makeGlyph 321 = .ok (.if_icmp .ge 68, 3) := dl_o162 kcX12_makeGlyph 68 (by decide +kernel) (by decide +kernel)
theorem dX12_makeGlyph_324 : decode cX12_makeGlyph 324 = .ok (.aload_n 0, 1) := dl_o42 kcX12_makeGlyph (by decide +kernel)
theorem dX12_makeGlyph_325 : decode cX12_makeGlyph 325 = .ok (.getfield 409, 3) := dl_o180 kcX12_makeGlyph (by decide +kernel)
theorem dX12_makeGlyph_328 : decode cX12_makeGlyph 328 = .ok (.ifCond .ne 61, 3) := dl_o154 kcX12_makeGlyph 61 (by decide +kernel) (by decide +kernel)
theorem dX12_makeGlyph_331 : decode cX12_makeGlyph 331 = .ok (.aload_n 0, 1) := dl_o42 kcX12_makeGlyph (by decide +kernel)
theorem dX12_makeGlyph_332 : decode cX12_makeGlyph 332 = .ok (.getfield 152, 3) := dl_o180 kcX12_makeGlyph (by decide +kernel)
theorem dX12_makeGlyph_335 : decode cX12_makeGlyph 335 = .ok (.iload 4, 2) := dl_o21 kcX12_makeGlyph (by decide +kernel)
theorem dX12_makeGlyph_337 : decode cX12_makeGlyph 337 = .ok (.iload 7, 2) := dl_o21 kcX12_makeGlyph (by decide +kernel)
theorem dX12_makeGlyph_339 : decode cX12_makeGlyph 339 = .ok (.iadd, 1) := dl_o96 kcX12_makeGlyph (by decide +kernel)
theorem dX12_makeGlyph_340 : decode cX12_makeGlyph 340 = .ok (.iaload, 1) := dl_o46 kcX12_makeGlyph (by decide +kernel)
theorem dX12_makeGlyph_341 : decode cX12_makeGlyph 341 = .ok (.i2l, 1) := dl_o133 kcX12_makeGlyph (by decide +kernel)
theorem dX12_makeGlyph_342 : decode cX12_makeGlyph 342 = .ok (.ldc2_w 791, 3) := dl_o20 kcX12_makeGlyph (by decide +kernel)
theorem dX12_makeGlyph_345 : decode cX12_makeGlyph 345 = .ok (.ldc2_w 793, 3) := dl_o20 kcX12_makeGlyph (by decide +kernel)
theorem dX12_makeGlyph_348 : decode cX12_makeGlyph 348 = .ok (.invokestatic 263, 3) := dl_o184 kcX12_makeGlyph (by decide +kernel)
theorem dX12_makeGlyph_351 : decode cX12_makeGlyph 351 = .ok (.ifCond .eq 26, 3) := dl_o153 kcX12_makeGlyph 26 (by decide +kernel) (by decide +kernel)
theorem dX12_makeGlyph_354 : decode cX12_makeGlyph 354 = .ok (.aload_n 0, 1) := dl_o42 kcX12_makeGlyph (by decide +kernel)
theorem dX12_makeGlyph_355 : decode cX12_makeGlyph 355 = .ok (.getfield 155, 3) := dl_o180 kcX12_makeGlyph (by decide +kernel)
theorem dX12_makeGlyph_358 : decode cX12_makeGlyph 358 = .ok (.iload 4, 2) := dl_o21 kcX12_makeGlyph (by decide +kernel)
theorem dX12_makeGlyph_360 : decode cX12_makeGlyph 360 = .ok (.iload 7, 2) := dl_o21 kcX12_makeGlyph (by decide +kernel)
theorem dX12_makeGlyph_362 : decode cX12_makeGlyph 362 = .ok (.iadd, 1) := dl_o96 kcX12_makeGlyph (by decide +kernel)
theorem dX12_makeGlyph_363 : decode cX12_makeGlyph 363 = .ok (.iaload, 1) := dl_o46 kcX12_makeGlyph (by decide +kernel)
theorem dX12_makeGlyph_364 : decode cX12_makeGlyph 364 = .ok (.i2l, 1) := dl_o133 kcX12_makeGlyph (by decide +kernel)
theorem dX12_makeGlyph_365 : decode cX12_makeGlyph 365 = .ok (.ldc2_w 791, 3) := dl_o20 kcX12_makeGlyph (by decide +kernel)
theorem dX12_makeGlyph_368 : decode cX12_makeGlyph 368 = .ok (.ldc2_w 793, 3) := dl_o20 kcX12_makeGlyph (by decide +kernel)
theorem dX12_makeGlyph_371 : decode cX12_makeGlyph 371 = .ok (.invokestatic 263, 3) := dl_o184 kcX12_makeGlyph (by decide +kernel)
theorem dX12_makeGlyph_374 : decode cX12_makeGlyph 374 = .ok (.ifCond .ne 9, 3) := dl_o154 kcX12_makeGlyph 9 (by decide +kernel) (by decide +kernel)
theorem dX12_makeGlyph_377 : decode cX12_makeGlyph 377 = .ok (.aload_n 0, 1) := dl_o42 kcX12_makeGlyph (by decide +kernel)
theorem dX12_makeGlyph_378 : decode cX12_makeGlyph 378 = .ok (.bipush 13, 2) := dl_o16 kcX12_makeGlyph 13 (by decide +kernel) (by decide +kernel)
theorem dX12_makeGlyph_380 : decode cX12_makeGlyph 380 = .ok (.invokevirtual 795, 3) := dl_o182 kcX12_makeGlyph (by decide +kernel)
theorem dX12_makeGlyph_383 : decode cX12_makeGlyph 383 = .ok (.iinc 7 1, 3) := by decide +kernel
theorem dX12_makeGlyph_386 : decode cX12_makeGlyph 386 = .ok (.goto (-73), 3) := dl_o167 kcX12_makeGlyph 65463 (by decide +kernel) (by decide +kernel)
theorem dX12_makeGlyph_389 : decode cX12_makeGlyph 389 = .ok (.aload_n 0, 1) := dl_o42 kcX12_makeGlyph (by decide +kernel)
theorem dX12_makeGlyph_390 : decode cX12_makeGlyph 390 = .ok (.getfield 409, 3) := dl_o180 kcX12_makeGlyph (by decide +kernel)
theorem dX12_makeGlyph_393 : decode cX12_makeGlyph 393 = .ok (.ifCond .ne 48, 3) := dl_o154 kcX12_makeGlyph 48 (by decide +kernel) (by decide +kernel)
theorem dX12_makeGlyph_396 : decode cX12_makeGlyph 396 = .ok (.aload_n 0, 1) := dl_o42 kcX12_makeGlyph (by decide +kernel)
theorem dX12_makeGlyph_397 : decode cX12_makeGlyph 397 = .ok (.iload_n 1, 1) := dl_o27 kcX12_makeGlyph (by decide +kernel)
theorem dX12_makeGlyph_398 : decode cX12_makeGlyph 398 = .ok (.invokevirtual 278, 3) := dl_o182 kcX12_makeGlyph (by decide +kernel)
theorem dX12_makeGlyph_401 : decode cX12_makeGlyph 401 = .ok (.istore 6, 2) := dl_o54 kcX12_makeGlyph (by decide +kernel)
theorem dX12_makeGlyph_403 : decode cX12_makeGlyph 403 = .ok (.iload_n 2, 1) := dl_o28 kcX12_makeGlyph (by decide +kernel)
theorem dX12_makeGlyph_404 : decode cX12_makeGlyph 404 = .ok (.ifCond .ne 25, 3) := dl_o154 kcX12_makeGlyph 25 (by decide +kernel) (by decide +kernel)
theorem dX12_makeGlyph_407 : decode cX12_makeGlyph 407 = .ok (.aload_n 0, 1) := dl_o42 kcX12_makeGlyph (by decide +kernel)
theorem dX12_makeGlyph_408 : decode cX12_makeGlyph 408 = .ok (.aload_n 0, 1) := dl_o42 kcX12_makeGlyph (by decide +kernel)
theorem dX12_makeGlyph_409 : decode cX12_makeGlyph 409 = .ok (.getfield 140, 3) := dl_o180 kcX12_makeGlyph (by decide +kernel)
theorem dX12_makeGlyph_412 : decode cX12_makeGlyph 412 = .ok (.bipush 7, 2) := dl_o16 kcX12_makeGlyph 7 (by decide +kernel) (by decide +kernel)
theorem dX12_makeGlyph_414 : decode cX12_makeGlyph 414 = .ok (.iaload, 1) := dl_o46 kcX12_makeGlyph (by decide +kernel)
theorem dX12_makeGlyph_415 : decode cX12_makeGlyph 415 = .ok (.putfield 798, 3) := dl_o181 kcX12_makeGlyph (by decide +kernel)
theorem dX12_makeGlyph_418 : decode cX12_makeGlyph 418 = .ok (.aload_n 0, 1) := dl_o42 kcX12_makeGlyph (by decide +kernel)
theorem dX12_makeGlyph_419 : decode cX12_makeGlyph 419 = .ok (.aload_n 0, 1) := dl_o42 kcX12_makeGlyph (by decide +kernel)
theorem dX12_makeGlyph_420 : decode cX12_makeGlyph 420 = .ok (.getfield 140, 3) := dl_o180 kcX12_makeGlyph (by decide +kernel)
theorem dX12_makeGlyph_423 : decode cX12_makeGlyph 423 = .ok (.bipush 8, 2) := dl_o16 kcX12_makeGlyph 8 (by decide +kernel) (by decide +kernel)
theorem dX12_makeGlyph_425 : decode cX12_makeGlyph 425 = .ok (.iaload, 1) := dl_o46 kcX12_makeGlyph (by decide +kernel)
theorem dX12_makeGlyph_426 : decode cX12_makeGlyph 426 = .ok (.putfield 801, 3) := dl_o181 kcX12_makeGlyph (by decide +kernel)
theorem dX12_makeGlyph_429 : decode cX12_makeGlyph 429 = .ok (.aload_n 0, 1) := dl_o42 kcX12_makeGlyph (by decide +kernel)
theorem dX12_makeGlyph_430 : decode cX12_makeGlyph 430 = .ok (.getfield 360, 3) := dl_o180 kcX12_makeGlyph (by decide +kernel)
theorem dX12_makeGlyph_433 : decode cX12_makeGlyph 433 = .ok (.ifCond .le 8, 3) := dl_o158 kcX12_makeGlyph 8 (by decide +kernel) (by decide +kernel)
theorem dX12_makeGlyph_436 : decode cX12_makeGlyph 436 = .ok (.aload_n 0, 1) := dl_o42 kcX12_makeGlyph (by decide +kernel)
theorem dX12_makeGlyph_437 : decode cX12_makeGlyph 437 = .ok (.iload_n 2, 1) := dl_o28 kcX12_makeGlyph (by decide +kernel)
theorem dX12_makeGlyph_438 : decode cX12_makeGlyph 438 = .ok (.invokevirtual 804, 3) := dl_o182 kcX12_makeGlyph (by decide +kernel)
theorem dX12_makeGlyph_441 : decode cX12_makeGlyph 441 = .ok (.return_, 1) := dl_o177 kcX12_makeGlyph (by decide +kernel)
def B_X12_makeGlyph_383 (N : Nat) (kb : Int32 → Int32 → sv_V → Option sv_V) (k313 : Int32 → Int32 → Int32 → Int32 → sv_V → Option sv_V) (l1 : Int32) (l2 : Int32) (l4 : Int32) (l7 : Int32) (V : sv_V) : Option sv_V := sx_let (l7 + 1) (fun x1 => k313 l1 l2 l4 x1 V)
set_option maxRecDepth 20000 in
theorem tB_X12_makeGlyph_383 {g : sx_G} (hG : sx_Go g) {P : Option Value → sv_V → Prop} {Vr : sv_V} (hP : P none Vr) {N : Nat} {D : Nat} {kb : Int32 → Int32 → sv_V → Option sv_V} (hkb : ∀ (l1 : Int32) (l2 : Int32) (V : sv_V) (Wr : sv_V), kb l1 l2 V = some Wr → ∀ P : Option Value → sv_V → Prop, P none Wr → sv_N g qX12_makeGlyph (30 + 2 * D) 0 [(0, .ref 146), (1, .int l1), (2, .int l2)] [] V P) {k313 : Int32 → Int32 → Int32 → Int32 → sv_V → Option sv_V} (hk313 : ∀ (l1 : Int32) (l2 : Int32) (l4 : Int32) (l7 : Int32) (V : sv_V), k313 l1 l2 l4 l7 V = some Vr → sv_N g qX12_makeGlyph (30 + 2 * (D + 1)) 313 [(0, .ref 146), (1, .int l1), (2, .int l2), (4, .int l4), (7, .int l7)] [] V P) {l1 : Int32} {l2 : Int32} {l4 : Int32} {l7 : Int32} {V : sv_V} (h : B_X12_makeGlyph_383 N kb k313 l1 l2 l4 l7 V = some Vr) : sv_N g qX12_makeGlyph (30 + 2 * (D + 1)) 383 [(0, .ref 146), (1, .int l1), (2, .int l2), (4, .int l4), (7, .int l7)] [] V P := by
  unfold B_X12_makeGlyph_383 at h
  obtain ⟨x1, hx1⟩ : ∃ z : Int32, z = l7 + 1 := ⟨_, rfl⟩
  have h := sx_letE hx1 h
  refine sx_iinc (pc := 383) (v := x1) (lo' := [(7, .int x1), (0, .ref 146), (1, .int l1), (2, .int l2), (4, .int l4)]) dX12_makeGlyph_383 sx_m4 (by rw [hx1]; rfl) (by decide) rfl ?_
  refine sx_goto (pc := 386) (tgt := 313) dX12_makeGlyph_386 (by decide) ?_
  refine sx_wk (sx_s1 sx_m1 (sx_s1 sx_m2 (sx_s1 sx_m3 (sx_s1 sx_m4 (sx_s1 sx_m0 sx_s0))))) ?_
  exact hk313 _ _ _ _ _ h
def B_X12_makeGlyph_377 (N : Nat) (kb : Int32 → Int32 → sv_V → Option sv_V) (k313 : Int32 → Int32 → Int32 → Int32 → sv_V → Option sv_V) (l1 : Int32) (l2 : Int32) (l4 : Int32) (l7 : Int32) (V : sv_V) : Option sv_V := (F_X12_failOutside (13 : Int32) V).bind (fun V2 => B_X12_makeGlyph_383 N kb k313 l1 l2 l4 l7 V2)
set_option maxRecDepth 20000 in
theorem tB_X12_makeGlyph_377 {g : sx_G} (hG : sx_Go g) {P : Option Value → sv_V → Prop} {Vr : sv_V} (hP : P none Vr) {N : Nat} {D : Nat} {kb : Int32 → Int32 → sv_V → Option sv_V} (hkb : ∀ (l1 : Int32) (l2 : Int32) (V : sv_V) (Wr : sv_V), kb l1 l2 V = some Wr → ∀ P : Option Value → sv_V → Prop, P none Wr → sv_N g qX12_makeGlyph (30 + 2 * D) 0 [(0, .ref 146), (1, .int l1), (2, .int l2)] [] V P) {k313 : Int32 → Int32 → Int32 → Int32 → sv_V → Option sv_V} (hk313 : ∀ (l1 : Int32) (l2 : Int32) (l4 : Int32) (l7 : Int32) (V : sv_V), k313 l1 l2 l4 l7 V = some Vr → sv_N g qX12_makeGlyph (30 + 2 * (D + 1)) 313 [(0, .ref 146), (1, .int l1), (2, .int l2), (4, .int l4), (7, .int l7)] [] V P) {l1 : Int32} {l2 : Int32} {l4 : Int32} {l7 : Int32} {V : sv_V} (h : B_X12_makeGlyph_377 N kb k313 l1 l2 l4 l7 V = some Vr) : sv_N g qX12_makeGlyph (30 + 2 * (D + 1)) 377 [(0, .ref 146), (1, .int l1), (2, .int l2), (4, .int l4), (7, .int l7)] [] V P := by
  unfold B_X12_makeGlyph_377 at h
  refine sx_aload_n (pc := 377) dX12_makeGlyph_377 sx_m0 ?_
  refine sx_bipush (pc := 378) (v := 13) dX12_makeGlyph_378 (by decide) ?_
  obtain ⟨V2, g3, h⟩ := sx_bnd h
  refine sv_cV (pc := 380) (y := qX12_failOutside) (o := none) (as := [.int (13 : Int32)]) (V1 := V2) hG dX12_makeGlyph_380 l_X12_795 y0X12_failOutside yvX12_failOutside rfl (Nat.le_of_ble_eq_true rfl) lay_146 kr_12 (by omega) (Nat.le_of_ble_eq_true rfl) rfl rfl rfl (t_X12_failOutside hG ⟨rfl, rfl⟩ g3) ?_
  refine sx_wk (sx_s1 sx_m0 (sx_s1 sx_m1 (sx_s1 sx_m2 (sx_s1 sx_m3 (sx_s1 sx_m4 sx_s0))))) ?_
  exact tB_X12_makeGlyph_383 hG hP hkb hk313 h
def B_X12_makeGlyph_429 (N : Nat) (kb : Int32 → Int32 → sv_V → Option sv_V)  (l2 : Int32) (V : sv_V) : Option sv_V := if (V.1 146 32) ≤ 0 then (some V) else ((F_X12_hint N l2 V).bind (fun V5 => some V5))
set_option maxRecDepth 20000 in
theorem tB_X12_makeGlyph_429 {g : sx_G} (hG : sx_Go g) {P : Option Value → sv_V → Prop} {Vr : sv_V} (hP : P none Vr) {N : Nat} {D : Nat} {kb : Int32 → Int32 → sv_V → Option sv_V} (hkb : ∀ (l1 : Int32) (l2 : Int32) (V : sv_V) (Wr : sv_V), kb l1 l2 V = some Wr → ∀ P : Option Value → sv_V → Prop, P none Wr → sv_N g qX12_makeGlyph (30 + 2 * D) 0 [(0, .ref 146), (1, .int l1), (2, .int l2)] [] V P)   {l2 : Int32} {V : sv_V} (h : B_X12_makeGlyph_429 N kb  l2 V = some Vr) : sv_N g qX12_makeGlyph (30 + 2 * (D + 1)) 429 [(0, .ref 146), (2, .int l2)] [] V P := by
  unfold B_X12_makeGlyph_429 at h
  refine sx_aload_n (pc := 429) dX12_makeGlyph_429 sx_m0 ?_
  refine sv_getI (pc := 430) hG dX12_makeGlyph_430 f_12_360 lay_146 rfl ?_
  refine sx_if_le (pc := 433) (tgt := 441) dX12_makeGlyph_433 (by decide) (fun c4 => ?_) (fun c4 => ?_)
  · have h := sx_pos c4 h
    exact sv_vret (pc := 441) dX12_makeGlyph_441 rfl h hP
  · have h := sx_neg c4 h
    refine sx_aload_n (pc := 436) dX12_makeGlyph_436 sx_m0 ?_
    refine sx_iload_n (pc := 437) dX12_makeGlyph_437 sx_m1 ?_
    obtain ⟨V5, g6, h⟩ := sx_bnd h
    refine sv_cV (pc := 438) (y := qX12_hint) (o := none) (as := [.int l2]) (V1 := V5) hG dX12_makeGlyph_438 l_X12_804 y0X12_hint yvX12_hint rfl (Nat.le_of_ble_eq_true rfl) lay_146 kr_12 (by omega) (Nat.le_of_ble_eq_true rfl) rfl rfl rfl (t_X12_hint hG ⟨rfl, rfl⟩ g6) ?_
    exact sv_vret (pc := 441) dX12_makeGlyph_441 rfl h hP
def B_X12_makeGlyph_389 (N : Nat) (kb : Int32 → Int32 → sv_V → Option sv_V)  (l1 : Int32) (l2 : Int32) (V : sv_V) : Option sv_V := if (V.1 146 59) = 0 then ((F_X12_isGlyph N l1 V).bind (fun (x10, V8) => if l2 = 0 then (sx_let (sv_I V8 146 126 (V8.1 188 (7 : Int32).toNatClampNeg)) (fun V12 => sx_let (sv_I V12 146 127 (V12.1 188 (8 : Int32).toNatClampNeg)) (fun V13 => B_X12_makeGlyph_429 N kb  l2 V13))) else (B_X12_makeGlyph_429 N kb  l2 V8))) else (some V)
set_option maxRecDepth 20000 in
theorem tB_X12_makeGlyph_389 {g : sx_G} (hG : sx_Go g) {P : Option Value → sv_V → Prop} {Vr : sv_V} (hP : P none Vr) {N : Nat} {D : Nat} {kb : Int32 → Int32 → sv_V → Option sv_V} (hkb : ∀ (l1 : Int32) (l2 : Int32) (V : sv_V) (Wr : sv_V), kb l1 l2 V = some Wr → ∀ P : Option Value → sv_V → Prop, P none Wr → sv_N g qX12_makeGlyph (30 + 2 * D) 0 [(0, .ref 146), (1, .int l1), (2, .int l2)] [] V P)   {l1 : Int32} {l2 : Int32} {V : sv_V} (h : B_X12_makeGlyph_389 N kb  l1 l2 V = some Vr) : sv_N g qX12_makeGlyph (30 + 2 * (D + 1)) 389 [(0, .ref 146), (1, .int l1), (2, .int l2)] [] V P := by
  unfold B_X12_makeGlyph_389 at h
  refine sx_aload_n (pc := 389) dX12_makeGlyph_389 sx_m0 ?_
  refine sv_getI (pc := 390) hG dX12_makeGlyph_390 f_12_409 lay_146 rfl ?_
  refine sx_if_ne (pc := 393) (tgt := 441) dX12_makeGlyph_393 (by decide) (fun c7 => ?_) (fun c7 => ?_)
  · have h := sx_neg c7 h
    exact sv_vret (pc := 441) dX12_makeGlyph_441 rfl h hP
  · have h := sx_pos c7 h
    refine sx_aload_n (pc := 396) dX12_makeGlyph_396 sx_m0 ?_
    refine sx_iload_n (pc := 397) dX12_makeGlyph_397 sx_m1 ?_
    obtain ⟨⟨x10, V8⟩, g9, h⟩ := sx_bnd h
    refine sv_cV (pc := 398) (y := qX12_isGlyph) (o := (some (.int x10))) (as := [.int l1]) (V1 := V8) hG dX12_makeGlyph_398 l_X12_278 y0X12_isGlyph yvX12_isGlyph rfl (Nat.le_of_ble_eq_true rfl) lay_146 kr_12 (by omega) (Nat.le_of_ble_eq_true rfl) rfl rfl rfl (t_X12_isGlyph hG ⟨rfl, rfl⟩ g9) ?_
    refine sx_istore (pc := 401) (lo' := [(6, .int x10), (0, .ref 146), (1, .int l1), (2, .int l2)]) dX12_makeGlyph_401 (by decide) rfl ?_
    refine sx_iload_n (pc := 403) dX12_makeGlyph_403 sx_m3 ?_
    refine sx_if_ne (pc := 404) (tgt := 429) dX12_makeGlyph_404 (by decide) (fun c11 => ?_) (fun c11 => ?_)
    · have h := sx_neg c11 h
      refine sx_wk (sx_s1 sx_m1 (sx_s1 sx_m3 sx_s0)) ?_
      exact tB_X12_makeGlyph_429 hG hP hkb  h
    · have h := sx_pos c11 h
      refine sx_aload_n (pc := 407) dX12_makeGlyph_407 sx_m1 ?_
      refine sx_aload_n (pc := 408) dX12_makeGlyph_408 sx_m1 ?_
      refine sv_getA (pc := 409) hG dX12_makeGlyph_409 f_12_140 lay_146 rfl cr_146_116 ?_
      refine sx_bipush (pc := 412) (v := 7) dX12_makeGlyph_412 (by decide) ?_
      refine sv_iald (pc := 414) hG dX12_makeGlyph_414 lay_188 (by decide) ?_
      obtain ⟨V12, hV12⟩ : ∃ z : sv_V, z = sv_I V8 146 126 (V8.1 188 (7 : Int32).toNatClampNeg) := ⟨_, rfl⟩
      have h := sx_letE hV12 h
      refine sv_putI (pc := 415) hG dX12_makeGlyph_415 f_12_798 lay_146 rfl hV12 ?_
      refine sx_aload_n (pc := 418) dX12_makeGlyph_418 sx_m1 ?_
      refine sx_aload_n (pc := 419) dX12_makeGlyph_419 sx_m1 ?_
      refine sv_getA (pc := 420) hG dX12_makeGlyph_420 f_12_140 lay_146 rfl cr_146_116 ?_
      refine sx_bipush (pc := 423) (v := 8) dX12_makeGlyph_423 (by decide) ?_
      refine sv_iald (pc := 425) hG dX12_makeGlyph_425 lay_188 (by decide) ?_
      obtain ⟨V13, hV13⟩ : ∃ z : sv_V, z = sv_I V12 146 127 (V12.1 188 (8 : Int32).toNatClampNeg) := ⟨_, rfl⟩
      have h := sx_letE hV13 h
      refine sv_putI (pc := 426) hG dX12_makeGlyph_426 f_12_801 lay_146 rfl hV13 ?_
      refine sx_wk (sx_s1 sx_m1 (sx_s1 sx_m3 sx_s0)) ?_
      exact tB_X12_makeGlyph_429 hG hP hkb  h
def B_X12_makeGlyph_313 (N : Nat) (kb : Int32 → Int32 → sv_V → Option sv_V) (k313 : Int32 → Int32 → Int32 → Int32 → sv_V → Option sv_V) (l1 : Int32) (l2 : Int32) (l4 : Int32) (l7 : Int32) (V : sv_V) : Option sv_V := if sx_in l2 6 = true then if (V.1 190 l2.toNatClampNeg) ≤ l7 then (B_X12_makeGlyph_389 N kb  l1 l2 V) else (if (V.1 146 59) = 0 then (if sx_in (l4 + l7) 612 = true then (F_X12_in ((V.1 192 (l4 + l7).toNatClampNeg).toInt64) (-1000000 : Int64) (1000000 : Int64) V).bind (fun (x20, V18) => if x20 = 0 then (B_X12_makeGlyph_377 N kb k313 l1 l2 l4 l7 V18) else (if sx_in (l4 + l7) 612 = true then (F_X12_in ((V18.1 193 (l4 + l7).toNatClampNeg).toInt64) (-1000000 : Int64) (1000000 : Int64) V18).bind (fun (x25, V23) => if x25 = 0 then (B_X12_makeGlyph_377 N kb k313 l1 l2 l4 l7 V23) else (B_X12_makeGlyph_383 N kb k313 l1 l2 l4 l7 V23)) else none)) else none) else (B_X12_makeGlyph_389 N kb  l1 l2 V)) else none
set_option maxRecDepth 20000 in
theorem tB_X12_makeGlyph_313 {g : sx_G} (hG : sx_Go g) {P : Option Value → sv_V → Prop} {Vr : sv_V} (hP : P none Vr) {N : Nat} {D : Nat} {kb : Int32 → Int32 → sv_V → Option sv_V} (hkb : ∀ (l1 : Int32) (l2 : Int32) (V : sv_V) (Wr : sv_V), kb l1 l2 V = some Wr → ∀ P : Option Value → sv_V → Prop, P none Wr → sv_N g qX12_makeGlyph (30 + 2 * D) 0 [(0, .ref 146), (1, .int l1), (2, .int l2)] [] V P) {k313 : Int32 → Int32 → Int32 → Int32 → sv_V → Option sv_V} (hk313 : ∀ (l1 : Int32) (l2 : Int32) (l4 : Int32) (l7 : Int32) (V : sv_V), k313 l1 l2 l4 l7 V = some Vr → sv_N g qX12_makeGlyph (30 + 2 * (D + 1)) 313 [(0, .ref 146), (1, .int l1), (2, .int l2), (4, .int l4), (7, .int l7)] [] V P) {l1 : Int32} {l2 : Int32} {l4 : Int32} {l7 : Int32} {V : sv_V} (h : B_X12_makeGlyph_313 N kb k313 l1 l2 l4 l7 V = some Vr) : sv_N g qX12_makeGlyph (30 + 2 * (D + 1)) 313 [(0, .ref 146), (1, .int l1), (2, .int l2), (4, .int l4), (7, .int l7)] [] V P := by
  unfold B_X12_makeGlyph_313 at h
  refine sx_iload (pc := 313) dX12_makeGlyph_313 sx_m4 ?_
  refine sx_aload_n (pc := 315) dX12_makeGlyph_315 sx_m0 ?_
  refine sv_getA (pc := 316) hG dX12_makeGlyph_316 f_12_146 lay_146 rfl cr_146_118 ?_
  refine sx_iload_n (pc := 319) dX12_makeGlyph_319 sx_m2 ?_
  obtain ⟨g14, h⟩ := sx_grd h
  refine sv_iald (pc := 320) hG dX12_makeGlyph_320 lay_190 g14 ?_
  refine sx_icmp_ge (pc := 321) (tgt := 389) dX12_makeGlyph_321 (by decide) (fun c15 => ?_) (fun c15 => ?_)
  · have h := sx_pos c15 h
    refine sx_wk (sx_s1 sx_m0 (sx_s1 sx_m1 (sx_s1 sx_m2 sx_s0))) ?_
    exact tB_X12_makeGlyph_389 hG hP hkb  h
  · have h := sx_neg c15 h
    refine sx_aload_n (pc := 324) dX12_makeGlyph_324 sx_m0 ?_
    refine sv_getI (pc := 325) hG dX12_makeGlyph_325 f_12_409 lay_146 rfl ?_
    refine sx_if_ne (pc := 328) (tgt := 389) dX12_makeGlyph_328 (by decide) (fun c16 => ?_) (fun c16 => ?_)
    · have h := sx_neg c16 h
      refine sx_wk (sx_s1 sx_m0 (sx_s1 sx_m1 (sx_s1 sx_m2 sx_s0))) ?_
      exact tB_X12_makeGlyph_389 hG hP hkb  h
    · have h := sx_pos c16 h
      refine sx_aload_n (pc := 331) dX12_makeGlyph_331 sx_m0 ?_
      refine sv_getA (pc := 332) hG dX12_makeGlyph_332 f_12_152 lay_146 rfl cr_146_120 ?_
      refine sx_iload (pc := 335) dX12_makeGlyph_335 sx_m3 ?_
      refine sx_iload (pc := 337) dX12_makeGlyph_337 sx_m4 ?_
      refine sx_iadd (pc := 339) dX12_makeGlyph_339 ?_
      obtain ⟨g17, h⟩ := sx_grd h
      refine sv_iald (pc := 340) hG dX12_makeGlyph_340 lay_192 g17 ?_
      refine sx_i2l (pc := 341) dX12_makeGlyph_341 ?_
      refine sx_ldc2 (pc := 342) dX12_makeGlyph_342 k_X12_791 ?_
      refine sx_ldc2 (pc := 345) dX12_makeGlyph_345 k_X12_793 ?_
      obtain ⟨⟨x20, V18⟩, g19, h⟩ := sx_bnd h
      refine sv_cS (pc := 348) (y := qX12_in) (o := (some (.int x20))) (as := [.long ((V.1 192 (l4 + l7).toNatClampNeg).toInt64), .long (-1000000 : Int64), .long (1000000 : Int64)]) (V1 := V18) dX12_makeGlyph_348 l_X12_263 y0X12_in ysX12_in rfl (Nat.le_of_ble_eq_true rfl) (by omega) (Nat.le_of_ble_eq_true rfl) rfl rfl rfl (t_X12_in hG ⟨rfl, rfl⟩ g19) ?_
      refine sx_if_eq (pc := 351) (tgt := 377) dX12_makeGlyph_351 (by decide) (fun c21 => ?_) (fun c21 => ?_)
      · have h := sx_pos c21 h
        refine sx_wk (sx_s1 sx_m0 (sx_s1 sx_m1 (sx_s1 sx_m2 (sx_s1 sx_m3 (sx_s1 sx_m4 sx_s0))))) ?_
        exact tB_X12_makeGlyph_377 hG hP hkb hk313 h
      · have h := sx_neg c21 h
        refine sx_aload_n (pc := 354) dX12_makeGlyph_354 sx_m0 ?_
        refine sv_getA (pc := 355) hG dX12_makeGlyph_355 f_12_155 lay_146 rfl cr_146_121 ?_
        refine sx_iload (pc := 358) dX12_makeGlyph_358 sx_m3 ?_
        refine sx_iload (pc := 360) dX12_makeGlyph_360 sx_m4 ?_
        refine sx_iadd (pc := 362) dX12_makeGlyph_362 ?_
        obtain ⟨g22, h⟩ := sx_grd h
        refine sv_iald (pc := 363) hG dX12_makeGlyph_363 lay_193 g22 ?_
        refine sx_i2l (pc := 364) dX12_makeGlyph_364 ?_
        refine sx_ldc2 (pc := 365) dX12_makeGlyph_365 k_X12_791 ?_
        refine sx_ldc2 (pc := 368) dX12_makeGlyph_368 k_X12_793 ?_
        obtain ⟨⟨x25, V23⟩, g24, h⟩ := sx_bnd h
        refine sv_cS (pc := 371) (y := qX12_in) (o := (some (.int x25))) (as := [.long ((V18.1 193 (l4 + l7).toNatClampNeg).toInt64), .long (-1000000 : Int64), .long (1000000 : Int64)]) (V1 := V23) dX12_makeGlyph_371 l_X12_263 y0X12_in ysX12_in rfl (Nat.le_of_ble_eq_true rfl) (by omega) (Nat.le_of_ble_eq_true rfl) rfl rfl rfl (t_X12_in hG ⟨rfl, rfl⟩ g24) ?_
        refine sx_if_ne (pc := 374) (tgt := 383) dX12_makeGlyph_374 (by decide) (fun c26 => ?_) (fun c26 => ?_)
        · have h := sx_neg c26 h
          refine sx_wk (sx_s1 sx_m0 (sx_s1 sx_m1 (sx_s1 sx_m2 (sx_s1 sx_m3 (sx_s1 sx_m4 sx_s0))))) ?_
          exact tB_X12_makeGlyph_383 hG hP hkb hk313 h
        · have h := sx_pos c26 h
          refine sx_wk (sx_s1 sx_m0 (sx_s1 sx_m1 (sx_s1 sx_m2 (sx_s1 sx_m3 (sx_s1 sx_m4 sx_s0))))) ?_
          exact tB_X12_makeGlyph_377 hG hP hkb hk313 h
theorem tL_X12_makeGlyph_313 {g : sx_G} (hG : sx_Go g) {P : Option Value → sv_V → Prop} {Vr : sv_V} (hP : P none Vr) {N : Nat} {D : Nat} {kb : Int32 → Int32 → sv_V → Option sv_V} (hkb : ∀ (l1 : Int32) (l2 : Int32) (V : sv_V) (Wr : sv_V), kb l1 l2 V = some Wr → ∀ P : Option Value → sv_V → Prop, P none Wr → sv_N g qX12_makeGlyph (30 + 2 * D) 0 [(0, .ref 146), (1, .int l1), (2, .int l2)] [] V P)   : ∀ (n : Nat) (l1 : Int32) (l2 : Int32) (l4 : Int32) (l7 : Int32) (V : sv_V), sx_lp5 (B_X12_makeGlyph_313 N kb ) n l1 l2 l4 l7 V = some Vr → sv_N g qX12_makeGlyph (30 + 2 * (D + 1)) 313 [(0, .ref 146), (1, .int l1), (2, .int l2), (4, .int l4), (7, .int l7)] [] V P :=
  sx_lp5_ind (fun k0 ih _ _ _ _ V h => tB_X12_makeGlyph_313 hG hP hkb ih h)
def B_X12_makeGlyph_310 (N : Nat) (kb : Int32 → Int32 → sv_V → Option sv_V)  (l1 : Int32) (l2 : Int32) (l4 : Int32) (V : sv_V) : Option sv_V := sx_lp5 (B_X12_makeGlyph_313 N kb ) N l1 l2 l4 (0 : Int32) V
set_option maxRecDepth 20000 in
theorem tB_X12_makeGlyph_310 {g : sx_G} (hG : sx_Go g) {P : Option Value → sv_V → Prop} {Vr : sv_V} (hP : P none Vr) {N : Nat} {D : Nat} {kb : Int32 → Int32 → sv_V → Option sv_V} (hkb : ∀ (l1 : Int32) (l2 : Int32) (V : sv_V) (Wr : sv_V), kb l1 l2 V = some Wr → ∀ P : Option Value → sv_V → Prop, P none Wr → sv_N g qX12_makeGlyph (30 + 2 * D) 0 [(0, .ref 146), (1, .int l1), (2, .int l2)] [] V P)   {l1 : Int32} {l2 : Int32} {l4 : Int32} {V : sv_V} (h : B_X12_makeGlyph_310 N kb  l1 l2 l4 V = some Vr) : sv_N g qX12_makeGlyph (30 + 2 * (D + 1)) 310 [(0, .ref 146), (1, .int l1), (2, .int l2), (4, .int l4)] [] V P := by
  unfold B_X12_makeGlyph_310 at h
  refine sx_iconst (pc := 310) (v := 0) dX12_makeGlyph_310 (by decide) ?_
  refine sx_istore (pc := 311) (lo' := [(7, .int (0 : Int32)), (0, .ref 146), (1, .int l1), (2, .int l2), (4, .int l4)]) dX12_makeGlyph_311 (by decide) rfl ?_
  refine sx_wk (sx_s1 sx_m1 (sx_s1 sx_m2 (sx_s1 sx_m3 (sx_s1 sx_m4 (sx_s1 sx_m0 sx_s0))))) ?_
  exact tL_X12_makeGlyph_313 hG hP hkb  N _ _ _ _ _ h
def B_X12_makeGlyph_148 (N : Nat) (kb : Int32 → Int32 → sv_V → Option sv_V)  (l1 : Int32) (l2 : Int32) (l4 : Int32) (V : sv_V) : Option sv_V := B_X12_makeGlyph_310 N kb  l1 l2 l4 V
set_option maxRecDepth 20000 in
theorem tB_X12_makeGlyph_148 {g : sx_G} (hG : sx_Go g) {P : Option Value → sv_V → Prop} {Vr : sv_V} (hP : P none Vr) {N : Nat} {D : Nat} {kb : Int32 → Int32 → sv_V → Option sv_V} (hkb : ∀ (l1 : Int32) (l2 : Int32) (V : sv_V) (Wr : sv_V), kb l1 l2 V = some Wr → ∀ P : Option Value → sv_V → Prop, P none Wr → sv_N g qX12_makeGlyph (30 + 2 * D) 0 [(0, .ref 146), (1, .int l1), (2, .int l2)] [] V P)   {l1 : Int32} {l2 : Int32} {l4 : Int32} {V : sv_V} (h : B_X12_makeGlyph_148 N kb  l1 l2 l4 V = some Vr) : sv_N g qX12_makeGlyph (30 + 2 * (D + 1)) 148 [(0, .ref 146), (1, .int l1), (2, .int l2), (4, .int l4)] [] V P := by
  unfold B_X12_makeGlyph_148 at h
  refine sx_goto (pc := 148) (tgt := 310) dX12_makeGlyph_148 (by decide) ?_
  refine sx_wk (sx_s1 sx_m0 (sx_s1 sx_m1 (sx_s1 sx_m2 (sx_s1 sx_m3 sx_s0)))) ?_
  exact tB_X12_makeGlyph_310 hG hP hkb  h
def B_X12_makeGlyph_120 (N : Nat) (kb : Int32 → Int32 → sv_V → Option sv_V) (k120 : Int32 → Int32 → Int32 → Int32 → Int32 → sv_V → Option sv_V) (l1 : Int32) (l2 : Int32) (l4 : Int32) (l7 : Int32) (l8 : Int32) (V : sv_V) : Option sv_V := if l7 ≤ l8 then (B_X12_makeGlyph_148 N kb  l1 l2 l4 V) else (if (V.1 146 59) = 0 then ((F_X12_makePart N kb l1 l8 l2 V).bind (fun V29 => sx_let (l8 + 1) (fun x31 => k120 l1 l2 l4 l7 x31 V29))) else (B_X12_makeGlyph_148 N kb  l1 l2 l4 V))
set_option maxRecDepth 20000 in
theorem tB_X12_makeGlyph_120 {g : sx_G} (hG : sx_Go g) {P : Option Value → sv_V → Prop} {Vr : sv_V} (hP : P none Vr) {N : Nat} {D : Nat} {kb : Int32 → Int32 → sv_V → Option sv_V} (hkb : ∀ (l1 : Int32) (l2 : Int32) (V : sv_V) (Wr : sv_V), kb l1 l2 V = some Wr → ∀ P : Option Value → sv_V → Prop, P none Wr → sv_N g qX12_makeGlyph (30 + 2 * D) 0 [(0, .ref 146), (1, .int l1), (2, .int l2)] [] V P) {k120 : Int32 → Int32 → Int32 → Int32 → Int32 → sv_V → Option sv_V} (hk120 : ∀ (l1 : Int32) (l2 : Int32) (l4 : Int32) (l7 : Int32) (l8 : Int32) (V : sv_V), k120 l1 l2 l4 l7 l8 V = some Vr → sv_N g qX12_makeGlyph (30 + 2 * (D + 1)) 120 [(0, .ref 146), (1, .int l1), (2, .int l2), (4, .int l4), (7, .int l7), (8, .int l8)] [] V P) {l1 : Int32} {l2 : Int32} {l4 : Int32} {l7 : Int32} {l8 : Int32} {V : sv_V} (h : B_X12_makeGlyph_120 N kb k120 l1 l2 l4 l7 l8 V = some Vr) : sv_N g qX12_makeGlyph (30 + 2 * (D + 1)) 120 [(0, .ref 146), (1, .int l1), (2, .int l2), (4, .int l4), (7, .int l7), (8, .int l8)] [] V P := by
  unfold B_X12_makeGlyph_120 at h
  refine sx_iload (pc := 120) dX12_makeGlyph_120 sx_m5 ?_
  refine sx_iload (pc := 122) dX12_makeGlyph_122 sx_m4 ?_
  refine sx_icmp_ge (pc := 124) (tgt := 148) dX12_makeGlyph_124 (by decide) (fun c27 => ?_) (fun c27 => ?_)
  · have h := sx_pos c27 h
    refine sx_wk (sx_s1 sx_m0 (sx_s1 sx_m1 (sx_s1 sx_m2 (sx_s1 sx_m3 sx_s0)))) ?_
    exact tB_X12_makeGlyph_148 hG hP hkb  h
  · have h := sx_neg c27 h
    refine sx_aload_n (pc := 127) dX12_makeGlyph_127 sx_m0 ?_
    refine sv_getI (pc := 128) hG dX12_makeGlyph_128 f_12_409 lay_146 rfl ?_
    refine sx_if_ne (pc := 131) (tgt := 148) dX12_makeGlyph_131 (by decide) (fun c28 => ?_) (fun c28 => ?_)
    · have h := sx_neg c28 h
      refine sx_wk (sx_s1 sx_m0 (sx_s1 sx_m1 (sx_s1 sx_m2 (sx_s1 sx_m3 sx_s0)))) ?_
      exact tB_X12_makeGlyph_148 hG hP hkb  h
    · have h := sx_pos c28 h
      refine sx_aload_n (pc := 134) dX12_makeGlyph_134 sx_m0 ?_
      refine sx_iload_n (pc := 135) dX12_makeGlyph_135 sx_m1 ?_
      refine sx_iload (pc := 136) dX12_makeGlyph_136 sx_m5 ?_
      refine sx_iload_n (pc := 138) dX12_makeGlyph_138 sx_m2 ?_
      obtain ⟨V29, g30, h⟩ := sx_bnd h
      refine sv_cV (pc := 139) (y := qX12_makePart) (o := none) (as := [.int l1, .int l8, .int l2]) (V1 := V29) hG dX12_makeGlyph_139 l_X12_788 y0X12_makePart yvX12_makePart rfl (Nat.le_of_ble_eq_true rfl) lay_146 kr_12 (by omega) (Nat.le_of_ble_eq_true rfl) rfl rfl rfl (t_X12_makePart hG ⟨rfl, rfl⟩ hkb g30) ?_
      obtain ⟨x31, hx31⟩ : ∃ z : Int32, z = l8 + 1 := ⟨_, rfl⟩
      have h := sx_letE hx31 h
      refine sx_iinc (pc := 142) (v := x31) (lo' := [(8, .int x31), (0, .ref 146), (1, .int l1), (2, .int l2), (4, .int l4), (7, .int l7)]) dX12_makeGlyph_142 sx_m5 (by rw [hx31]; rfl) (by decide) rfl ?_
      refine sx_goto (pc := 145) (tgt := 120) dX12_makeGlyph_145 (by decide) ?_
      refine sx_wk (sx_s1 sx_m1 (sx_s1 sx_m2 (sx_s1 sx_m3 (sx_s1 sx_m4 (sx_s1 sx_m5 (sx_s1 sx_m0 sx_s0)))))) ?_
      exact hk120 _ _ _ _ _ _ h
theorem tL_X12_makeGlyph_120 {g : sx_G} (hG : sx_Go g) {P : Option Value → sv_V → Prop} {Vr : sv_V} (hP : P none Vr) {N : Nat} {D : Nat} {kb : Int32 → Int32 → sv_V → Option sv_V} (hkb : ∀ (l1 : Int32) (l2 : Int32) (V : sv_V) (Wr : sv_V), kb l1 l2 V = some Wr → ∀ P : Option Value → sv_V → Prop, P none Wr → sv_N g qX12_makeGlyph (30 + 2 * D) 0 [(0, .ref 146), (1, .int l1), (2, .int l2)] [] V P)   : ∀ (n : Nat) (l1 : Int32) (l2 : Int32) (l4 : Int32) (l7 : Int32) (l8 : Int32) (V : sv_V), sx_lp6 (B_X12_makeGlyph_120 N kb ) n l1 l2 l4 l7 l8 V = some Vr → sv_N g qX12_makeGlyph (30 + 2 * (D + 1)) 120 [(0, .ref 146), (1, .int l1), (2, .int l2), (4, .int l4), (7, .int l7), (8, .int l8)] [] V P :=
  sx_lp6_ind (fun k0 ih _ _ _ _ _ V h => tB_X12_makeGlyph_120 hG hP hkb ih h)
def B_X12_makeGlyph_303 (N : Nat) (kb : Int32 → Int32 → sv_V → Option sv_V) (k224 : Int32 → Int32 → Int32 → Int32 → sv_V → Option sv_V) (l1 : Int32) (l2 : Int32) (l4 : Int32) (l7 : Int32) (s1 : Int32) (s2 : Int32) (V : sv_V) : Option sv_V := if sx_in s1 612 = true then if sv_bl s2 = true then sx_let (sv_I V 194 s1.toNatClampNeg s2) (fun V34 => sx_let (l7 + 1) (fun x35 => k224 l1 l2 l4 x35 V34)) else none else none
set_option maxRecDepth 20000 in
theorem tB_X12_makeGlyph_303 {g : sx_G} (hG : sx_Go g) {P : Option Value → sv_V → Prop} {Vr : sv_V} (hP : P none Vr) {N : Nat} {D : Nat} {kb : Int32 → Int32 → sv_V → Option sv_V} (hkb : ∀ (l1 : Int32) (l2 : Int32) (V : sv_V) (Wr : sv_V), kb l1 l2 V = some Wr → ∀ P : Option Value → sv_V → Prop, P none Wr → sv_N g qX12_makeGlyph (30 + 2 * D) 0 [(0, .ref 146), (1, .int l1), (2, .int l2)] [] V P) {k224 : Int32 → Int32 → Int32 → Int32 → sv_V → Option sv_V} (hk224 : ∀ (l1 : Int32) (l2 : Int32) (l4 : Int32) (l7 : Int32) (V : sv_V), k224 l1 l2 l4 l7 V = some Vr → sv_N g qX12_makeGlyph (30 + 2 * (D + 1)) 224 [(0, .ref 146), (1, .int l1), (2, .int l2), (4, .int l4), (7, .int l7)] [] V P) {l1 : Int32} {l2 : Int32} {l4 : Int32} {l7 : Int32} {s1 : Int32} {s2 : Int32} {V : sv_V} (h : B_X12_makeGlyph_303 N kb k224 l1 l2 l4 l7 s1 s2 V = some Vr) : sv_N g qX12_makeGlyph (30 + 2 * (D + 1)) 303 [(0, .ref 146), (1, .int l1), (2, .int l2), (4, .int l4), (7, .int l7)] [.int s2, .int s1, .ref 194] V P := by
  unfold B_X12_makeGlyph_303 at h
  obtain ⟨g32, h⟩ := sx_grd h
  obtain ⟨g33, h⟩ := sx_grd h
  obtain ⟨V34, hV34⟩ : ∃ z : sv_V, z = sv_I V 194 s1.toNatClampNeg s2 := ⟨_, rfl⟩
  have h := sx_letE hV34 h
  refine sv_zast (pc := 303) hG dX12_makeGlyph_303 lay_194 g32 g33 hV34 ?_
  obtain ⟨x35, hx35⟩ : ∃ z : Int32, z = l7 + 1 := ⟨_, rfl⟩
  have h := sx_letE hx35 h
  refine sx_iinc (pc := 304) (v := x35) (lo' := [(7, .int x35), (0, .ref 146), (1, .int l1), (2, .int l2), (4, .int l4)]) dX12_makeGlyph_304 sx_m4 (by rw [hx35]; rfl) (by decide) rfl ?_
  refine sx_goto (pc := 307) (tgt := 224) dX12_makeGlyph_307 (by decide) ?_
  refine sx_wk (sx_s1 sx_m1 (sx_s1 sx_m2 (sx_s1 sx_m3 (sx_s1 sx_m4 (sx_s1 sx_m0 sx_s0))))) ?_
  exact hk224 _ _ _ _ _ h
def B_X12_makeGlyph_224 (N : Nat) (kb : Int32 → Int32 → sv_V → Option sv_V) (k224 : Int32 → Int32 → Int32 → Int32 → sv_V → Option sv_V) (l1 : Int32) (l2 : Int32) (l4 : Int32) (l7 : Int32) (V : sv_V) : Option sv_V := if (V.1 146 29) ≤ l7 then (B_X12_makeGlyph_310 N kb  l1 l2 l4 V) else (if sx_in l7 100 = true then (F_X12_scaled ((V.1 154 l7.toNatClampNeg).toInt64) V).bind (fun (x40, V38) => if sx_in (l4 + l7) 612 = true then sx_let (sv_I V38 192 (l4 + l7).toNatClampNeg x40) (fun V42 => if sx_in l7 100 = true then (F_X12_scaled ((V42.1 155 l7.toNatClampNeg).toInt64) V42).bind (fun (x46, V44) => if sx_in (l4 + l7) 612 = true then sx_let (sv_I V44 193 (l4 + l7).toNatClampNeg x46) (fun V48 => if sx_in l7 100 = true then if ((V48.1 156 l7.toNatClampNeg) &&& (1 : Int32)) = 0 then (B_X12_makeGlyph_303 N kb k224 l1 l2 l4 l7 (l4 + l7) (0 : Int32) V48) else (B_X12_makeGlyph_303 N kb k224 l1 l2 l4 l7 (l4 + l7) (1 : Int32) V48) else none) else none) else none) else none) else none)
set_option maxRecDepth 20000 in
theorem tB_X12_makeGlyph_224 {g : sx_G} (hG : sx_Go g) {P : Option Value → sv_V → Prop} {Vr : sv_V} (hP : P none Vr) {N : Nat} {D : Nat} {kb : Int32 → Int32 → sv_V → Option sv_V} (hkb : ∀ (l1 : Int32) (l2 : Int32) (V : sv_V) (Wr : sv_V), kb l1 l2 V = some Wr → ∀ P : Option Value → sv_V → Prop, P none Wr → sv_N g qX12_makeGlyph (30 + 2 * D) 0 [(0, .ref 146), (1, .int l1), (2, .int l2)] [] V P) {k224 : Int32 → Int32 → Int32 → Int32 → sv_V → Option sv_V} (hk224 : ∀ (l1 : Int32) (l2 : Int32) (l4 : Int32) (l7 : Int32) (V : sv_V), k224 l1 l2 l4 l7 V = some Vr → sv_N g qX12_makeGlyph (30 + 2 * (D + 1)) 224 [(0, .ref 146), (1, .int l1), (2, .int l2), (4, .int l4), (7, .int l7)] [] V P) {l1 : Int32} {l2 : Int32} {l4 : Int32} {l7 : Int32} {V : sv_V} (h : B_X12_makeGlyph_224 N kb k224 l1 l2 l4 l7 V = some Vr) : sv_N g qX12_makeGlyph (30 + 2 * (D + 1)) 224 [(0, .ref 146), (1, .int l1), (2, .int l2), (4, .int l4), (7, .int l7)] [] V P := by
  unfold B_X12_makeGlyph_224 at h
  refine sx_iload (pc := 224) dX12_makeGlyph_224 sx_m4 ?_
  refine sx_aload_n (pc := 226) dX12_makeGlyph_226 sx_m0 ?_
  refine sv_getI (pc := 227) hG dX12_makeGlyph_227 f_12_351 lay_146 rfl ?_
  refine sx_icmp_ge (pc := 230) (tgt := 310) dX12_makeGlyph_230 (by decide) (fun c36 => ?_) (fun c36 => ?_)
  · have h := sx_pos c36 h
    refine sx_wk (sx_s1 sx_m0 (sx_s1 sx_m1 (sx_s1 sx_m2 (sx_s1 sx_m3 sx_s0)))) ?_
    exact tB_X12_makeGlyph_310 hG hP hkb  h
  · have h := sx_neg c36 h
    refine sx_aload_n (pc := 233) dX12_makeGlyph_233 sx_m0 ?_
    refine sv_getA (pc := 234) hG dX12_makeGlyph_234 f_12_152 lay_146 rfl cr_146_120 ?_
    refine sx_iload (pc := 237) dX12_makeGlyph_237 sx_m3 ?_
    refine sx_iload (pc := 239) dX12_makeGlyph_239 sx_m4 ?_
    refine sx_iadd (pc := 241) dX12_makeGlyph_241 ?_
    refine sx_aload_n (pc := 242) dX12_makeGlyph_242 sx_m0 ?_
    refine sx_aload_n (pc := 243) dX12_makeGlyph_243 sx_m0 ?_
    refine sv_getA (pc := 244) hG dX12_makeGlyph_244 f_12_33 lay_146 rfl cr_146_34 ?_
    refine sx_iload (pc := 247) dX12_makeGlyph_247 sx_m4 ?_
    obtain ⟨g37, h⟩ := sx_grd h
    refine sv_iald (pc := 249) hG dX12_makeGlyph_249 lay_154 g37 ?_
    refine sx_i2l (pc := 250) dX12_makeGlyph_250 ?_
    obtain ⟨⟨x40, V38⟩, g39, h⟩ := sx_bnd h
    refine sv_cV (pc := 251) (y := qX12_scaled) (o := (some (.int x40))) (as := [.long ((V.1 154 l7.toNatClampNeg).toInt64)]) (V1 := V38) hG dX12_makeGlyph_251 l_X12_611 y0X12_scaled yvX12_scaled rfl (Nat.le_of_ble_eq_true rfl) lay_146 kr_12 (by omega) (Nat.le_of_ble_eq_true rfl) rfl rfl rfl (t_X12_scaled hG ⟨rfl, rfl⟩ g39) ?_
    obtain ⟨g41, h⟩ := sx_grd h
    obtain ⟨V42, hV42⟩ : ∃ z : sv_V, z = sv_I V38 192 (l4 + l7).toNatClampNeg x40 := ⟨_, rfl⟩
    have h := sx_letE hV42 h
    refine sv_iast (pc := 254) hG dX12_makeGlyph_254 lay_192 g41 hV42 ?_
    refine sx_aload_n (pc := 255) dX12_makeGlyph_255 sx_m0 ?_
    refine sv_getA (pc := 256) hG dX12_makeGlyph_256 f_12_155 lay_146 rfl cr_146_121 ?_
    refine sx_iload (pc := 259) dX12_makeGlyph_259 sx_m3 ?_
    refine sx_iload (pc := 261) dX12_makeGlyph_261 sx_m4 ?_
    refine sx_iadd (pc := 263) dX12_makeGlyph_263 ?_
    refine sx_aload_n (pc := 264) dX12_makeGlyph_264 sx_m0 ?_
    refine sx_aload_n (pc := 265) dX12_makeGlyph_265 sx_m0 ?_
    refine sv_getA (pc := 266) hG dX12_makeGlyph_266 f_12_36 lay_146 rfl cr_146_35 ?_
    refine sx_iload (pc := 269) dX12_makeGlyph_269 sx_m4 ?_
    obtain ⟨g43, h⟩ := sx_grd h
    refine sv_iald (pc := 271) hG dX12_makeGlyph_271 lay_155 g43 ?_
    refine sx_i2l (pc := 272) dX12_makeGlyph_272 ?_
    obtain ⟨⟨x46, V44⟩, g45, h⟩ := sx_bnd h
    refine sv_cV (pc := 273) (y := qX12_scaled) (o := (some (.int x46))) (as := [.long ((V42.1 155 l7.toNatClampNeg).toInt64)]) (V1 := V44) hG dX12_makeGlyph_273 l_X12_611 y0X12_scaled yvX12_scaled rfl (Nat.le_of_ble_eq_true rfl) lay_146 kr_12 (by omega) (Nat.le_of_ble_eq_true rfl) rfl rfl rfl (t_X12_scaled hG ⟨rfl, rfl⟩ g45) ?_
    obtain ⟨g47, h⟩ := sx_grd h
    obtain ⟨V48, hV48⟩ : ∃ z : sv_V, z = sv_I V44 193 (l4 + l7).toNatClampNeg x46 := ⟨_, rfl⟩
    have h := sx_letE hV48 h
    refine sv_iast (pc := 276) hG dX12_makeGlyph_276 lay_193 g47 hV48 ?_
    refine sx_aload_n (pc := 277) dX12_makeGlyph_277 sx_m0 ?_
    refine sv_getA (pc := 278) hG dX12_makeGlyph_278 f_12_158 lay_146 rfl cr_146_122 ?_
    refine sx_iload (pc := 281) dX12_makeGlyph_281 sx_m3 ?_
    refine sx_iload (pc := 283) dX12_makeGlyph_283 sx_m4 ?_
    refine sx_iadd (pc := 285) dX12_makeGlyph_285 ?_
    refine sx_aload_n (pc := 286) dX12_makeGlyph_286 sx_m0 ?_
    refine sv_getA (pc := 287) hG dX12_makeGlyph_287 f_12_39 lay_146 rfl cr_146_36 ?_
    refine sx_iload (pc := 290) dX12_makeGlyph_290 sx_m4 ?_
    obtain ⟨g49, h⟩ := sx_grd h
    refine sv_iald (pc := 292) hG dX12_makeGlyph_292 lay_156 g49 ?_
    refine sx_iconst (pc := 293) (v := 1) dX12_makeGlyph_293 (by decide) ?_
    refine sx_iand (pc := 294) dX12_makeGlyph_294 ?_
    refine sx_if_eq (pc := 295) (tgt := 302) dX12_makeGlyph_295 (by decide) (fun c50 => ?_) (fun c50 => ?_)
    · have h := sx_pos c50 h
      refine sx_iconst (pc := 302) (v := 0) dX12_makeGlyph_302 (by decide) ?_
      refine sx_wk (sx_s1 sx_m0 (sx_s1 sx_m1 (sx_s1 sx_m2 (sx_s1 sx_m3 (sx_s1 sx_m4 sx_s0))))) ?_
      exact tB_X12_makeGlyph_303 hG hP hkb hk224 h
    · have h := sx_neg c50 h
      refine sx_iconst (pc := 298) (v := 1) dX12_makeGlyph_298 (by decide) ?_
      refine sx_goto (pc := 299) (tgt := 303) dX12_makeGlyph_299 (by decide) ?_
      refine sx_wk (sx_s1 sx_m0 (sx_s1 sx_m1 (sx_s1 sx_m2 (sx_s1 sx_m3 (sx_s1 sx_m4 sx_s0))))) ?_
      exact tB_X12_makeGlyph_303 hG hP hkb hk224 h
theorem tL_X12_makeGlyph_224 {g : sx_G} (hG : sx_Go g) {P : Option Value → sv_V → Prop} {Vr : sv_V} (hP : P none Vr) {N : Nat} {D : Nat} {kb : Int32 → Int32 → sv_V → Option sv_V} (hkb : ∀ (l1 : Int32) (l2 : Int32) (V : sv_V) (Wr : sv_V), kb l1 l2 V = some Wr → ∀ P : Option Value → sv_V → Prop, P none Wr → sv_N g qX12_makeGlyph (30 + 2 * D) 0 [(0, .ref 146), (1, .int l1), (2, .int l2)] [] V P)   : ∀ (n : Nat) (l1 : Int32) (l2 : Int32) (l4 : Int32) (l7 : Int32) (V : sv_V), sx_lp5 (B_X12_makeGlyph_224 N kb ) n l1 l2 l4 l7 V = some Vr → sv_N g qX12_makeGlyph (30 + 2 * (D + 1)) 224 [(0, .ref 146), (1, .int l1), (2, .int l2), (4, .int l4), (7, .int l7)] [] V P :=
  sx_lp5_ind (fun k0 ih _ _ _ _ V h => tB_X12_makeGlyph_224 hG hP hkb ih h)
def B_X12_makeGlyph_185 (N : Nat) (kb : Int32 → Int32 → sv_V → Option sv_V) (k185 : Int32 → Int32 → Int32 → Int32 → sv_V → Option sv_V) (l1 : Int32) (l2 : Int32) (l4 : Int32) (l7 : Int32) (V : sv_V) : Option sv_V := if sx_in l2 6 = true then if (V.1 191 l2.toNatClampNeg) ≤ l7 then (sx_lp5 (B_X12_makeGlyph_224 N kb ) N l1 l2 l4 (0 : Int32) V) else (if sx_in l7 12 = true then if sx_in (((20 : Int32) * l2) + l7) 120 = true then sx_let (sv_I V 195 (((20 : Int32) * l2) + l7).toNatClampNeg (V.1 153 l7.toNatClampNeg)) (fun V55 => sx_let (l7 + 1) (fun x56 => k185 l1 l2 l4 x56 V55)) else none else none) else none
set_option maxRecDepth 20000 in
theorem tB_X12_makeGlyph_185 {g : sx_G} (hG : sx_Go g) {P : Option Value → sv_V → Prop} {Vr : sv_V} (hP : P none Vr) {N : Nat} {D : Nat} {kb : Int32 → Int32 → sv_V → Option sv_V} (hkb : ∀ (l1 : Int32) (l2 : Int32) (V : sv_V) (Wr : sv_V), kb l1 l2 V = some Wr → ∀ P : Option Value → sv_V → Prop, P none Wr → sv_N g qX12_makeGlyph (30 + 2 * D) 0 [(0, .ref 146), (1, .int l1), (2, .int l2)] [] V P) {k185 : Int32 → Int32 → Int32 → Int32 → sv_V → Option sv_V} (hk185 : ∀ (l1 : Int32) (l2 : Int32) (l4 : Int32) (l7 : Int32) (V : sv_V), k185 l1 l2 l4 l7 V = some Vr → sv_N g qX12_makeGlyph (30 + 2 * (D + 1)) 185 [(0, .ref 146), (1, .int l1), (2, .int l2), (4, .int l4), (7, .int l7)] [] V P) {l1 : Int32} {l2 : Int32} {l4 : Int32} {l7 : Int32} {V : sv_V} (h : B_X12_makeGlyph_185 N kb k185 l1 l2 l4 l7 V = some Vr) : sv_N g qX12_makeGlyph (30 + 2 * (D + 1)) 185 [(0, .ref 146), (1, .int l1), (2, .int l2), (4, .int l4), (7, .int l7)] [] V P := by
  unfold B_X12_makeGlyph_185 at h
  refine sx_iload (pc := 185) dX12_makeGlyph_185 sx_m4 ?_
  refine sx_aload_n (pc := 187) dX12_makeGlyph_187 sx_m0 ?_
  refine sv_getA (pc := 188) hG dX12_makeGlyph_188 f_12_149 lay_146 rfl cr_146_119 ?_
  refine sx_iload_n (pc := 191) dX12_makeGlyph_191 sx_m2 ?_
  obtain ⟨g51, h⟩ := sx_grd h
  refine sv_iald (pc := 192) hG dX12_makeGlyph_192 lay_191 g51 ?_
  refine sx_icmp_ge (pc := 193) (tgt := 221) dX12_makeGlyph_193 (by decide) (fun c52 => ?_) (fun c52 => ?_)
  · have h := sx_pos c52 h
    refine sx_iconst (pc := 221) (v := 0) dX12_makeGlyph_221 (by decide) ?_
    refine sx_istore (pc := 222) (lo' := [(7, .int (0 : Int32)), (0, .ref 146), (1, .int l1), (2, .int l2), (4, .int l4)]) dX12_makeGlyph_222 (by decide) rfl ?_
    refine sx_wk (sx_s1 sx_m1 (sx_s1 sx_m2 (sx_s1 sx_m3 (sx_s1 sx_m4 (sx_s1 sx_m0 sx_s0))))) ?_
    exact tL_X12_makeGlyph_224 hG hP hkb  N _ _ _ _ _ h
  · have h := sx_neg c52 h
    refine sx_aload_n (pc := 196) dX12_makeGlyph_196 sx_m0 ?_
    refine sv_getA (pc := 197) hG dX12_makeGlyph_197 f_12_161 lay_146 rfl cr_146_123 ?_
    refine sx_bipush (pc := 200) (v := 20) dX12_makeGlyph_200 (by decide) ?_
    refine sx_iload_n (pc := 202) dX12_makeGlyph_202 sx_m2 ?_
    refine sx_imul (pc := 203) dX12_makeGlyph_203 ?_
    refine sx_iload (pc := 204) dX12_makeGlyph_204 sx_m4 ?_
    refine sx_iadd (pc := 206) dX12_makeGlyph_206 ?_
    refine sx_aload_n (pc := 207) dX12_makeGlyph_207 sx_m0 ?_
    refine sv_getA (pc := 208) hG dX12_makeGlyph_208 f_12_30 lay_146 rfl cr_146_33 ?_
    refine sx_iload (pc := 211) dX12_makeGlyph_211 sx_m4 ?_
    obtain ⟨g53, h⟩ := sx_grd h
    refine sv_iald (pc := 213) hG dX12_makeGlyph_213 lay_153 g53 ?_
    obtain ⟨g54, h⟩ := sx_grd h
    obtain ⟨V55, hV55⟩ : ∃ z : sv_V, z = sv_I V 195 (((20 : Int32) * l2) + l7).toNatClampNeg (V.1 153 l7.toNatClampNeg) := ⟨_, rfl⟩
    have h := sx_letE hV55 h
    refine sv_iast (pc := 214) hG dX12_makeGlyph_214 lay_195 g54 hV55 ?_
    obtain ⟨x56, hx56⟩ : ∃ z : Int32, z = l7 + 1 := ⟨_, rfl⟩
    have h := sx_letE hx56 h
    refine sx_iinc (pc := 215) (v := x56) (lo' := [(7, .int x56), (0, .ref 146), (1, .int l1), (2, .int l2), (4, .int l4)]) dX12_makeGlyph_215 sx_m4 (by rw [hx56]; rfl) (by decide) rfl ?_
    refine sx_goto (pc := 218) (tgt := 185) dX12_makeGlyph_218 (by decide) ?_
    refine sx_wk (sx_s1 sx_m1 (sx_s1 sx_m2 (sx_s1 sx_m3 (sx_s1 sx_m4 (sx_s1 sx_m0 sx_s0))))) ?_
    exact hk185 _ _ _ _ _ h
theorem tL_X12_makeGlyph_185 {g : sx_G} (hG : sx_Go g) {P : Option Value → sv_V → Prop} {Vr : sv_V} (hP : P none Vr) {N : Nat} {D : Nat} {kb : Int32 → Int32 → sv_V → Option sv_V} (hkb : ∀ (l1 : Int32) (l2 : Int32) (V : sv_V) (Wr : sv_V), kb l1 l2 V = some Wr → ∀ P : Option Value → sv_V → Prop, P none Wr → sv_N g qX12_makeGlyph (30 + 2 * D) 0 [(0, .ref 146), (1, .int l1), (2, .int l2)] [] V P)   : ∀ (n : Nat) (l1 : Int32) (l2 : Int32) (l4 : Int32) (l7 : Int32) (V : sv_V), sx_lp5 (B_X12_makeGlyph_185 N kb ) n l1 l2 l4 l7 V = some Vr → sv_N g qX12_makeGlyph (30 + 2 * (D + 1)) 185 [(0, .ref 146), (1, .int l1), (2, .int l2), (4, .int l4), (7, .int l7)] [] V P :=
  sx_lp5_ind (fun k0 ih _ _ _ _ V h => tB_X12_makeGlyph_185 hG hP hkb ih h)
def B_X12_makeGlyph_181 (N : Nat) (kb : Int32 → Int32 → sv_V → Option sv_V)  (l1 : Int32) (l2 : Int32) (l4 : Int32) (s1 : Int32) (s2 : Int32) (V : sv_V) : Option sv_V := if sx_in s1 6 = true then sx_let (sv_I V 191 s1.toNatClampNeg s2) (fun V58 => sx_lp5 (B_X12_makeGlyph_185 N kb ) N l1 l2 l4 (0 : Int32) V58) else none
set_option maxRecDepth 20000 in
theorem tB_X12_makeGlyph_181 {g : sx_G} (hG : sx_Go g) {P : Option Value → sv_V → Prop} {Vr : sv_V} (hP : P none Vr) {N : Nat} {D : Nat} {kb : Int32 → Int32 → sv_V → Option sv_V} (hkb : ∀ (l1 : Int32) (l2 : Int32) (V : sv_V) (Wr : sv_V), kb l1 l2 V = some Wr → ∀ P : Option Value → sv_V → Prop, P none Wr → sv_N g qX12_makeGlyph (30 + 2 * D) 0 [(0, .ref 146), (1, .int l1), (2, .int l2)] [] V P)   {l1 : Int32} {l2 : Int32} {l4 : Int32} {s1 : Int32} {s2 : Int32} {V : sv_V} (h : B_X12_makeGlyph_181 N kb  l1 l2 l4 s1 s2 V = some Vr) : sv_N g qX12_makeGlyph (30 + 2 * (D + 1)) 181 [(0, .ref 146), (1, .int l1), (2, .int l2), (4, .int l4)] [.int s2, .int s1, .ref 191] V P := by
  unfold B_X12_makeGlyph_181 at h
  obtain ⟨g57, h⟩ := sx_grd h
  obtain ⟨V58, hV58⟩ : ∃ z : sv_V, z = sv_I V 191 s1.toNatClampNeg s2 := ⟨_, rfl⟩
  have h := sx_letE hV58 h
  refine sv_iast (pc := 181) hG dX12_makeGlyph_181 lay_191 g57 hV58 ?_
  refine sx_iconst (pc := 182) (v := 0) dX12_makeGlyph_182 (by decide) ?_
  refine sx_istore (pc := 183) (lo' := [(7, .int (0 : Int32)), (0, .ref 146), (1, .int l1), (2, .int l2), (4, .int l4)]) dX12_makeGlyph_183 (by decide) rfl ?_
  refine sx_wk (sx_s1 sx_m1 (sx_s1 sx_m2 (sx_s1 sx_m3 (sx_s1 sx_m4 (sx_s1 sx_m0 sx_s0))))) ?_
  exact tL_X12_makeGlyph_185 hG hP hkb  N _ _ _ _ _ h
def G_X12_makeGlyph (N : Nat) (kb : Int32 → Int32 → sv_V → Option sv_V) (l1 : Int32) (l2 : Int32) (V : sv_V) : Option sv_V := (F_X12_leftOf N l1 V).bind (fun (x61, V59) => sx_let ((102 : Int32) * l2) (fun x62 => (F_X12_bearingOf N l1 V59).bind (fun (x65, V63) => sx_let (x61 - x65) (fun x66 => (F_X12_scaled x66.toInt64 V63).bind (fun (x69, V67) => if sx_in ((4 : Int32) * l2) 24 = true then sx_let (sv_I V67 196 ((4 : Int32) * l2).toNatClampNeg x69) (fun V71 => if sx_in (((4 : Int32) * l2) + (1 : Int32)) 24 = true then sx_let (sv_I V71 196 (((4 : Int32) * l2) + (1 : Int32)).toNatClampNeg (0 : Int32)) (fun V73 => (F_X12_advanceOf N l1 V73).bind (fun (x76, V74) => (F_X12_scaled (x66.toInt64 + x76.toInt64) V74).bind (fun (x79, V77) => if sx_in (((4 : Int32) * l2) + (2 : Int32)) 24 = true then sx_let (sv_I V77 196 (((4 : Int32) * l2) + (2 : Int32)).toNatClampNeg x79) (fun V81 => if sx_in (((4 : Int32) * l2) + (3 : Int32)) 24 = true then sx_let (sv_I V81 196 (((4 : Int32) * l2) + (3 : Int32)).toNatClampNeg (0 : Int32)) (fun V83 => if sx_in l2 6 = true then sx_let (sv_I V83 190 l2.toNatClampNeg (0 : Int32)) (fun V85 => if sx_in l2 6 = true then sx_let (sv_I V85 191 l2.toNatClampNeg (0 : Int32)) (fun V87 => (F_X12_isGlyph N l1 V87).bind (fun (x90, V88) => if (V88.1 146 28) = (-1 : Int32) then (sx_let (V88.1 146 30) (fun x95 => sx_lp6 (B_X12_makeGlyph_120 N kb ) N l1 l2 x62 x95 (0 : Int32) V88)) else (if sx_in l2 6 = true then sx_let (sv_I V88 190 l2.toNatClampNeg (V88.1 146 29)) (fun V93 => if (V93.1 146 29) = 0 then (B_X12_makeGlyph_181 N kb  l1 l2 x62 l2 (0 : Int32) V93) else (B_X12_makeGlyph_181 N kb  l1 l2 x62 l2 (V93.1 146 28) V93)) else none))) else none) else none) else none) else none))) else none) else none)))))
set_option maxRecDepth 20000 in
theorem tG_X12_makeGlyph {g : sx_G} (hG : sx_Go g) {P : Option Value → sv_V → Prop} {Vr : sv_V} (hP : P none Vr) {N : Nat} {D : Nat} {kb : Int32 → Int32 → sv_V → Option sv_V} (hkb : ∀ (l1 : Int32) (l2 : Int32) (V : sv_V) (Wr : sv_V), kb l1 l2 V = some Wr → ∀ P : Option Value → sv_V → Prop, P none Wr → sv_N g qX12_makeGlyph (30 + 2 * D) 0 [(0, .ref 146), (1, .int l1), (2, .int l2)] [] V P) {l1 : Int32} {l2 : Int32} {V : sv_V} (h : G_X12_makeGlyph N kb l1 l2 V = some Vr) : sv_N g qX12_makeGlyph (30 + 2 * (D + 1)) 0 [(0, .ref 146), (1, .int l1), (2, .int l2)] [] V P := by
  unfold G_X12_makeGlyph at h
  refine sx_aload_n (pc := 0) dX12_makeGlyph_0 sx_m0 ?_
  refine sx_iload_n (pc := 1) dX12_makeGlyph_1 sx_m1 ?_
  obtain ⟨⟨x61, V59⟩, g60, h⟩ := sx_bnd h
  refine sv_cV (pc := 2) (y := qX12_leftOf) (o := (some (.int x61))) (as := [.int l1]) (V1 := V59) hG dX12_makeGlyph_2 l_X12_779 y0X12_leftOf yvX12_leftOf rfl (Nat.le_of_ble_eq_true rfl) lay_146 kr_12 (by omega) (Nat.le_of_ble_eq_true rfl) rfl rfl rfl (t_X12_leftOf hG ⟨rfl, rfl⟩ g60) ?_
  refine sx_istore_n (pc := 5) (lo' := [(3, .int x61), (0, .ref 146), (1, .int l1), (2, .int l2)]) dX12_makeGlyph_5 (by decide) rfl ?_
  refine sx_bipush (pc := 6) (v := 102) dX12_makeGlyph_6 (by decide) ?_
  refine sx_iload_n (pc := 8) dX12_makeGlyph_8 sx_m3 ?_
  refine sx_imul (pc := 9) dX12_makeGlyph_9 ?_
  refine sv_tI (fun x62 hx62 => ?_)
  have h := sx_letE hx62 h
  refine sx_istore (pc := 10) (lo' := [(4, .int x62), (3, .int x61), (0, .ref 146), (1, .int l1), (2, .int l2)]) dX12_makeGlyph_10 (by decide) rfl ?_
  refine sx_iload_n (pc := 12) dX12_makeGlyph_12 sx_m1 ?_
  refine sx_aload_n (pc := 13) dX12_makeGlyph_13 sx_m2 ?_
  refine sx_iload_n (pc := 14) dX12_makeGlyph_14 sx_m3 ?_
  obtain ⟨⟨x65, V63⟩, g64, h⟩ := sx_bnd h
  refine sv_cV (pc := 15) (y := qX12_bearingOf) (o := (some (.int x65))) (as := [.int l1]) (V1 := V63) hG dX12_makeGlyph_15 l_X12_782 y0X12_bearingOf yvX12_bearingOf rfl (Nat.le_of_ble_eq_true rfl) lay_146 kr_12 (by omega) (Nat.le_of_ble_eq_true rfl) rfl rfl rfl (t_X12_bearingOf hG ⟨rfl, rfl⟩ g64) ?_
  refine sx_isub (pc := 18) dX12_makeGlyph_18 ?_
  refine sv_tI (fun x66 hx66 => ?_)
  have h := sx_letE hx66 h
  refine sx_istore (pc := 19) (lo' := [(5, .int x66), (4, .int x62), (3, .int x61), (0, .ref 146), (1, .int l1), (2, .int l2)]) dX12_makeGlyph_19 (by decide) rfl ?_
  refine sx_aload_n (pc := 21) dX12_makeGlyph_21 sx_m3 ?_
  refine sv_getA (pc := 22) hG dX12_makeGlyph_22 f_12_164 lay_146 rfl cr_146_124 ?_
  refine sx_iconst (pc := 25) (v := 4) dX12_makeGlyph_25 (by decide) ?_
  refine sx_iload_n (pc := 26) dX12_makeGlyph_26 sx_m5 ?_
  refine sx_imul (pc := 27) dX12_makeGlyph_27 ?_
  refine sx_aload_n (pc := 28) dX12_makeGlyph_28 sx_m3 ?_
  refine sx_iload (pc := 29) dX12_makeGlyph_29 sx_m0 ?_
  refine sx_i2l (pc := 31) dX12_makeGlyph_31 ?_
  obtain ⟨⟨x69, V67⟩, g68, h⟩ := sx_bnd h
  refine sv_cV (pc := 32) (y := qX12_scaled) (o := (some (.int x69))) (as := [.long x66.toInt64]) (V1 := V67) hG dX12_makeGlyph_32 l_X12_611 y0X12_scaled yvX12_scaled rfl (Nat.le_of_ble_eq_true rfl) lay_146 kr_12 (by omega) (Nat.le_of_ble_eq_true rfl) rfl rfl rfl (t_X12_scaled hG ⟨rfl, rfl⟩ g68) ?_
  obtain ⟨g70, h⟩ := sx_grd h
  obtain ⟨V71, hV71⟩ : ∃ z : sv_V, z = sv_I V67 196 ((4 : Int32) * l2).toNatClampNeg x69 := ⟨_, rfl⟩
  have h := sx_letE hV71 h
  refine sv_iast (pc := 35) hG dX12_makeGlyph_35 lay_196 g70 hV71 ?_
  refine sx_aload_n (pc := 36) dX12_makeGlyph_36 sx_m3 ?_
  refine sv_getA (pc := 37) hG dX12_makeGlyph_37 f_12_164 lay_146 rfl cr_146_124 ?_
  refine sx_iconst (pc := 40) (v := 4) dX12_makeGlyph_40 (by decide) ?_
  refine sx_iload_n (pc := 41) dX12_makeGlyph_41 sx_m5 ?_
  refine sx_imul (pc := 42) dX12_makeGlyph_42 ?_
  refine sx_iconst (pc := 43) (v := 1) dX12_makeGlyph_43 (by decide) ?_
  refine sx_iadd (pc := 44) dX12_makeGlyph_44 ?_
  refine sx_iconst (pc := 45) (v := 0) dX12_makeGlyph_45 (by decide) ?_
  obtain ⟨g72, h⟩ := sx_grd h
  obtain ⟨V73, hV73⟩ : ∃ z : sv_V, z = sv_I V71 196 (((4 : Int32) * l2) + (1 : Int32)).toNatClampNeg (0 : Int32) := ⟨_, rfl⟩
  have h := sx_letE hV73 h
  refine sv_iast (pc := 46) hG dX12_makeGlyph_46 lay_196 g72 hV73 ?_
  refine sx_aload_n (pc := 47) dX12_makeGlyph_47 sx_m3 ?_
  refine sv_getA (pc := 48) hG dX12_makeGlyph_48 f_12_164 lay_146 rfl cr_146_124 ?_
  refine sx_iconst (pc := 51) (v := 4) dX12_makeGlyph_51 (by decide) ?_
  refine sx_iload_n (pc := 52) dX12_makeGlyph_52 sx_m5 ?_
  refine sx_imul (pc := 53) dX12_makeGlyph_53 ?_
  refine sx_iconst (pc := 54) (v := 2) dX12_makeGlyph_54 (by decide) ?_
  refine sx_iadd (pc := 55) dX12_makeGlyph_55 ?_
  refine sx_aload_n (pc := 56) dX12_makeGlyph_56 sx_m3 ?_
  refine sx_iload (pc := 57) dX12_makeGlyph_57 sx_m0 ?_
  refine sx_i2l (pc := 59) dX12_makeGlyph_59 ?_
  refine sx_aload_n (pc := 60) dX12_makeGlyph_60 sx_m3 ?_
  refine sx_iload_n (pc := 61) dX12_makeGlyph_61 sx_m4 ?_
  obtain ⟨⟨x76, V74⟩, g75, h⟩ := sx_bnd h
  refine sv_cV (pc := 62) (y := qX12_advanceOf) (o := (some (.int x76))) (as := [.int l1]) (V1 := V74) hG dX12_makeGlyph_62 l_X12_785 y0X12_advanceOf yvX12_advanceOf rfl (Nat.le_of_ble_eq_true rfl) lay_146 kr_12 (by omega) (Nat.le_of_ble_eq_true rfl) rfl rfl rfl (t_X12_advanceOf hG ⟨rfl, rfl⟩ g75) ?_
  refine sx_i2l (pc := 65) dX12_makeGlyph_65 ?_
  refine sx_ladd (pc := 66) dX12_makeGlyph_66 ?_
  obtain ⟨⟨x79, V77⟩, g78, h⟩ := sx_bnd h
  refine sv_cV (pc := 67) (y := qX12_scaled) (o := (some (.int x79))) (as := [.long (x66.toInt64 + x76.toInt64)]) (V1 := V77) hG dX12_makeGlyph_67 l_X12_611 y0X12_scaled yvX12_scaled rfl (Nat.le_of_ble_eq_true rfl) lay_146 kr_12 (by omega) (Nat.le_of_ble_eq_true rfl) rfl rfl rfl (t_X12_scaled hG ⟨rfl, rfl⟩ g78) ?_
  obtain ⟨g80, h⟩ := sx_grd h
  obtain ⟨V81, hV81⟩ : ∃ z : sv_V, z = sv_I V77 196 (((4 : Int32) * l2) + (2 : Int32)).toNatClampNeg x79 := ⟨_, rfl⟩
  have h := sx_letE hV81 h
  refine sv_iast (pc := 70) hG dX12_makeGlyph_70 lay_196 g80 hV81 ?_
  refine sx_aload_n (pc := 71) dX12_makeGlyph_71 sx_m3 ?_
  refine sv_getA (pc := 72) hG dX12_makeGlyph_72 f_12_164 lay_146 rfl cr_146_124 ?_
  refine sx_iconst (pc := 75) (v := 4) dX12_makeGlyph_75 (by decide) ?_
  refine sx_iload_n (pc := 76) dX12_makeGlyph_76 sx_m5 ?_
  refine sx_imul (pc := 77) dX12_makeGlyph_77 ?_
  refine sx_iconst (pc := 78) (v := 3) dX12_makeGlyph_78 (by decide) ?_
  refine sx_iadd (pc := 79) dX12_makeGlyph_79 ?_
  refine sx_iconst (pc := 80) (v := 0) dX12_makeGlyph_80 (by decide) ?_
  obtain ⟨g82, h⟩ := sx_grd h
  obtain ⟨V83, hV83⟩ : ∃ z : sv_V, z = sv_I V81 196 (((4 : Int32) * l2) + (3 : Int32)).toNatClampNeg (0 : Int32) := ⟨_, rfl⟩
  have h := sx_letE hV83 h
  refine sv_iast (pc := 81) hG dX12_makeGlyph_81 lay_196 g82 hV83 ?_
  refine sx_aload_n (pc := 82) dX12_makeGlyph_82 sx_m3 ?_
  refine sv_getA (pc := 83) hG dX12_makeGlyph_83 f_12_146 lay_146 rfl cr_146_118 ?_
  refine sx_iload_n (pc := 86) dX12_makeGlyph_86 sx_m5 ?_
  refine sx_iconst (pc := 87) (v := 0) dX12_makeGlyph_87 (by decide) ?_
  obtain ⟨g84, h⟩ := sx_grd h
  obtain ⟨V85, hV85⟩ : ∃ z : sv_V, z = sv_I V83 190 l2.toNatClampNeg (0 : Int32) := ⟨_, rfl⟩
  have h := sx_letE hV85 h
  refine sv_iast (pc := 88) hG dX12_makeGlyph_88 lay_190 g84 hV85 ?_
  refine sx_aload_n (pc := 89) dX12_makeGlyph_89 sx_m3 ?_
  refine sv_getA (pc := 90) hG dX12_makeGlyph_90 f_12_149 lay_146 rfl cr_146_119 ?_
  refine sx_iload_n (pc := 93) dX12_makeGlyph_93 sx_m5 ?_
  refine sx_iconst (pc := 94) (v := 0) dX12_makeGlyph_94 (by decide) ?_
  obtain ⟨g86, h⟩ := sx_grd h
  obtain ⟨V87, hV87⟩ : ∃ z : sv_V, z = sv_I V85 191 l2.toNatClampNeg (0 : Int32) := ⟨_, rfl⟩
  have h := sx_letE hV87 h
  refine sv_iast (pc := 95) hG dX12_makeGlyph_95 lay_191 g86 hV87 ?_
  refine sx_aload_n (pc := 96) dX12_makeGlyph_96 sx_m3 ?_
  refine sx_iload_n (pc := 97) dX12_makeGlyph_97 sx_m4 ?_
  obtain ⟨⟨x90, V88⟩, g89, h⟩ := sx_bnd h
  refine sv_cV (pc := 98) (y := qX12_isGlyph) (o := (some (.int x90))) (as := [.int l1]) (V1 := V88) hG dX12_makeGlyph_98 l_X12_278 y0X12_isGlyph yvX12_isGlyph rfl (Nat.le_of_ble_eq_true rfl) lay_146 kr_12 (by omega) (Nat.le_of_ble_eq_true rfl) rfl rfl rfl (t_X12_isGlyph hG ⟨rfl, rfl⟩ g89) ?_
  refine sx_istore (pc := 101) (lo' := [(6, .int x90), (5, .int x66), (4, .int x62), (3, .int x61), (0, .ref 146), (1, .int l1), (2, .int l2)]) dX12_makeGlyph_101 (by decide) rfl ?_
  refine sx_aload_n (pc := 103) dX12_makeGlyph_103 sx_m4 ?_
  refine sv_getI (pc := 104) hG dX12_makeGlyph_104 f_12_348 lay_146 rfl ?_
  refine sx_iconst (pc := 107) (v := (-1)) dX12_makeGlyph_107 (by decide) ?_
  refine sx_icmp_ne (pc := 108) (tgt := 151) dX12_makeGlyph_108 (by decide) (fun c91 => ?_) (fun c91 => ?_)
  · have h := sx_neg c91 h
    refine sx_aload_n (pc := 151) dX12_makeGlyph_151 sx_m4 ?_
    refine sv_getA (pc := 152) hG dX12_makeGlyph_152 f_12_146 lay_146 rfl cr_146_118 ?_
    refine sx_iload_n (pc := 155) dX12_makeGlyph_155 sx_m6 ?_
    refine sx_aload_n (pc := 156) dX12_makeGlyph_156 sx_m4 ?_
    refine sv_getI (pc := 157) hG dX12_makeGlyph_157 f_12_351 lay_146 rfl ?_
    obtain ⟨g92, h⟩ := sx_grd h
    obtain ⟨V93, hV93⟩ : ∃ z : sv_V, z = sv_I V88 190 l2.toNatClampNeg (V88.1 146 29) := ⟨_, rfl⟩
    have h := sx_letE hV93 h
    refine sv_iast (pc := 160) hG dX12_makeGlyph_160 lay_190 g92 hV93 ?_
    refine sx_aload_n (pc := 161) dX12_makeGlyph_161 sx_m4 ?_
    refine sv_getA (pc := 162) hG dX12_makeGlyph_162 f_12_149 lay_146 rfl cr_146_119 ?_
    refine sx_iload_n (pc := 165) dX12_makeGlyph_165 sx_m6 ?_
    refine sx_aload_n (pc := 166) dX12_makeGlyph_166 sx_m4 ?_
    refine sv_getI (pc := 167) hG dX12_makeGlyph_167 f_12_351 lay_146 rfl ?_
    refine sx_if_ne (pc := 170) (tgt := 177) dX12_makeGlyph_170 (by decide) (fun c94 => ?_) (fun c94 => ?_)
    · have h := sx_neg c94 h
      refine sx_aload_n (pc := 177) dX12_makeGlyph_177 sx_m4 ?_
      refine sv_getI (pc := 178) hG dX12_makeGlyph_178 f_12_348 lay_146 rfl ?_
      refine sx_wk (sx_s1 sx_m4 (sx_s1 sx_m5 (sx_s1 sx_m6 (sx_s1 sx_m2 sx_s0)))) ?_
      exact tB_X12_makeGlyph_181 hG hP hkb  h
    · have h := sx_pos c94 h
      refine sx_iconst (pc := 173) (v := 0) dX12_makeGlyph_173 (by decide) ?_
      refine sx_goto (pc := 174) (tgt := 181) dX12_makeGlyph_174 (by decide) ?_
      refine sx_wk (sx_s1 sx_m4 (sx_s1 sx_m5 (sx_s1 sx_m6 (sx_s1 sx_m2 sx_s0)))) ?_
      exact tB_X12_makeGlyph_181 hG hP hkb  h
  · have h := sx_pos c91 h
    refine sx_aload_n (pc := 111) dX12_makeGlyph_111 sx_m4 ?_
    refine sv_getI (pc := 112) hG dX12_makeGlyph_112 f_12_354 lay_146 rfl ?_
    refine sv_tI (fun x95 hx95 => ?_)
    have h := sx_letE hx95 h
    refine sx_istore (pc := 115) (lo' := [(7, .int x95), (6, .int x90), (5, .int x66), (4, .int x62), (3, .int x61), (0, .ref 146), (1, .int l1), (2, .int l2)]) dX12_makeGlyph_115 (by decide) rfl ?_
    refine sx_iconst (pc := 117) (v := 0) dX12_makeGlyph_117 (by decide) ?_
    refine sx_istore (pc := 118) (lo' := [(8, .int (0 : Int32)), (7, .int x95), (6, .int x90), (5, .int x66), (4, .int x62), (3, .int x61), (0, .ref 146), (1, .int l1), (2, .int l2)]) dX12_makeGlyph_118 (by decide) rfl ?_
    refine sx_wk (sx_s1 sx_m6 (sx_s1 sx_m7 (sx_s1 sx_m8 (sx_s1 sx_m4 (sx_s1 sx_m1 (sx_s1 sx_m0 sx_s0)))))) ?_
    exact tL_X12_makeGlyph_120 hG hP hkb  N _ _ _ _ _ _ h
def F_X12_makeGlyph (N : Nat) (l1 : Int32) (l2 : Int32) (V : sv_V) : Option sv_V := sx_lp3 (G_X12_makeGlyph N ) 8 l1 l2 V
theorem tD_X12_makeGlyph {g : sx_G} (hG : sx_Go g) {N : Nat} : ∀ (D : Nat) (l1 : Int32) (l2 : Int32) (V : sv_V) (Vr : sv_V), sx_lp3 (G_X12_makeGlyph N ) D l1 l2 V = some Vr → ∀ P : Option Value → sv_V → Prop, P none Vr → sv_N g qX12_makeGlyph (30 + 2 * D) 0 [(0, .ref 146), (1, .int l1), (2, .int l2)] [] V P := by
  intro D
  induction D with
  | zero => intro l1 l2 V Vr h; cases h
  | succ D ih => intro l1 l2 V Vr h P hP; exact tG_X12_makeGlyph hG hP ih h
theorem t_X12_makeGlyph {g : sx_G} (hG : sx_Go g) {P : Option Value → sv_V → Prop} {Vr : sv_V} (hP : P none Vr) {N : Nat} {l1 : Int32} {l2 : Int32} {V : sv_V} (h : F_X12_makeGlyph N l1 l2 V = some Vr) : sv_N g qX12_makeGlyph 46 0 [(0, .ref 146), (1, .int l1), (2, .int l2)] [] V P := tD_X12_makeGlyph hG 8 l1 l2 V Vr h P hP
end
section
/-! methods: X12_makeIt, X12_make, X12_line -/
def ncX12_makeIt : Nat := 63888462091295744514680391495738145777198971644696680179385406115598819976888486901411170224901610139200400643993045085103337310795281635485574337041532469258448106762813607802558383749491786673466927069276586180411192011939363142506732122695903826463190885797722673136627584765132543647053588769123817646976859277116808751884125026896754162431379274482208449882383363259560690294701838768954308421463438872702337040083318382564346693175658627896272674523283113231312129826200195634453768011358462766009115511582928475539007209707527655210083674144935332275696488883648829129514
theorem kcX12_makeIt : CK cX12_makeIt ncX12_makeIt 240 := ⟨by decide +kernel, by decide +kernel⟩
theorem dX12_makeIt_0 : decode cX12_makeIt 0 = .ok (.aload_n 0, 1) := dl_o42 kcX12_makeIt (by decide +kernel)
theorem dX12_makeIt_1 : decode cX12_makeIt 1 = .ok (.iconst 0, 1) := dl_o3 kcX12_makeIt (by decide +kernel)
theorem dX12_makeIt_2 : decode cX12_makeIt 2 = .ok (.putfield 764, 3) := dl_o181 kcX12_makeIt (by decide +kernel)
theorem dX12_makeIt_5 : decode cX12_makeIt 5 = .ok (.aload_n 0, 1) := dl_o42 kcX12_makeIt (by decide +kernel)
theorem dX12_makeIt_6 : decode cX12_makeIt 6 = .ok (.iconst 0, 1) := dl_o3 kcX12_makeIt (by decide +kernel)
theorem dX12_makeIt_7 : decode cX12_makeIt 7 = .ok (.putfield 409, 3) := dl_o181 kcX12_makeIt (by decide +kernel)
theorem dX12_makeIt_10 : decode cX12_makeIt 10 = .ok (.aload_n 0, 1) := dl_o42 kcX12_makeIt (by decide +kernel)
theorem dX12_makeIt_11 : decode cX12_makeIt 11 = .ok (.iconst 0, 1) := dl_o3 kcX12_makeIt (by decide +kernel)
theorem dX12_makeIt_12 : decode cX12_makeIt 12 = .ok (.putfield 505, 3) := dl_o181 kcX12_makeIt (by decide +kernel)
theorem dX12_makeIt_15 : decode cX12_makeIt 15 = .ok (.aload_n 0, 1) := dl_o42 kcX12_makeIt (by decide +kernel)
theorem dX12_makeIt_16 : decode cX12_makeIt 16 = .ok (.iconst 0, 1) := dl_o3 kcX12_makeIt (by decide +kernel)
theorem dX12_makeIt_17 : decode cX12_makeIt 17 = .ok (.putfield 807, 3) := dl_o181 kcX12_makeIt (by decide +kernel)
theorem dX12_makeIt_20 : decode cX12_makeIt 20 = .ok (.aload_n 0, 1) := dl_o42 kcX12_makeIt (by decide +kernel)
theorem dX12_makeIt_21 : decode cX12_makeIt 21 = .ok (.iload_n 1, 1) := dl_o27 kcX12_makeIt (by decide +kernel)
theorem dX12_makeIt_22 : decode cX12_makeIt 22 = .ok (.iconst 0, 1) := dl_o3 kcX12_makeIt (by decide +kernel)
theorem dX12_makeIt_23 : decode cX12_makeIt 23 = .ok (.invokevirtual 810, 3) := dl_o182 kcX12_makeIt (by decide +kernel)
theorem dX12_makeIt_26 : decode cX12_makeIt 26 = .ok (.aload_n 0, 1) := dl_o42 kcX12_makeIt (by decide +kernel)
theorem dX12_makeIt_27 : decode cX12_makeIt 27 = .ok (.getfield 164, 3) := dl_o180 kcX12_makeIt (by decide +kernel)
theorem dX12_makeIt_30 : decode cX12_makeIt 30 = .ok (.iconst 0, 1) := dl_o3 kcX12_makeIt (by decide +kernel)
theorem dX12_makeIt_31 : decode cX12_makeIt 31 = .ok (.iaload, 1) := dl_o46 kcX12_makeIt (by decide +kernel)
theorem dX12_makeIt_32 : decode cX12_makeIt 32 = .ok (.istore_n 2, 1) := dl_o61 kcX12_makeIt (by decide +kernel)
theorem dX12_makeIt_33 : decode cX12_makeIt 33 = .ok (.iconst 0, 1) := dl_o3 kcX12_makeIt (by decide +kernel)
theorem dX12_makeIt_34 : decode cX12_makeIt 34 = .ok (.istore_n 3, 1) := dl_o62 kcX12_makeIt (by decide +kernel)
theorem dX12_makeIt_35 : decode cX12_makeIt 35 = .ok (.iload_n 3, 1) := dl_o29 kcX12_makeIt (by decide +kernel)
theorem dX12_makeIt_36 : decode cX12_makeIt 36 = .ok (.aload_n 0, 1) := dl_o42 kcX12_makeIt (by decide +kernel)
theorem dX12_makeIt_37 : decode cX12_makeIt 37 = .ok (.getfield 146, 3) := dl_o180 kcX12_makeIt (by decide +kernel)
theorem dX12_makeIt_40 : decode cX12_makeIt 40 = .ok (.iconst 0, 1) := dl_o3 kcX12_makeIt (by decide +kernel)
theorem dX12_makeIt_41 : decode cX12_makeIt 41 = .ok (.iaload, 1) := dl_o46 kcX12_makeIt (by decide +kernel)
theorem dX12_makeIt_42 : decode cX12_makeIt 42 = .ok (.if_icmp .ge 98, 3) := dl_o162 kcX12_makeIt 98 (by decide +kernel) (by decide +kernel)
theorem dX12_makeIt_45 : decode cX12_makeIt 45 = .ok (.aload_n 0, 1) := dl_o42 kcX12_makeIt (by decide +kernel)
theorem dX12_makeIt_46 : decode cX12_makeIt 46 = .ok (.getfield 409, 3) := dl_o180 kcX12_makeIt (by decide +kernel)
theorem dX12_makeIt_49 : decode cX12_makeIt 49 = .ok (.ifCond .ne 91, 3) := dl_o154 kcX12_makeIt 91 (by decide +kernel) (by decide +kernel)
theorem dX12_makeIt_52 : decode cX12_makeIt 52 = .ok (.aload_n 0, 1) := dl_o42 kcX12_makeIt (by decide +kernel)
theorem dX12_makeIt_53 : decode cX12_makeIt 53 = .ok (.getfield 167, 3) := dl_o180 kcX12_makeIt (by decide +kernel)
theorem dX12_makeIt_56 : decode cX12_makeIt 56 = .ok (.iload_n 3, 1) := dl_o29 kcX12_makeIt (by decide +kernel)
theorem dX12_makeIt_57 : decode cX12_makeIt 57 = .ok (.aload_n 0, 1) := dl_o42 kcX12_makeIt (by decide +kernel)
theorem dX12_makeIt_58 : decode cX12_makeIt 58 = .ok (.getfield 152, 3) := dl_o180 kcX12_makeIt (by decide +kernel)
theorem dX12_makeIt_61 : decode cX12_makeIt 61 = .ok (.iload_n 3, 1) := dl_o29 kcX12_makeIt (by decide +kernel)
theorem dX12_makeIt_62 : decode cX12_makeIt 62 = .ok (.iaload, 1) := dl_o46 kcX12_makeIt (by decide +kernel)
theorem dX12_makeIt_63 : decode cX12_makeIt 63 = .ok (.iload_n 2, 1) := dl_o28 kcX12_makeIt (by decide +kernel)
theorem dX12_makeIt_64 : decode cX12_makeIt 64 = .ok (.isub, 1) := dl_o100 kcX12_makeIt (by decide +kernel)
theorem dX12_makeIt_65 : decode cX12_makeIt 65 = .ok (.iastore, 1) := dl_o79 kcX12_makeIt (by decide +kernel)
theorem dX12_makeIt_66 : decode cX12_makeIt 66 = .ok (.aload_n 0, 1) := dl_o42 kcX12_makeIt (by decide +kernel)
theorem dX12_makeIt_67 : decode cX12_makeIt 67 = .ok (.getfield 170, 3) := dl_o180 kcX12_makeIt (by decide +kernel)
theorem dX12_makeIt_70 : decode cX12_makeIt 70 = .ok (.iload_n 3, 1) := dl_o29 kcX12_makeIt (by decide +kernel)
theorem dX12_makeIt_71 : decode cX12_makeIt 71 = .ok (.aload_n 0, 1) := dl_o42 kcX12_makeIt (by decide +kernel)
theorem dX12_makeIt_72 : decode cX12_makeIt 72 = .ok (.getfield 155, 3) := dl_o180 kcX12_makeIt (by decide +kernel)
theorem dX12_makeIt_75 : decode cX12_makeIt 75 = .ok (.iload_n 3, 1) := dl_o29 kcX12_makeIt (by decide +kernel)
theorem dX12_makeIt_76 : decode cX12_makeIt 76 = .ok (.iaload, 1) := dl_o46 kcX12_makeIt (by decide +kernel)
theorem dX12_makeIt_77 : decode cX12_makeIt 77 = .ok (.iastore, 1) := dl_o79 kcX12_makeIt (by decide +kernel)
theorem dX12_makeIt_78 : decode cX12_makeIt 78 = .ok (.aload_n 0, 1) := dl_o42 kcX12_makeIt (by decide +kernel)
theorem dX12_makeIt_79 : decode cX12_makeIt 79 = .ok (.getfield 173, 3) := dl_o180 kcX12_makeIt (by decide +kernel)
theorem dX12_makeIt_82 : decode cX12_makeIt 82 = .ok (.iload_n 3, 1) := dl_o29 kcX12_makeIt (by decide +kernel)
theorem dX12_makeIt_83 : decode cX12_makeIt 83 = .ok (.aload_n 0, 1) := dl_o42 kcX12_makeIt (by decide +kernel)
theorem dX12_makeIt_84 : decode cX12_makeIt 84 = .ok (.getfield 158, 3) := dl_o180 kcX12_makeIt (by decide +kernel)
theorem dX12_makeIt_87 : decode cX12_makeIt 87 = .ok (.iload_n 3, 1) := dl_o29 kcX12_makeIt (by decide +kernel)
theorem dX12_makeIt_88 : decode cX12_makeIt 88 = .ok (.baload, 1) := dl_o51 kcX12_makeIt (by decide +kernel)
theorem dX12_makeIt_89 : decode cX12_makeIt 89 = .ok (.bastore, 1) := dl_o84 kcX12_makeIt (by decide +kernel)
theorem dX12_makeIt_90 : decode cX12_makeIt 90 = .ok (.aload_n 0, 1) := dl_o42 kcX12_makeIt (by decide +kernel)
theorem dX12_makeIt_91 : decode cX12_makeIt 91 = .ok (.getfield 167, 3) := dl_o180 kcX12_makeIt (by decide +kernel)
theorem dX12_makeIt_94 : decode cX12_makeIt 94 = .ok (.iload_n 3, 1) := dl_o29 kcX12_makeIt (by decide +kernel)
theorem dX12_makeIt_95 : decode cX12_makeIt 95 = .ok (.iaload, 1) := dl_o46 kcX12_makeIt (by decide +kernel)
theorem dX12_makeIt_96 : decode cX12_makeIt 96 = .ok (.i2l, 1) := dl_o133 kcX12_makeIt (by decide +kernel)
theorem dX12_makeIt_97 : decode cX12_makeIt 97 = .ok (.ldc2_w 819, 3) := dl_o20 kcX12_makeIt (by decide +kernel)
theorem dX12_makeIt_100 : decode cX12_makeIt 100 = .ok (.ldc2_w 821, 3) := dl_o20 kcX12_makeIt (by decide +kernel)
theorem dX12_makeIt_103 : decode cX12_makeIt 103 = .ok (.invokestatic 263, 3) := dl_o184 kcX12_makeIt (by decide +kernel)
theorem dX12_makeIt_106 : decode cX12_makeIt 106 = .ok (.ifCond .eq 22, 3) := dl_o153 kcX12_makeIt 22 (by decide +kernel) (by decide +kernel)
theorem dX12_makeIt_109 : decode cX12_makeIt 109 = .ok (.aload_n 0, 1) := dl_o42 kcX12_makeIt (by decide +kernel)
theorem dX12_makeIt_110 : decode cX12_makeIt 110 = .ok (.getfield 170, 3) := dl_o180 kcX12_makeIt (by decide +kernel)
theorem dX12_makeIt_113 : decode cX12_makeIt 113 = .ok (.iload_n 3, 1) := dl_o29 kcX12_makeIt (by decide +kernel)
theorem dX12_makeIt_114 : decode cX12_makeIt 114 = .ok (.iaload, 1) := dl_o46 kcX12_makeIt (by decide +kernel)
theorem dX12_makeIt_115 : decode cX12_makeIt 115 = .ok (.i2l, 1) := dl_o133 kcX12_makeIt (by decide +kernel)
theorem dX12_makeIt_116 : decode cX12_makeIt 116 = .ok (.ldc2_w 819, 3) := dl_o20 kcX12_makeIt (by decide +kernel)
theorem dX12_makeIt_119 : decode cX12_makeIt 119 = .ok (.ldc2_w 821, 3) := dl_o20 kcX12_makeIt (by decide +kernel)
theorem dX12_makeIt_122 : decode cX12_makeIt 122 = .ok (.invokestatic 263, 3) := dl_o184 kcX12_makeIt (by decide +kernel)
theorem dX12_makeIt_125 : decode cX12_makeIt 125 = .ok (.ifCond .ne 9, 3) := dl_o154 kcX12_makeIt 9 (by decide +kernel) (by decide +kernel)
theorem dX12_makeIt_128 : decode cX12_makeIt 128 = .ok (.aload_n 0, 1) := dl_o42 kcX12_makeIt (by decide +kernel)
theorem dX12_makeIt_129 : decode cX12_makeIt 129 = .ok (.bipush 13, 2) := dl_o16 kcX12_makeIt 13 (by decide +kernel) (by decide +kernel)
theorem dX12_makeIt_131 : decode cX12_makeIt 131 = .ok (.invokevirtual 795, 3) := dl_o182 kcX12_makeIt (by decide +kernel)
theorem dX12_makeIt_134 : decode cX12_makeIt 134 = .ok (.iinc 3 1, 3) := by decide +kernel
theorem dX12_makeIt_137 : decode cX12_makeIt 137 = .ok (.goto (-102), 3) := dl_o167 kcX12_makeIt 65434 (by decide +kernel) (by decide +kernel)
theorem dX12_makeIt_140 : decode cX12_makeIt 140 = .ok (.aload_n 0, 1) := dl_o42 kcX12_makeIt (by decide +kernel)
theorem dX12_makeIt_141 : decode cX12_makeIt 141 = .ok (.getfield 409, 3) := dl_o180 kcX12_makeIt (by decide +kernel)
theorem dX12_makeIt_144 : decode cX12_makeIt 144 = .ok (.ifCond .le 8, 3) := dl_o158 kcX12_makeIt 8 (by decide +kernel) (by decide +kernel)
theorem dX12_makeIt_147 : decode cX12_makeIt 147 = .ok (.aload_n 0, 1) := dl_o42 kcX12_makeIt (by decide +kernel)
theorem dX12_makeIt_148 : decode cX12_makeIt 148 = .ok (.invokevirtual 773, 3) := dl_o182 kcX12_makeIt (by decide +kernel)
theorem dX12_makeIt_151 : decode cX12_makeIt 151 = .ok (.ireturn, 1) := dl_o172 kcX12_makeIt (by decide +kernel)
theorem dX12_makeIt_152 : decode cX12_makeIt 152 = .ok (.aload_n 0, 1) := dl_o42 kcX12_makeIt (by decide +kernel)
theorem dX12_makeIt_153 : decode cX12_makeIt 153 = .ok (.aload_n 0, 1) := dl_o42 kcX12_makeIt (by decide +kernel)
theorem dX12_makeIt_154 : decode cX12_makeIt 154 = .ok (.getfield 146, 3) := dl_o180 kcX12_makeIt (by decide +kernel)
theorem dX12_makeIt_157 : decode cX12_makeIt 157 = .ok (.iconst 0, 1) := dl_o3 kcX12_makeIt (by decide +kernel)
theorem dX12_makeIt_158 : decode cX12_makeIt 158 = .ok (.iaload, 1) := dl_o46 kcX12_makeIt (by decide +kernel)
theorem dX12_makeIt_159 : decode cX12_makeIt 159 = .ok (.putfield 823, 3) := dl_o181 kcX12_makeIt (by decide +kernel)
theorem dX12_makeIt_162 : decode cX12_makeIt 162 = .ok (.aload_n 0, 1) := dl_o42 kcX12_makeIt (by decide +kernel)
theorem dX12_makeIt_163 : decode cX12_makeIt 163 = .ok (.aload_n 0, 1) := dl_o42 kcX12_makeIt (by decide +kernel)
theorem dX12_makeIt_164 : decode cX12_makeIt 164 = .ok (.getfield 149, 3) := dl_o180 kcX12_makeIt (by decide +kernel)
theorem dX12_makeIt_167 : decode cX12_makeIt 167 = .ok (.iconst 0, 1) := dl_o3 kcX12_makeIt (by decide +kernel)
theorem dX12_makeIt_168 : decode cX12_makeIt 168 = .ok (.iaload, 1) := dl_o46 kcX12_makeIt (by decide +kernel)
theorem dX12_makeIt_169 : decode cX12_makeIt 169 = .ok (.putfield 826, 3) := dl_o181 kcX12_makeIt (by decide +kernel)
theorem dX12_makeIt_172 : decode cX12_makeIt 172 = .ok (.iconst 0, 1) := dl_o3 kcX12_makeIt (by decide +kernel)
theorem dX12_makeIt_173 : decode cX12_makeIt 173 = .ok (.istore_n 3, 1) := dl_o62 kcX12_makeIt (by decide +kernel)
theorem dX12_makeIt_174 : decode cX12_makeIt 174 = .ok (.iload_n 3, 1) := dl_o29 kcX12_makeIt (by decide +kernel)
theorem dX12_makeIt_175 : decode cX12_makeIt 175 = .ok (.aload_n 0, 1) := dl_o42 kcX12_makeIt (by decide +kernel)
theorem dX12_makeIt_176 : decode cX12_makeIt 176 = .ok (.getfield 826, 3) := dl_o180 kcX12_makeIt (by decide +kernel)
theorem dX12_makeIt_179 : decode cX12_makeIt 179 = .ok (.if_icmp .ge 21, 3) := dl_o162 kcX12_makeIt 21 (by decide +kernel) (by decide +kernel)
theorem dX12_makeIt_182 : decode cX12_makeIt 182 = .ok (.aload_n 0, 1) := dl_o42 kcX12_makeIt (by decide +kernel)
theorem dX12_makeIt_183 : decode cX12_makeIt 183 = .ok (.getfield 176, 3) := dl_o180 kcX12_makeIt (by decide +kernel)
theorem dX12_makeIt_186 : decode cX12_makeIt 186 = .ok (.iload_n 3, 1) := dl_o29 kcX12_makeIt (by decide +kernel)
theorem dX12_makeIt_187 : decode cX12_makeIt 187 = .ok (.aload_n 0, 1) := dl_o42 kcX12_makeIt (by decide +kernel)
theorem dX12_makeIt_188 : decode cX12_makeIt 188 = .ok (.getfield 161, 3) := dl_o180 kcX12_makeIt (by decide +kernel)
theorem dX12_makeIt_191 : decode cX12_makeIt 191 = .ok (.iload_n 3, 1) := dl_o29 kcX12_makeIt (by decide +kernel)
theorem dX12_makeIt_192 : decode cX12_makeIt 192 = .ok (.iaload, 1) := dl_o46 kcX12_makeIt (by decide +kernel)
theorem dX12_makeIt_193 : decode cX12_makeIt 193 = .ok (.iastore, 1) := dl_o79 kcX12_makeIt (by decide +kernel)
theorem dX12_makeIt_194 : decode cX12_makeIt 194 = .ok (.iinc 3 1, 3) := by decide +kernel
theorem dX12_makeIt_197 : decode cX12_makeIt 197 = .ok (.goto (-23), 3) := dl_o167 kcX12_makeIt 65513 (by decide +kernel) (by decide +kernel)
theorem dX12_makeIt_200 : decode cX12_makeIt 200 = .ok (.aload_n 0, 1) := dl_o42 kcX12_makeIt (by decide +kernel)
theorem dX12_makeIt_201 : decode cX12_makeIt 201 = .ok (.aload_n 0, 1) := dl_o42 kcX12_makeIt (by decide +kernel)
theorem dX12_makeIt_202 : decode cX12_makeIt 202 = .ok (.getfield 164, 3) := dl_o180 kcX12_makeIt (by decide +kernel)
theorem dX12_makeIt_205 : decode cX12_makeIt 205 = .ok (.iconst 2, 1) := dl_o5 kcX12_makeIt (by decide +kernel)
theorem dX12_makeIt_206 : decode cX12_makeIt 206 = .ok (.iaload, 1) := dl_o46 kcX12_makeIt (by decide +kernel)
theorem dX12_makeIt_207 : decode cX12_makeIt 207 = .ok (.iload_n 2, 1) := dl_o28 kcX12_makeIt (by decide +kernel)
theorem dX12_makeIt_208 : decode cX12_makeIt 208 = .ok (.isub, 1) := dl_o100 kcX12_makeIt (by decide +kernel)
theorem dX12_makeIt_209 : decode cX12_makeIt 209 = .ok (.putfield 829, 3) := dl_o181 kcX12_makeIt (by decide +kernel)
theorem dX12_makeIt_212 : decode cX12_makeIt 212 = .ok (.aload_n 0, 1) := dl_o42 kcX12_makeIt (by decide +kernel)
theorem dX12_makeIt_213 : decode cX12_makeIt 213 = .ok (.iconst 1, 1) := dl_o4 kcX12_makeIt (by decide +kernel)
theorem dX12_makeIt_214 : decode cX12_makeIt 214 = .ok (.putfield 764, 3) := dl_o181 kcX12_makeIt (by decide +kernel)
theorem dX12_makeIt_217 : decode cX12_makeIt 217 = .ok (.aload_n 0, 1) := dl_o42 kcX12_makeIt (by decide +kernel)
theorem dX12_makeIt_218 : decode cX12_makeIt 218 = .ok (.aload_n 0, 1) := dl_o42 kcX12_makeIt (by decide +kernel)
theorem dX12_makeIt_219 : decode cX12_makeIt 219 = .ok (.getfield 505, 3) := dl_o180 kcX12_makeIt (by decide +kernel)
theorem dX12_makeIt_222 : decode cX12_makeIt 222 = .ok (.putfield 756, 3) := dl_o181 kcX12_makeIt (by decide +kernel)
theorem dX12_makeIt_225 : decode cX12_makeIt 225 = .ok (.aload_n 0, 1) := dl_o42 kcX12_makeIt (by decide +kernel)
theorem dX12_makeIt_226 : decode cX12_makeIt 226 = .ok (.iconst 0, 1) := dl_o3 kcX12_makeIt (by decide +kernel)
theorem dX12_makeIt_227 : decode cX12_makeIt 227 = .ok (.putfield 753, 3) := dl_o181 kcX12_makeIt (by decide +kernel)
theorem dX12_makeIt_230 : decode cX12_makeIt 230 = .ok (.aload_n 0, 1) := dl_o42 kcX12_makeIt (by decide +kernel)
theorem dX12_makeIt_231 : decode cX12_makeIt 231 = .ok (.iconst (-1), 1) := dl_o2 kcX12_makeIt (by decide +kernel)
theorem dX12_makeIt_232 : decode cX12_makeIt 232 = .ok (.putfield 127, 3) := dl_o181 kcX12_makeIt (by decide +kernel)
theorem dX12_makeIt_235 : decode cX12_makeIt 235 = .ok (.aload_n 0, 1) := dl_o42 kcX12_makeIt (by decide +kernel)
theorem dX12_makeIt_236 : decode cX12_makeIt 236 = .ok (.getfield 823, 3) := dl_o180 kcX12_makeIt (by decide +kernel)
theorem dX12_makeIt_239 : decode cX12_makeIt 239 = .ok (.ireturn, 1) := dl_o172 kcX12_makeIt (by decide +kernel)
def B_X12_makeIt_134 (N : Nat) (k35 : Int32 → Int32 → sv_V → Option (Int32 × sv_V)) (l2 : Int32) (l3 : Int32) (V : sv_V) : Option (Int32 × sv_V) := sx_let (l3 + 1) (fun x1 => k35 l2 x1 V)
set_option maxRecDepth 20000 in
theorem tB_X12_makeIt_134 {g : sx_G} (hG : sx_Go g) {P : Option Value → sv_V → Prop} {r : Int32} {Vr : sv_V} (hP : P (some (.int r)) Vr) {N : Nat} {k35 : Int32 → Int32 → sv_V → Option (Int32 × sv_V)} (hk35 : ∀ (l2 : Int32) (l3 : Int32) (V : sv_V), k35 l2 l3 V = some (r, Vr) → sv_N g qX12_makeIt 47 35 [(0, .ref 146), (2, .int l2), (3, .int l3)] [] V P) {l2 : Int32} {l3 : Int32} {V : sv_V} (h : B_X12_makeIt_134 N k35 l2 l3 V = some (r, Vr)) : sv_N g qX12_makeIt 47 134 [(0, .ref 146), (2, .int l2), (3, .int l3)] [] V P := by
  unfold B_X12_makeIt_134 at h
  obtain ⟨x1, hx1⟩ : ∃ z : Int32, z = l3 + 1 := ⟨_, rfl⟩
  have h := sx_letE hx1 h
  refine sx_iinc (pc := 134) (v := x1) (lo' := [(3, .int x1), (0, .ref 146), (2, .int l2)]) dX12_makeIt_134 sx_m2 (by rw [hx1]; rfl) (by decide) rfl ?_
  refine sx_goto (pc := 137) (tgt := 35) dX12_makeIt_137 (by decide) ?_
  refine sx_wk (sx_s1 sx_m1 (sx_s1 sx_m2 (sx_s1 sx_m0 sx_s0))) ?_
  exact hk35 _ _ _ h
def B_X12_makeIt_128 (N : Nat) (k35 : Int32 → Int32 → sv_V → Option (Int32 × sv_V)) (l2 : Int32) (l3 : Int32) (V : sv_V) : Option (Int32 × sv_V) := (F_X12_failOutside (13 : Int32) V).bind (fun V2 => B_X12_makeIt_134 N k35 l2 l3 V2)
set_option maxRecDepth 20000 in
theorem tB_X12_makeIt_128 {g : sx_G} (hG : sx_Go g) {P : Option Value → sv_V → Prop} {r : Int32} {Vr : sv_V} (hP : P (some (.int r)) Vr) {N : Nat} {k35 : Int32 → Int32 → sv_V → Option (Int32 × sv_V)} (hk35 : ∀ (l2 : Int32) (l3 : Int32) (V : sv_V), k35 l2 l3 V = some (r, Vr) → sv_N g qX12_makeIt 47 35 [(0, .ref 146), (2, .int l2), (3, .int l3)] [] V P) {l2 : Int32} {l3 : Int32} {V : sv_V} (h : B_X12_makeIt_128 N k35 l2 l3 V = some (r, Vr)) : sv_N g qX12_makeIt 47 128 [(0, .ref 146), (2, .int l2), (3, .int l3)] [] V P := by
  unfold B_X12_makeIt_128 at h
  refine sx_aload_n (pc := 128) dX12_makeIt_128 sx_m0 ?_
  refine sx_bipush (pc := 129) (v := 13) dX12_makeIt_129 (by decide) ?_
  obtain ⟨V2, g3, h⟩ := sx_bnd h
  refine sv_cV (pc := 131) (y := qX12_failOutside) (o := none) (as := [.int (13 : Int32)]) (V1 := V2) hG dX12_makeIt_131 l_X12_795 y0X12_failOutside yvX12_failOutside rfl (Nat.le_of_ble_eq_true rfl) lay_146 kr_12 (by decide) (Nat.le_of_ble_eq_true rfl) rfl rfl rfl (t_X12_failOutside hG ⟨rfl, rfl⟩ g3) ?_
  refine sx_wk (sx_s1 sx_m0 (sx_s1 sx_m1 (sx_s1 sx_m2 sx_s0))) ?_
  exact tB_X12_makeIt_134 hG hP hk35 h
def B_X12_makeIt_174 (N : Nat) (k174 : Int32 → Int32 → sv_V → Option (Int32 × sv_V)) (l2 : Int32) (l3 : Int32) (V : sv_V) : Option (Int32 × sv_V) := if (V.1 146 129) ≤ l3 then (sx_let (sv_I V 146 134 ((V.1 196 (2 : Int32).toNatClampNeg) - l2)) (fun V5 => sx_let (sv_I V5 146 108 (1 : Int32)) (fun V6 => sx_let (sv_I V6 146 109 (V6.1 146 58)) (fun V7 => sx_let (sv_I V7 146 111 (0 : Int32)) (fun V8 => sx_let (sv_I V8 146 112 (-1 : Int32)) (fun V9 => some (V9.1 146 128, V9))))))) else (if sx_in l3 120 = true then if sx_in l3 20 = true then sx_let (sv_I V 200 l3.toNatClampNeg (V.1 195 l3.toNatClampNeg)) (fun V12 => sx_let (l3 + 1) (fun x13 => k174 l2 x13 V12)) else none else none)
set_option maxRecDepth 20000 in
theorem tB_X12_makeIt_174 {g : sx_G} (hG : sx_Go g) {P : Option Value → sv_V → Prop} {r : Int32} {Vr : sv_V} (hP : P (some (.int r)) Vr) {N : Nat} {k174 : Int32 → Int32 → sv_V → Option (Int32 × sv_V)} (hk174 : ∀ (l2 : Int32) (l3 : Int32) (V : sv_V), k174 l2 l3 V = some (r, Vr) → sv_N g qX12_makeIt 47 174 [(0, .ref 146), (2, .int l2), (3, .int l3)] [] V P) {l2 : Int32} {l3 : Int32} {V : sv_V} (h : B_X12_makeIt_174 N k174 l2 l3 V = some (r, Vr)) : sv_N g qX12_makeIt 47 174 [(0, .ref 146), (2, .int l2), (3, .int l3)] [] V P := by
  unfold B_X12_makeIt_174 at h
  refine sx_iload_n (pc := 174) dX12_makeIt_174 sx_m2 ?_
  refine sx_aload_n (pc := 175) dX12_makeIt_175 sx_m0 ?_
  refine sv_getI (pc := 176) hG dX12_makeIt_176 f_12_826 lay_146 rfl ?_
  refine sx_icmp_ge (pc := 179) (tgt := 200) dX12_makeIt_179 (by decide) (fun c4 => ?_) (fun c4 => ?_)
  · have h := sx_pos c4 h
    refine sx_aload_n (pc := 200) dX12_makeIt_200 sx_m0 ?_
    refine sx_aload_n (pc := 201) dX12_makeIt_201 sx_m0 ?_
    refine sv_getA (pc := 202) hG dX12_makeIt_202 f_12_164 lay_146 rfl cr_146_124 ?_
    refine sx_iconst (pc := 205) (v := 2) dX12_makeIt_205 (by decide) ?_
    refine sv_iald (pc := 206) hG dX12_makeIt_206 lay_196 (by decide) ?_
    refine sx_iload_n (pc := 207) dX12_makeIt_207 sx_m1 ?_
    refine sx_isub (pc := 208) dX12_makeIt_208 ?_
    obtain ⟨V5, hV5⟩ : ∃ z : sv_V, z = sv_I V 146 134 ((V.1 196 (2 : Int32).toNatClampNeg) - l2) := ⟨_, rfl⟩
    have h := sx_letE hV5 h
    refine sv_putI (pc := 209) hG dX12_makeIt_209 f_12_829 lay_146 rfl hV5 ?_
    refine sx_aload_n (pc := 212) dX12_makeIt_212 sx_m0 ?_
    refine sx_iconst (pc := 213) (v := 1) dX12_makeIt_213 (by decide) ?_
    obtain ⟨V6, hV6⟩ : ∃ z : sv_V, z = sv_I V5 146 108 (1 : Int32) := ⟨_, rfl⟩
    have h := sx_letE hV6 h
    refine sv_putZ (pc := 214) hG dX12_makeIt_214 f_12_764 lay_146 rfl rfl hV6 ?_
    refine sx_aload_n (pc := 217) dX12_makeIt_217 sx_m0 ?_
    refine sx_aload_n (pc := 218) dX12_makeIt_218 sx_m0 ?_
    refine sv_getI (pc := 219) hG dX12_makeIt_219 f_12_505 lay_146 rfl ?_
    obtain ⟨V7, hV7⟩ : ∃ z : sv_V, z = sv_I V6 146 109 (V6.1 146 58) := ⟨_, rfl⟩
    have h := sx_letE hV7 h
    refine sv_putI (pc := 222) hG dX12_makeIt_222 f_12_756 lay_146 rfl hV7 ?_
    refine sx_aload_n (pc := 225) dX12_makeIt_225 sx_m0 ?_
    refine sx_iconst (pc := 226) (v := 0) dX12_makeIt_226 (by decide) ?_
    obtain ⟨V8, hV8⟩ : ∃ z : sv_V, z = sv_I V7 146 111 (0 : Int32) := ⟨_, rfl⟩
    have h := sx_letE hV8 h
    refine sv_putI (pc := 227) hG dX12_makeIt_227 f_12_753 lay_146 rfl hV8 ?_
    refine sx_aload_n (pc := 230) dX12_makeIt_230 sx_m0 ?_
    refine sx_iconst (pc := 231) (v := (-1)) dX12_makeIt_231 (by decide) ?_
    obtain ⟨V9, hV9⟩ : ∃ z : sv_V, z = sv_I V8 146 112 (-1 : Int32) := ⟨_, rfl⟩
    have h := sx_letE hV9 h
    refine sv_putI (pc := 232) hG dX12_makeIt_232 f_12_127 lay_146 rfl hV9 ?_
    refine sx_aload_n (pc := 235) dX12_makeIt_235 sx_m0 ?_
    refine sv_getI (pc := 236) hG dX12_makeIt_236 f_12_823 lay_146 rfl ?_
    exact sv_iret (pc := 239) dX12_makeIt_239 rfl h hP
  · have h := sx_neg c4 h
    refine sx_aload_n (pc := 182) dX12_makeIt_182 sx_m0 ?_
    refine sv_getA (pc := 183) hG dX12_makeIt_183 f_12_176 lay_146 rfl cr_146_133 ?_
    refine sx_iload_n (pc := 186) dX12_makeIt_186 sx_m2 ?_
    refine sx_aload_n (pc := 187) dX12_makeIt_187 sx_m0 ?_
    refine sv_getA (pc := 188) hG dX12_makeIt_188 f_12_161 lay_146 rfl cr_146_123 ?_
    refine sx_iload_n (pc := 191) dX12_makeIt_191 sx_m2 ?_
    obtain ⟨g10, h⟩ := sx_grd h
    refine sv_iald (pc := 192) hG dX12_makeIt_192 lay_195 g10 ?_
    obtain ⟨g11, h⟩ := sx_grd h
    obtain ⟨V12, hV12⟩ : ∃ z : sv_V, z = sv_I V 200 l3.toNatClampNeg (V.1 195 l3.toNatClampNeg) := ⟨_, rfl⟩
    have h := sx_letE hV12 h
    refine sv_iast (pc := 193) hG dX12_makeIt_193 lay_200 g11 hV12 ?_
    obtain ⟨x13, hx13⟩ : ∃ z : Int32, z = l3 + 1 := ⟨_, rfl⟩
    have h := sx_letE hx13 h
    refine sx_iinc (pc := 194) (v := x13) (lo' := [(3, .int x13), (0, .ref 146), (2, .int l2)]) dX12_makeIt_194 sx_m2 (by rw [hx13]; rfl) (by decide) rfl ?_
    refine sx_goto (pc := 197) (tgt := 174) dX12_makeIt_197 (by decide) ?_
    refine sx_wk (sx_s1 sx_m1 (sx_s1 sx_m2 (sx_s1 sx_m0 sx_s0))) ?_
    exact hk174 _ _ _ h
theorem tL_X12_makeIt_174 {g : sx_G} (hG : sx_Go g) {P : Option Value → sv_V → Prop} {r : Int32} {Vr : sv_V} (hP : P (some (.int r)) Vr) {N : Nat}   : ∀ (n : Nat) (l2 : Int32) (l3 : Int32) (V : sv_V), sx_lp3 (B_X12_makeIt_174 N ) n l2 l3 V = some (r, Vr) → sv_N g qX12_makeIt 47 174 [(0, .ref 146), (2, .int l2), (3, .int l3)] [] V P :=
  sx_lp3_ind (fun k0 ih _ _ V h => tB_X12_makeIt_174 hG hP ih h)
def B_X12_makeIt_140 (N : Nat)  (l2 : Int32) (V : sv_V) : Option (Int32 × sv_V) := if (V.1 146 59) ≤ 0 then (sx_let (sv_I V 146 128 (V.1 190 (0 : Int32).toNatClampNeg)) (fun V15 => sx_let (sv_I V15 146 129 (V15.1 191 (0 : Int32).toNatClampNeg)) (fun V16 => sx_lp3 (B_X12_makeIt_174 N ) N l2 (0 : Int32) V16))) else ((F_X12_failedNow  V).bind (fun (x19, V17) => some (x19, V17)))
set_option maxRecDepth 20000 in
theorem tB_X12_makeIt_140 {g : sx_G} (hG : sx_Go g) {P : Option Value → sv_V → Prop} {r : Int32} {Vr : sv_V} (hP : P (some (.int r)) Vr) {N : Nat}   {l2 : Int32} {V : sv_V} (h : B_X12_makeIt_140 N  l2 V = some (r, Vr)) : sv_N g qX12_makeIt 47 140 [(0, .ref 146), (2, .int l2)] [] V P := by
  unfold B_X12_makeIt_140 at h
  refine sx_aload_n (pc := 140) dX12_makeIt_140 sx_m0 ?_
  refine sv_getI (pc := 141) hG dX12_makeIt_141 f_12_409 lay_146 rfl ?_
  refine sx_if_le (pc := 144) (tgt := 152) dX12_makeIt_144 (by decide) (fun c14 => ?_) (fun c14 => ?_)
  · have h := sx_pos c14 h
    refine sx_aload_n (pc := 152) dX12_makeIt_152 sx_m0 ?_
    refine sx_aload_n (pc := 153) dX12_makeIt_153 sx_m0 ?_
    refine sv_getA (pc := 154) hG dX12_makeIt_154 f_12_146 lay_146 rfl cr_146_118 ?_
    refine sx_iconst (pc := 157) (v := 0) dX12_makeIt_157 (by decide) ?_
    refine sv_iald (pc := 158) hG dX12_makeIt_158 lay_190 (by decide) ?_
    obtain ⟨V15, hV15⟩ : ∃ z : sv_V, z = sv_I V 146 128 (V.1 190 (0 : Int32).toNatClampNeg) := ⟨_, rfl⟩
    have h := sx_letE hV15 h
    refine sv_putI (pc := 159) hG dX12_makeIt_159 f_12_823 lay_146 rfl hV15 ?_
    refine sx_aload_n (pc := 162) dX12_makeIt_162 sx_m0 ?_
    refine sx_aload_n (pc := 163) dX12_makeIt_163 sx_m0 ?_
    refine sv_getA (pc := 164) hG dX12_makeIt_164 f_12_149 lay_146 rfl cr_146_119 ?_
    refine sx_iconst (pc := 167) (v := 0) dX12_makeIt_167 (by decide) ?_
    refine sv_iald (pc := 168) hG dX12_makeIt_168 lay_191 (by decide) ?_
    obtain ⟨V16, hV16⟩ : ∃ z : sv_V, z = sv_I V15 146 129 (V15.1 191 (0 : Int32).toNatClampNeg) := ⟨_, rfl⟩
    have h := sx_letE hV16 h
    refine sv_putI (pc := 169) hG dX12_makeIt_169 f_12_826 lay_146 rfl hV16 ?_
    refine sx_iconst (pc := 172) (v := 0) dX12_makeIt_172 (by decide) ?_
    refine sx_istore_n (pc := 173) (lo' := [(3, .int (0 : Int32)), (0, .ref 146), (2, .int l2)]) dX12_makeIt_173 (by decide) rfl ?_
    refine sx_wk (sx_s1 sx_m1 (sx_s1 sx_m2 (sx_s1 sx_m0 sx_s0))) ?_
    exact tL_X12_makeIt_174 hG hP  N _ _ _ h
  · have h := sx_neg c14 h
    refine sx_aload_n (pc := 147) dX12_makeIt_147 sx_m0 ?_
    obtain ⟨⟨x19, V17⟩, g18, h⟩ := sx_bnd h
    refine sv_cV (pc := 148) (y := qX12_failedNow) (o := (some (.int x19))) (as := []) (V1 := V17) hG dX12_makeIt_148 l_X12_773 y0X12_failedNow yvX12_failedNow rfl (Nat.le_of_ble_eq_true rfl) lay_146 kr_12 (by decide) (Nat.le_of_ble_eq_true rfl) rfl rfl rfl (t_X12_failedNow hG ⟨rfl, rfl⟩ g18) ?_
    exact sv_iret (pc := 151) dX12_makeIt_151 rfl h hP
def B_X12_makeIt_35 (N : Nat) (k35 : Int32 → Int32 → sv_V → Option (Int32 × sv_V)) (l2 : Int32) (l3 : Int32) (V : sv_V) : Option (Int32 × sv_V) := if (V.1 190 (0 : Int32).toNatClampNeg) ≤ l3 then (B_X12_makeIt_140 N  l2 V) else (if (V.1 146 59) = 0 then (if sx_in l3 612 = true then if sx_in l3 100 = true then sx_let (sv_I V 197 l3.toNatClampNeg ((V.1 192 l3.toNatClampNeg) - l2)) (fun V24 => if sx_in l3 612 = true then if sx_in l3 100 = true then sx_let (sv_I V24 198 l3.toNatClampNeg (V24.1 193 l3.toNatClampNeg)) (fun V27 => if sx_in l3 612 = true then if sx_in l3 100 = true then if sv_bl (V27.1 194 l3.toNatClampNeg) = true then sx_let (sv_I V27 199 l3.toNatClampNeg (V27.1 194 l3.toNatClampNeg)) (fun V31 => if sx_in l3 100 = true then (F_X12_in ((V31.1 197 l3.toNatClampNeg).toInt64) (-4096 : Int64) (4096 : Int64) V31).bind (fun (x35, V33) => if x35 = 0 then (B_X12_makeIt_128 N k35 l2 l3 V33) else (if sx_in l3 100 = true then (F_X12_in ((V33.1 198 l3.toNatClampNeg).toInt64) (-4096 : Int64) (4096 : Int64) V33).bind (fun (x40, V38) => if x40 = 0 then (B_X12_makeIt_128 N k35 l2 l3 V38) else (B_X12_makeIt_134 N k35 l2 l3 V38)) else none)) else none) else none else none else none) else none else none) else none else none) else (B_X12_makeIt_140 N  l2 V))
set_option maxRecDepth 20000 in
theorem tB_X12_makeIt_35 {g : sx_G} (hG : sx_Go g) {P : Option Value → sv_V → Prop} {r : Int32} {Vr : sv_V} (hP : P (some (.int r)) Vr) {N : Nat} {k35 : Int32 → Int32 → sv_V → Option (Int32 × sv_V)} (hk35 : ∀ (l2 : Int32) (l3 : Int32) (V : sv_V), k35 l2 l3 V = some (r, Vr) → sv_N g qX12_makeIt 47 35 [(0, .ref 146), (2, .int l2), (3, .int l3)] [] V P) {l2 : Int32} {l3 : Int32} {V : sv_V} (h : B_X12_makeIt_35 N k35 l2 l3 V = some (r, Vr)) : sv_N g qX12_makeIt 47 35 [(0, .ref 146), (2, .int l2), (3, .int l3)] [] V P := by
  unfold B_X12_makeIt_35 at h
  refine sx_iload_n (pc := 35) dX12_makeIt_35 sx_m2 ?_
  refine sx_aload_n (pc := 36) dX12_makeIt_36 sx_m0 ?_
  refine sv_getA (pc := 37) hG dX12_makeIt_37 f_12_146 lay_146 rfl cr_146_118 ?_
  refine sx_iconst (pc := 40) (v := 0) dX12_makeIt_40 (by decide) ?_
  refine sv_iald (pc := 41) hG dX12_makeIt_41 lay_190 (by decide) ?_
  refine sx_icmp_ge (pc := 42) (tgt := 140) dX12_makeIt_42 (by decide) (fun c20 => ?_) (fun c20 => ?_)
  · have h := sx_pos c20 h
    refine sx_wk (sx_s1 sx_m0 (sx_s1 sx_m1 sx_s0)) ?_
    exact tB_X12_makeIt_140 hG hP  h
  · have h := sx_neg c20 h
    refine sx_aload_n (pc := 45) dX12_makeIt_45 sx_m0 ?_
    refine sv_getI (pc := 46) hG dX12_makeIt_46 f_12_409 lay_146 rfl ?_
    refine sx_if_ne (pc := 49) (tgt := 140) dX12_makeIt_49 (by decide) (fun c21 => ?_) (fun c21 => ?_)
    · have h := sx_neg c21 h
      refine sx_wk (sx_s1 sx_m0 (sx_s1 sx_m1 sx_s0)) ?_
      exact tB_X12_makeIt_140 hG hP  h
    · have h := sx_pos c21 h
      refine sx_aload_n (pc := 52) dX12_makeIt_52 sx_m0 ?_
      refine sv_getA (pc := 53) hG dX12_makeIt_53 f_12_167 lay_146 rfl cr_146_130 ?_
      refine sx_iload_n (pc := 56) dX12_makeIt_56 sx_m2 ?_
      refine sx_aload_n (pc := 57) dX12_makeIt_57 sx_m0 ?_
      refine sv_getA (pc := 58) hG dX12_makeIt_58 f_12_152 lay_146 rfl cr_146_120 ?_
      refine sx_iload_n (pc := 61) dX12_makeIt_61 sx_m2 ?_
      obtain ⟨g22, h⟩ := sx_grd h
      refine sv_iald (pc := 62) hG dX12_makeIt_62 lay_192 g22 ?_
      refine sx_iload_n (pc := 63) dX12_makeIt_63 sx_m1 ?_
      refine sx_isub (pc := 64) dX12_makeIt_64 ?_
      obtain ⟨g23, h⟩ := sx_grd h
      obtain ⟨V24, hV24⟩ : ∃ z : sv_V, z = sv_I V 197 l3.toNatClampNeg ((V.1 192 l3.toNatClampNeg) - l2) := ⟨_, rfl⟩
      have h := sx_letE hV24 h
      refine sv_iast (pc := 65) hG dX12_makeIt_65 lay_197 g23 hV24 ?_
      refine sx_aload_n (pc := 66) dX12_makeIt_66 sx_m0 ?_
      refine sv_getA (pc := 67) hG dX12_makeIt_67 f_12_170 lay_146 rfl cr_146_131 ?_
      refine sx_iload_n (pc := 70) dX12_makeIt_70 sx_m2 ?_
      refine sx_aload_n (pc := 71) dX12_makeIt_71 sx_m0 ?_
      refine sv_getA (pc := 72) hG dX12_makeIt_72 f_12_155 lay_146 rfl cr_146_121 ?_
      refine sx_iload_n (pc := 75) dX12_makeIt_75 sx_m2 ?_
      obtain ⟨g25, h⟩ := sx_grd h
      refine sv_iald (pc := 76) hG dX12_makeIt_76 lay_193 g25 ?_
      obtain ⟨g26, h⟩ := sx_grd h
      obtain ⟨V27, hV27⟩ : ∃ z : sv_V, z = sv_I V24 198 l3.toNatClampNeg (V24.1 193 l3.toNatClampNeg) := ⟨_, rfl⟩
      have h := sx_letE hV27 h
      refine sv_iast (pc := 77) hG dX12_makeIt_77 lay_198 g26 hV27 ?_
      refine sx_aload_n (pc := 78) dX12_makeIt_78 sx_m0 ?_
      refine sv_getA (pc := 79) hG dX12_makeIt_79 f_12_173 lay_146 rfl cr_146_132 ?_
      refine sx_iload_n (pc := 82) dX12_makeIt_82 sx_m2 ?_
      refine sx_aload_n (pc := 83) dX12_makeIt_83 sx_m0 ?_
      refine sv_getA (pc := 84) hG dX12_makeIt_84 f_12_158 lay_146 rfl cr_146_122 ?_
      refine sx_iload_n (pc := 87) dX12_makeIt_87 sx_m2 ?_
      obtain ⟨g28, h⟩ := sx_grd h
      refine sv_zald (pc := 88) hG dX12_makeIt_88 lay_194 g28 ?_
      obtain ⟨g29, h⟩ := sx_grd h
      obtain ⟨g30, h⟩ := sx_grd h
      obtain ⟨V31, hV31⟩ : ∃ z : sv_V, z = sv_I V27 199 l3.toNatClampNeg (V27.1 194 l3.toNatClampNeg) := ⟨_, rfl⟩
      have h := sx_letE hV31 h
      refine sv_zast (pc := 89) hG dX12_makeIt_89 lay_199 g29 g30 hV31 ?_
      refine sx_aload_n (pc := 90) dX12_makeIt_90 sx_m0 ?_
      refine sv_getA (pc := 91) hG dX12_makeIt_91 f_12_167 lay_146 rfl cr_146_130 ?_
      refine sx_iload_n (pc := 94) dX12_makeIt_94 sx_m2 ?_
      obtain ⟨g32, h⟩ := sx_grd h
      refine sv_iald (pc := 95) hG dX12_makeIt_95 lay_197 g32 ?_
      refine sx_i2l (pc := 96) dX12_makeIt_96 ?_
      refine sx_ldc2 (pc := 97) dX12_makeIt_97 k_X12_819 ?_
      refine sx_ldc2 (pc := 100) dX12_makeIt_100 k_X12_821 ?_
      obtain ⟨⟨x35, V33⟩, g34, h⟩ := sx_bnd h
      refine sv_cS (pc := 103) (y := qX12_in) (o := (some (.int x35))) (as := [.long ((V31.1 197 l3.toNatClampNeg).toInt64), .long (-4096 : Int64), .long (4096 : Int64)]) (V1 := V33) dX12_makeIt_103 l_X12_263 y0X12_in ysX12_in rfl (Nat.le_of_ble_eq_true rfl) (by decide) (Nat.le_of_ble_eq_true rfl) rfl rfl rfl (t_X12_in hG ⟨rfl, rfl⟩ g34) ?_
      refine sx_if_eq (pc := 106) (tgt := 128) dX12_makeIt_106 (by decide) (fun c36 => ?_) (fun c36 => ?_)
      · have h := sx_pos c36 h
        refine sx_wk (sx_s1 sx_m0 (sx_s1 sx_m1 (sx_s1 sx_m2 sx_s0))) ?_
        exact tB_X12_makeIt_128 hG hP hk35 h
      · have h := sx_neg c36 h
        refine sx_aload_n (pc := 109) dX12_makeIt_109 sx_m0 ?_
        refine sv_getA (pc := 110) hG dX12_makeIt_110 f_12_170 lay_146 rfl cr_146_131 ?_
        refine sx_iload_n (pc := 113) dX12_makeIt_113 sx_m2 ?_
        obtain ⟨g37, h⟩ := sx_grd h
        refine sv_iald (pc := 114) hG dX12_makeIt_114 lay_198 g37 ?_
        refine sx_i2l (pc := 115) dX12_makeIt_115 ?_
        refine sx_ldc2 (pc := 116) dX12_makeIt_116 k_X12_819 ?_
        refine sx_ldc2 (pc := 119) dX12_makeIt_119 k_X12_821 ?_
        obtain ⟨⟨x40, V38⟩, g39, h⟩ := sx_bnd h
        refine sv_cS (pc := 122) (y := qX12_in) (o := (some (.int x40))) (as := [.long ((V33.1 198 l3.toNatClampNeg).toInt64), .long (-4096 : Int64), .long (4096 : Int64)]) (V1 := V38) dX12_makeIt_122 l_X12_263 y0X12_in ysX12_in rfl (Nat.le_of_ble_eq_true rfl) (by decide) (Nat.le_of_ble_eq_true rfl) rfl rfl rfl (t_X12_in hG ⟨rfl, rfl⟩ g39) ?_
        refine sx_if_ne (pc := 125) (tgt := 134) dX12_makeIt_125 (by decide) (fun c41 => ?_) (fun c41 => ?_)
        · have h := sx_neg c41 h
          refine sx_wk (sx_s1 sx_m0 (sx_s1 sx_m1 (sx_s1 sx_m2 sx_s0))) ?_
          exact tB_X12_makeIt_134 hG hP hk35 h
        · have h := sx_pos c41 h
          refine sx_wk (sx_s1 sx_m0 (sx_s1 sx_m1 (sx_s1 sx_m2 sx_s0))) ?_
          exact tB_X12_makeIt_128 hG hP hk35 h
theorem tL_X12_makeIt_35 {g : sx_G} (hG : sx_Go g) {P : Option Value → sv_V → Prop} {r : Int32} {Vr : sv_V} (hP : P (some (.int r)) Vr) {N : Nat}   : ∀ (n : Nat) (l2 : Int32) (l3 : Int32) (V : sv_V), sx_lp3 (B_X12_makeIt_35 N ) n l2 l3 V = some (r, Vr) → sv_N g qX12_makeIt 47 35 [(0, .ref 146), (2, .int l2), (3, .int l3)] [] V P :=
  sx_lp3_ind (fun k0 ih _ _ V h => tB_X12_makeIt_35 hG hP ih h)
def F_X12_makeIt (N : Nat) (l1 : Int32) (V : sv_V) : Option (Int32 × sv_V) := sx_let (sv_I V 146 108 (0 : Int32)) (fun V42 => sx_let (sv_I V42 146 59 (0 : Int32)) (fun V43 => sx_let (sv_I V43 146 58 (0 : Int32)) (fun V44 => sx_let (sv_I V44 146 125 (0 : Int32)) (fun V45 => (F_X12_makeGlyph N l1 (0 : Int32) V45).bind (fun V46 => sx_let (V46.1 196 (0 : Int32).toNatClampNeg) (fun x48 => sx_lp3 (B_X12_makeIt_35 N ) N x48 (0 : Int32) V46))))))
set_option maxRecDepth 20000 in
theorem t_X12_makeIt {g : sx_G} (hG : sx_Go g) {P : Option Value → sv_V → Prop} {r : Int32} {Vr : sv_V} (hP : P (some (.int r)) Vr) {N : Nat} {l1 : Int32} {V : sv_V} (h : F_X12_makeIt N l1 V = some (r, Vr)) : sv_N g qX12_makeIt 47 0 [(0, .ref 146), (1, .int l1)] [] V P := by
  unfold F_X12_makeIt at h
  refine sx_aload_n (pc := 0) dX12_makeIt_0 sx_m0 ?_
  refine sx_iconst (pc := 1) (v := 0) dX12_makeIt_1 (by decide) ?_
  obtain ⟨V42, hV42⟩ : ∃ z : sv_V, z = sv_I V 146 108 (0 : Int32) := ⟨_, rfl⟩
  have h := sx_letE hV42 h
  refine sv_putZ (pc := 2) hG dX12_makeIt_2 f_12_764 lay_146 rfl rfl hV42 ?_
  refine sx_aload_n (pc := 5) dX12_makeIt_5 sx_m0 ?_
  refine sx_iconst (pc := 6) (v := 0) dX12_makeIt_6 (by decide) ?_
  obtain ⟨V43, hV43⟩ : ∃ z : sv_V, z = sv_I V42 146 59 (0 : Int32) := ⟨_, rfl⟩
  have h := sx_letE hV43 h
  refine sv_putI (pc := 7) hG dX12_makeIt_7 f_12_409 lay_146 rfl hV43 ?_
  refine sx_aload_n (pc := 10) dX12_makeIt_10 sx_m0 ?_
  refine sx_iconst (pc := 11) (v := 0) dX12_makeIt_11 (by decide) ?_
  obtain ⟨V44, hV44⟩ : ∃ z : sv_V, z = sv_I V43 146 58 (0 : Int32) := ⟨_, rfl⟩
  have h := sx_letE hV44 h
  refine sv_putI (pc := 12) hG dX12_makeIt_12 f_12_505 lay_146 rfl hV44 ?_
  refine sx_aload_n (pc := 15) dX12_makeIt_15 sx_m0 ?_
  refine sx_iconst (pc := 16) (v := 0) dX12_makeIt_16 (by decide) ?_
  obtain ⟨V45, hV45⟩ : ∃ z : sv_V, z = sv_I V44 146 125 (0 : Int32) := ⟨_, rfl⟩
  have h := sx_letE hV45 h
  refine sv_putI (pc := 17) hG dX12_makeIt_17 f_12_807 lay_146 rfl hV45 ?_
  refine sx_aload_n (pc := 20) dX12_makeIt_20 sx_m0 ?_
  refine sx_iload_n (pc := 21) dX12_makeIt_21 sx_m1 ?_
  refine sx_iconst (pc := 22) (v := 0) dX12_makeIt_22 (by decide) ?_
  obtain ⟨V46, g47, h⟩ := sx_bnd h
  refine sv_cV (pc := 23) (y := qX12_makeGlyph) (o := none) (as := [.int l1, .int (0 : Int32)]) (V1 := V46) hG dX12_makeIt_23 l_X12_810 y0X12_makeGlyph yvX12_makeGlyph rfl (Nat.le_of_ble_eq_true rfl) lay_146 kr_12 (by decide) (Nat.le_of_ble_eq_true rfl) rfl rfl rfl (t_X12_makeGlyph hG ⟨rfl, rfl⟩ g47) ?_
  refine sx_aload_n (pc := 26) dX12_makeIt_26 sx_m0 ?_
  refine sv_getA (pc := 27) hG dX12_makeIt_27 f_12_164 lay_146 rfl cr_146_124 ?_
  refine sx_iconst (pc := 30) (v := 0) dX12_makeIt_30 (by decide) ?_
  refine sv_iald (pc := 31) hG dX12_makeIt_31 lay_196 (by decide) ?_
  refine sv_tI (fun x48 hx48 => ?_)
  have h := sx_letE hx48 h
  refine sx_istore_n (pc := 32) (lo' := [(2, .int x48), (0, .ref 146), (1, .int l1)]) dX12_makeIt_32 (by decide) rfl ?_
  refine sx_iconst (pc := 33) (v := 0) dX12_makeIt_33 (by decide) ?_
  refine sx_istore_n (pc := 34) (lo' := [(3, .int (0 : Int32)), (2, .int x48), (0, .ref 146), (1, .int l1)]) dX12_makeIt_34 (by decide) rfl ?_
  refine sx_wk (sx_s1 sx_m2 (sx_s1 sx_m1 (sx_s1 sx_m0 sx_s0))) ?_
  exact tL_X12_makeIt_35 hG hP  N _ _ _ h
def ncX12_make : Nat := 24078358153173040571507689858861907071058814840699575334862036043842137944190756895160127899944439952426
theorem kcX12_make : CK cX12_make ncX12_make 43 := ⟨by decide +kernel, by decide +kernel⟩
theorem dX12_make_0 : decode cX12_make 0 = .ok (.aload_n 0, 1) := dl_o42 kcX12_make (by decide +kernel)
theorem dX12_make_1 : decode cX12_make 1 = .ok (.getfield 759, 3) := dl_o180 kcX12_make (by decide +kernel)
theorem dX12_make_4 : decode cX12_make 4 = .ok (.ifCond .eq 10, 3) := dl_o153 kcX12_make 10 (by decide +kernel) (by decide +kernel)
theorem dX12_make_7 : decode cX12_make 7 = .ok (.aload_n 0, 1) := dl_o42 kcX12_make (by decide +kernel)
theorem dX12_make_8 : decode cX12_make 8 = .ok (.getfield 767, 3) := dl_o180 kcX12_make (by decide +kernel)
theorem dX12_make_11 : decode cX12_make 11 = .ok (.ifCond .ne 6, 3) := dl_o154 kcX12_make 6 (by decide +kernel) (by decide +kernel)
theorem dX12_make_14 : decode cX12_make 14 = .ok (.bipush (-3), 2) := dl_o16 kcX12_make 253 (by decide +kernel) (by decide +kernel)
theorem dX12_make_16 : decode cX12_make 16 = .ok (.ireturn, 1) := dl_o172 kcX12_make (by decide +kernel)
theorem dX12_make_17 : decode cX12_make 17 = .ok (.iload_n 1, 1) := dl_o27 kcX12_make (by decide +kernel)
theorem dX12_make_18 : decode cX12_make 18 = .ok (.i2l, 1) := dl_o133 kcX12_make (by decide +kernel)
theorem dX12_make_19 : decode cX12_make 19 = .ok (.lconst 0, 1) := dl_o9 kcX12_make (by decide +kernel)
theorem dX12_make_20 : decode cX12_make 20 = .ok (.aload_n 0, 1) := dl_o42 kcX12_make (by decide +kernel)
theorem dX12_make_21 : decode cX12_make 21 = .ok (.getfield 260, 3) := dl_o180 kcX12_make (by decide +kernel)
theorem dX12_make_24 : decode cX12_make 24 = .ok (.iconst 1, 1) := dl_o4 kcX12_make (by decide +kernel)
theorem dX12_make_25 : decode cX12_make 25 = .ok (.isub, 1) := dl_o100 kcX12_make (by decide +kernel)
theorem dX12_make_26 : decode cX12_make 26 = .ok (.i2l, 1) := dl_o133 kcX12_make (by decide +kernel)
theorem dX12_make_27 : decode cX12_make 27 = .ok (.invokestatic 263, 3) := dl_o184 kcX12_make (by decide +kernel)
theorem dX12_make_30 : decode cX12_make 30 = .ok (.ifCond .eq 11, 3) := dl_o153 kcX12_make 11 (by decide +kernel) (by decide +kernel)
theorem dX12_make_33 : decode cX12_make 33 = .ok (.aload_n 0, 1) := dl_o42 kcX12_make (by decide +kernel)
theorem dX12_make_34 : decode cX12_make 34 = .ok (.iload_n 1, 1) := dl_o27 kcX12_make (by decide +kernel)
theorem dX12_make_35 : decode cX12_make 35 = .ok (.invokevirtual 832, 3) := dl_o182 kcX12_make (by decide +kernel)
theorem dX12_make_38 : decode cX12_make 38 = .ok (.goto 4, 3) := dl_o167 kcX12_make 4 (by decide +kernel) (by decide +kernel)
theorem dX12_make_41 : decode cX12_make 41 = .ok (.iconst (-1), 1) := dl_o2 kcX12_make (by decide +kernel)
theorem dX12_make_42 : decode cX12_make 42 = .ok (.ireturn, 1) := dl_o172 kcX12_make (by decide +kernel)
def F_X12_make (N : Nat) (l1 : Int32) (V : sv_V) : Option (Int32 × sv_V) := if (V.1 146 4) = 0 then (some ((-3 : Int32), V)) else (if (V.1 146 107) = 0 then (some ((-3 : Int32), V)) else ((F_X12_in l1.toInt64 (0 : Int64) (((V.1 146 12) - (1 : Int32)).toInt64) V).bind (fun (x5, V3) => if x5 = 0 then (some ((-1 : Int32), V3)) else ((F_X12_makeIt N l1 V3).bind (fun (x9, V7) => some (x9, V7))))))
set_option maxRecDepth 20000 in
theorem t_X12_make {g : sx_G} (hG : sx_Go g) {P : Option Value → sv_V → Prop} {r : Int32} {Vr : sv_V} (hP : P (some (.int r)) Vr) {N : Nat} {l1 : Int32} {V : sv_V} (h : F_X12_make N l1 V = some (r, Vr)) : sv_N g qX12_make 48 0 [(0, .ref 146), (1, .int l1)] [] V P := by
  unfold F_X12_make at h
  refine sx_aload_n (pc := 0) dX12_make_0 sx_m0 ?_
  refine sv_getZ (pc := 1) hG dX12_make_1 f_12_759 lay_146 rfl ?_
  refine sx_if_eq (pc := 4) (tgt := 14) dX12_make_4 (by decide) (fun c1 => ?_) (fun c1 => ?_)
  · have h := sx_pos c1 h
    refine sx_bipush (pc := 14) (v := (-3)) dX12_make_14 (by decide) ?_
    exact sv_iret (pc := 16) dX12_make_16 rfl h hP
  · have h := sx_neg c1 h
    refine sx_aload_n (pc := 7) dX12_make_7 sx_m0 ?_
    refine sv_getZ (pc := 8) hG dX12_make_8 f_12_767 lay_146 rfl ?_
    refine sx_if_ne (pc := 11) (tgt := 17) dX12_make_11 (by decide) (fun c2 => ?_) (fun c2 => ?_)
    · have h := sx_neg c2 h
      refine sx_iload_n (pc := 17) dX12_make_17 sx_m1 ?_
      refine sx_i2l (pc := 18) dX12_make_18 ?_
      refine sx_lconst (pc := 19) (v := 0) dX12_make_19 rfl ?_
      refine sx_aload_n (pc := 20) dX12_make_20 sx_m0 ?_
      refine sv_getI (pc := 21) hG dX12_make_21 f_12_260 lay_146 rfl ?_
      refine sx_iconst (pc := 24) (v := 1) dX12_make_24 (by decide) ?_
      refine sx_isub (pc := 25) dX12_make_25 ?_
      refine sx_i2l (pc := 26) dX12_make_26 ?_
      obtain ⟨⟨x5, V3⟩, g4, h⟩ := sx_bnd h
      refine sv_cS (pc := 27) (y := qX12_in) (o := (some (.int x5))) (as := [.long l1.toInt64, .long (0 : Int64), .long (((V.1 146 12) - (1 : Int32)).toInt64)]) (V1 := V3) dX12_make_27 l_X12_263 y0X12_in ysX12_in rfl (Nat.le_of_ble_eq_true rfl) (by decide) (Nat.le_of_ble_eq_true rfl) rfl rfl rfl (t_X12_in hG ⟨rfl, rfl⟩ g4) ?_
      refine sx_if_eq (pc := 30) (tgt := 41) dX12_make_30 (by decide) (fun c6 => ?_) (fun c6 => ?_)
      · have h := sx_pos c6 h
        refine sx_iconst (pc := 41) (v := (-1)) dX12_make_41 (by decide) ?_
        exact sv_iret (pc := 42) dX12_make_42 rfl h hP
      · have h := sx_neg c6 h
        refine sx_aload_n (pc := 33) dX12_make_33 sx_m0 ?_
        refine sx_iload_n (pc := 34) dX12_make_34 sx_m1 ?_
        obtain ⟨⟨x9, V7⟩, g8, h⟩ := sx_bnd h
        refine sv_cV (pc := 35) (y := qX12_makeIt) (o := (some (.int x9))) (as := [.int l1]) (V1 := V7) hG dX12_make_35 l_X12_832 y0X12_makeIt yvX12_makeIt rfl (Nat.le_of_ble_eq_true rfl) lay_146 kr_12 (by decide) (Nat.le_of_ble_eq_true rfl) rfl rfl rfl (t_X12_makeIt hG ⟨rfl, rfl⟩ g8) ?_
        refine sx_goto (pc := 38) (tgt := 42) dX12_make_38 (by decide) ?_
        exact sv_iret (pc := 42) dX12_make_42 rfl h hP
    · have h := sx_pos c2 h
      refine sx_bipush (pc := 14) (v := (-3)) dX12_make_14 (by decide) ?_
      exact sv_iret (pc := 16) dX12_make_16 rfl h hP
def ncX12_line : Nat := 6326479978706804325813954289362281688233030521819376910612859288526933887763240636098131083025536215208915960477133229116697106249011809624221771990271028442189405119792769091814966061007688732529296910735505313885878849563441824506968006009860122144922570785413132735464511135113940827062787021934240222967165510949503080637686337647098100878483423502668389343461531324977753828647246009176113508192949211433744085611641296913620775816172882534709964249936938
theorem kcX12_line : CK cX12_line ncX12_line 191 := ⟨by decide +kernel, by decide +kernel⟩
theorem dX12_line_0 : decode cX12_line 0 = .ok (.aload_n 0, 1) := dl_o42 kcX12_line (by decide +kernel)
theorem dX12_line_1 : decode cX12_line 1 = .ok (.getfield 759, 3) := dl_o180 kcX12_line (by decide +kernel)
theorem dX12_line_4 : decode cX12_line 4 = .ok (.ifCond .eq 17, 3) := dl_o153 kcX12_line 17 (by decide +kernel) (by decide +kernel)
theorem dX12_line_7 : decode cX12_line 7 = .ok (.aload_n 0, 1) := dl_o42 kcX12_line (by decide +kernel)
theorem dX12_line_8 : decode cX12_line 8 = .ok (.getfield 767, 3) := dl_o180 kcX12_line (by decide +kernel)
theorem dX12_line_11 : decode cX12_line 11 = .ok (.ifCond .eq 10, 3) := dl_o153 kcX12_line 10 (by decide +kernel) (by decide +kernel)
theorem dX12_line_14 : decode cX12_line 14 = .ok (.aload_n 0, 1) := dl_o42 kcX12_line (by decide +kernel)
theorem dX12_line_15 : decode cX12_line 15 = .ok (.getfield 881, 3) := dl_o180 kcX12_line (by decide +kernel)
theorem dX12_line_18 : decode cX12_line 18 = .ok (.ifCond .ne 6, 3) := dl_o154 kcX12_line 6 (by decide +kernel) (by decide +kernel)
theorem dX12_line_21 : decode cX12_line 21 = .ok (.bipush (-3), 2) := dl_o16 kcX12_line 253 (by decide +kernel) (by decide +kernel)
theorem dX12_line_23 : decode cX12_line 23 = .ok (.ireturn, 1) := dl_o172 kcX12_line (by decide +kernel)
theorem dX12_line_24 : decode cX12_line 24 = .ok (.iload_n 1, 1) := dl_o27 kcX12_line (by decide +kernel)
theorem dX12_line_25 : decode cX12_line 25 = .ok (.i2l, 1) := dl_o133 kcX12_line (by decide +kernel)
theorem dX12_line_26 : decode cX12_line 26 = .ok (.ldc2_w 887, 3) := dl_o20 kcX12_line (by decide +kernel)
theorem dX12_line_29 : decode cX12_line 29 = .ok (.ldc2_w 889, 3) := dl_o20 kcX12_line (by decide +kernel)
theorem dX12_line_32 : decode cX12_line 32 = .ok (.invokestatic 263, 3) := dl_o184 kcX12_line (by decide +kernel)
theorem dX12_line_35 : decode cX12_line 35 = .ok (.ifCond .eq 17, 3) := dl_o153 kcX12_line 17 (by decide +kernel) (by decide +kernel)
theorem dX12_line_38 : decode cX12_line 38 = .ok (.iload_n 2, 1) := dl_o28 kcX12_line (by decide +kernel)
theorem dX12_line_39 : decode cX12_line 39 = .ok (.i2l, 1) := dl_o133 kcX12_line (by decide +kernel)
theorem dX12_line_40 : decode cX12_line 40 = .ok (.ldc2_w 887, 3) := dl_o20 kcX12_line (by decide +kernel)
theorem dX12_line_43 : decode cX12_line 43 = .ok (.ldc2_w 889, 3) := dl_o20 kcX12_line (by decide +kernel)
theorem dX12_line_46 : decode cX12_line 46 = .ok (.invokestatic 263, 3) := dl_o184 kcX12_line (by decide +kernel)
theorem dX12_line_49 : decode cX12_line 49 = .ok (.ifCond .ne 6, 3) := dl_o154 kcX12_line 6 (by decide +kernel) (by decide +kernel)
theorem dX12_line_52 : decode cX12_line 52 = .ok (.bipush (-2), 2) := dl_o16 kcX12_line 254 (by decide +kernel) (by decide +kernel)
theorem dX12_line_54 : decode cX12_line 54 = .ok (.ireturn, 1) := dl_o172 kcX12_line (by decide +kernel)
theorem dX12_line_55 : decode cX12_line 55 = .ok (.aload_n 0, 1) := dl_o42 kcX12_line (by decide +kernel)
theorem dX12_line_56 : decode cX12_line 56 = .ok (.getfield 896, 3) := dl_o180 kcX12_line (by decide +kernel)
theorem dX12_line_59 : decode cX12_line 59 = .ok (.istore_n 3, 1) := dl_o62 kcX12_line (by decide +kernel)
theorem dX12_line_60 : decode cX12_line 60 = .ok (.aload_n 0, 1) := dl_o42 kcX12_line (by decide +kernel)
theorem dX12_line_61 : decode cX12_line 61 = .ok (.iconst 0, 1) := dl_o3 kcX12_line (by decide +kernel)
theorem dX12_line_62 : decode cX12_line 62 = .ok (.putfield 896, 3) := dl_o181 kcX12_line (by decide +kernel)
theorem dX12_line_65 : decode cX12_line 65 = .ok (.iload_n 1, 1) := dl_o27 kcX12_line (by decide +kernel)
theorem dX12_line_66 : decode cX12_line 66 = .ok (.istore 4, 2) := dl_o54 kcX12_line (by decide +kernel)
theorem dX12_line_68 : decode cX12_line 68 = .ok (.iconst (-1), 1) := dl_o2 kcX12_line (by decide +kernel)
theorem dX12_line_69 : decode cX12_line 69 = .ok (.istore 5, 2) := dl_o54 kcX12_line (by decide +kernel)
theorem dX12_line_71 : decode cX12_line 71 = .ok (.iconst 0, 1) := dl_o3 kcX12_line (by decide +kernel)
theorem dX12_line_72 : decode cX12_line 72 = .ok (.istore 6, 2) := dl_o54 kcX12_line (by decide +kernel)
theorem dX12_line_74 : decode cX12_line 74 = .ok (.iload 6, 2) := dl_o21 kcX12_line (by decide +kernel)
theorem dX12_line_76 : decode cX12_line 76 = .ok (.iload_n 3, 1) := dl_o29 kcX12_line (by decide +kernel)
theorem dX12_line_77 : decode cX12_line 77 = .ok (.if_icmp .ge 111, 3) := dl_o162 kcX12_line 111 (by decide +kernel) (by decide +kernel)
theorem dX12_line_80 : decode cX12_line 80 = .ok (.aload_n 0, 1) := dl_o42 kcX12_line (by decide +kernel)
theorem dX12_line_81 : decode cX12_line 81 = .ok (.aload_n 0, 1) := dl_o42 kcX12_line (by decide +kernel)
theorem dX12_line_82 : decode cX12_line 82 = .ok (.getfield 191, 3) := dl_o180 kcX12_line (by decide +kernel)
theorem dX12_line_85 : decode cX12_line 85 = .ok (.iload 6, 2) := dl_o21 kcX12_line (by decide +kernel)
theorem dX12_line_87 : decode cX12_line 87 = .ok (.iaload, 1) := dl_o46 kcX12_line (by decide +kernel)
theorem dX12_line_88 : decode cX12_line 88 = .ok (.invokevirtual 902, 3) := dl_o182 kcX12_line (by decide +kernel)
theorem dX12_line_91 : decode cX12_line 91 = .ok (.istore 7, 2) := dl_o54 kcX12_line (by decide +kernel)
theorem dX12_line_93 : decode cX12_line 93 = .ok (.iload 4, 2) := dl_o21 kcX12_line (by decide +kernel)
theorem dX12_line_95 : decode cX12_line 95 = .ok (.iload 5, 2) := dl_o21 kcX12_line (by decide +kernel)
theorem dX12_line_97 : decode cX12_line 97 = .ok (.iconst (-1), 1) := dl_o2 kcX12_line (by decide +kernel)
theorem dX12_line_98 : decode cX12_line 98 = .ok (.if_icmp .ne 7, 3) := dl_o160 kcX12_line 7 (by decide +kernel) (by decide +kernel)
theorem dX12_line_101 : decode cX12_line 101 = .ok (.iconst 0, 1) := dl_o3 kcX12_line (by decide +kernel)
theorem dX12_line_102 : decode cX12_line 102 = .ok (.goto 16, 3) := dl_o167 kcX12_line 16 (by decide +kernel) (by decide +kernel)
theorem dX12_line_105 : decode cX12_line 105 = .ok (.aload_n 0, 1) := dl_o42 kcX12_line (by decide +kernel)
theorem dX12_line_106 : decode cX12_line 106 = .ok (.aload_n 0, 1) := dl_o42 kcX12_line (by decide +kernel)
theorem dX12_line_107 : decode cX12_line 107 = .ok (.iload 5, 2) := dl_o21 kcX12_line (by decide +kernel)
theorem dX12_line_109 : decode cX12_line 109 = .ok (.iload 7, 2) := dl_o21 kcX12_line (by decide +kernel)
theorem dX12_line_111 : decode cX12_line 111 = .ok (.invokevirtual 905, 3) := dl_o182 kcX12_line (by decide +kernel)
theorem dX12_line_114 : decode cX12_line 114 = .ok (.i2l, 1) := dl_o133 kcX12_line (by decide +kernel)
theorem dX12_line_115 : decode cX12_line 115 = .ok (.invokevirtual 611, 3) := dl_o182 kcX12_line (by decide +kernel)
theorem dX12_line_118 : decode cX12_line 118 = .ok (.iadd, 1) := dl_o96 kcX12_line (by decide +kernel)
theorem dX12_line_119 : decode cX12_line 119 = .ok (.istore 4, 2) := dl_o54 kcX12_line (by decide +kernel)
theorem dX12_line_121 : decode cX12_line 121 = .ok (.aload_n 0, 1) := dl_o42 kcX12_line (by decide +kernel)
theorem dX12_line_122 : decode cX12_line 122 = .ok (.iload 7, 2) := dl_o21 kcX12_line (by decide +kernel)
theorem dX12_line_124 : decode cX12_line 124 = .ok (.invokevirtual 832, 3) := dl_o182 kcX12_line (by decide +kernel)
theorem dX12_line_127 : decode cX12_line 127 = .ok (.istore 8, 2) := dl_o54 kcX12_line (by decide +kernel)
theorem dX12_line_129 : decode cX12_line 129 = .ok (.iload 8, 2) := dl_o21 kcX12_line (by decide +kernel)
theorem dX12_line_131 : decode cX12_line 131 = .ok (.ifCond .ge 10, 3) := dl_o156 kcX12_line 10 (by decide +kernel) (by decide +kernel)
theorem dX12_line_134 : decode cX12_line 134 = .ok (.ldc_w 908, 3) := dl_o19 kcX12_line (by decide +kernel)
theorem dX12_line_137 : decode cX12_line 137 = .ok (.iload 8, 2) := dl_o21 kcX12_line (by decide +kernel)
theorem dX12_line_139 : decode cX12_line 139 = .ok (.iadd, 1) := dl_o96 kcX12_line (by decide +kernel)
theorem dX12_line_140 : decode cX12_line 140 = .ok (.ireturn, 1) := dl_o172 kcX12_line (by decide +kernel)
theorem dX12_line_141 : decode cX12_line 141 = .ok (.iload 4, 2) := dl_o21 kcX12_line (by decide +kernel)
theorem dX12_line_143 : decode cX12_line 143 = .ok (.i2l, 1) := dl_o133 kcX12_line (by decide +kernel)
theorem dX12_line_144 : decode cX12_line 144 = .ok (.ldc2_w 887, 3) := dl_o20 kcX12_line (by decide +kernel)
theorem dX12_line_147 : decode cX12_line 147 = .ok (.ldc2_w 889, 3) := dl_o20 kcX12_line (by decide +kernel)
theorem dX12_line_150 : decode cX12_line 150 = .ok (.invokestatic 263, 3) := dl_o184 kcX12_line (by decide +kernel)
theorem dX12_line_153 : decode cX12_line 153 = .ok (.ifCond .ne 7, 3) := dl_o154 kcX12_line 7 (by decide +kernel) (by decide +kernel)
theorem dX12_line_156 : decode cX12_line 156 = .ok (.ldc_w 909, 3) := dl_o19 kcX12_line (by decide +kernel)
theorem dX12_line_159 : decode cX12_line 159 = .ok (.ireturn, 1) := dl_o172 kcX12_line (by decide +kernel)
theorem dX12_line_160 : decode cX12_line 160 = .ok (.aload_n 0, 1) := dl_o42 kcX12_line (by decide +kernel)
theorem dX12_line_161 : decode cX12_line 161 = .ok (.iload 4, 2) := dl_o21 kcX12_line (by decide +kernel)
theorem dX12_line_163 : decode cX12_line 163 = .ok (.iload_n 2, 1) := dl_o28 kcX12_line (by decide +kernel)
theorem dX12_line_164 : decode cX12_line 164 = .ok (.invokevirtual 891, 3) := dl_o182 kcX12_line (by decide +kernel)
theorem dX12_line_167 : decode cX12_line 167 = .ok (.istore 9, 2) := dl_o54 kcX12_line (by decide +kernel)
theorem dX12_line_169 : decode cX12_line 169 = .ok (.iload 4, 2) := dl_o21 kcX12_line (by decide +kernel)
theorem dX12_line_171 : decode cX12_line 171 = .ok (.aload_n 0, 1) := dl_o42 kcX12_line (by decide +kernel)
theorem dX12_line_172 : decode cX12_line 172 = .ok (.getfield 829, 3) := dl_o180 kcX12_line (by decide +kernel)
theorem dX12_line_175 : decode cX12_line 175 = .ok (.iadd, 1) := dl_o96 kcX12_line (by decide +kernel)
theorem dX12_line_176 : decode cX12_line 176 = .ok (.istore 4, 2) := dl_o54 kcX12_line (by decide +kernel)
theorem dX12_line_178 : decode cX12_line 178 = .ok (.iload 7, 2) := dl_o21 kcX12_line (by decide +kernel)
theorem dX12_line_180 : decode cX12_line 180 = .ok (.istore 5, 2) := dl_o54 kcX12_line (by decide +kernel)
theorem dX12_line_182 : decode cX12_line 182 = .ok (.iinc 6 1, 3) := by decide +kernel
theorem dX12_line_185 : decode cX12_line 185 = .ok (.goto (-111), 3) := dl_o167 kcX12_line 65425 (by decide +kernel) (by decide +kernel)
theorem dX12_line_188 : decode cX12_line 188 = .ok (.iload 4, 2) := dl_o21 kcX12_line (by decide +kernel)
theorem dX12_line_190 : decode cX12_line 190 = .ok (.ireturn, 1) := dl_o172 kcX12_line (by decide +kernel)
def B_X12_line_118 (N : Nat) (k74 : Int32 → Int32 → Int32 → Int32 → Int32 → sv_V → Option (Int32 × sv_V)) (l2 : Int32) (l3 : Int32) (l6 : Int32) (l7 : Int32) (s0 : Int32) (s1 : Int32) (V : sv_V) : Option (Int32 × sv_V) := sx_let (s0 + s1) (fun x1 => (F_X12_makeIt N l7 V).bind (fun (x4, V2) => if 0 ≤ x4 then ((F_X12_in x1.toInt64 (-20000 : Int64) (20000 : Int64) V2).bind (fun (x8, V6) => if x8 = 0 then (some ((-1000200 : Int32), V6)) else ((F_X12_drawIt N x1 l2 V6).bind (fun (x12, V10) => sx_let (x1 + (V10.1 146 134)) (fun x13 => sx_let (l6 + 1) (fun x14 => k74 l2 l3 x13 l7 x14 V10)))))) else (some ((-1000000 : Int32) + x4, V2))))
set_option maxRecDepth 20000 in
theorem tB_X12_line_118 {g : sx_G} (hG : sx_Go g) {P : Option Value → sv_V → Prop} {r : Int32} {Vr : sv_V} (hP : P (some (.int r)) Vr) {N : Nat} {k74 : Int32 → Int32 → Int32 → Int32 → Int32 → sv_V → Option (Int32 × sv_V)} (hk74 : ∀ (l2 : Int32) (l3 : Int32) (l4 : Int32) (l5 : Int32) (l6 : Int32) (V : sv_V), k74 l2 l3 l4 l5 l6 V = some (r, Vr) → sv_N g qX12_line 48 74 [(0, .ref 146), (2, .int l2), (3, .int l3), (4, .int l4), (5, .int l5), (6, .int l6)] [] V P) {l2 : Int32} {l3 : Int32} {l6 : Int32} {l7 : Int32} {s0 : Int32} {s1 : Int32} {V : sv_V} (h : B_X12_line_118 N k74 l2 l3 l6 l7 s0 s1 V = some (r, Vr)) : sv_N g qX12_line 48 118 [(0, .ref 146), (2, .int l2), (3, .int l3), (6, .int l6), (7, .int l7)] [.int s1, .int s0] V P := by
  unfold B_X12_line_118 at h
  refine sx_iadd (pc := 118) dX12_line_118 ?_
  refine sv_tI (fun x1 hx1 => ?_)
  have h := sx_letE hx1 h
  refine sx_istore (pc := 119) (lo' := [(4, .int x1), (0, .ref 146), (2, .int l2), (3, .int l3), (6, .int l6), (7, .int l7)]) dX12_line_119 (by decide) rfl ?_
  refine sx_aload_n (pc := 121) dX12_line_121 sx_m1 ?_
  refine sx_iload (pc := 122) dX12_line_122 sx_m5 ?_
  obtain ⟨⟨x4, V2⟩, g3, h⟩ := sx_bnd h
  refine sv_cV (pc := 124) (y := qX12_makeIt) (o := (some (.int x4))) (as := [.int l7]) (V1 := V2) hG dX12_line_124 l_X12_832 y0X12_makeIt yvX12_makeIt rfl (Nat.le_of_ble_eq_true rfl) lay_146 kr_12 (by decide) (Nat.le_of_ble_eq_true rfl) rfl rfl rfl (t_X12_makeIt hG ⟨rfl, rfl⟩ g3) ?_
  refine sx_istore (pc := 127) (lo' := [(8, .int x4), (4, .int x1), (0, .ref 146), (2, .int l2), (3, .int l3), (6, .int l6), (7, .int l7)]) dX12_line_127 (by decide) rfl ?_
  refine sx_iload (pc := 129) dX12_line_129 sx_m0 ?_
  refine sx_if_ge (pc := 131) (tgt := 141) dX12_line_131 (by decide) (fun c5 => ?_) (fun c5 => ?_)
  · have h := sx_pos c5 h
    refine sx_iload (pc := 141) dX12_line_141 sx_m1 ?_
    refine sx_i2l (pc := 143) dX12_line_143 ?_
    refine sx_ldc2 (pc := 144) dX12_line_144 k_X12_887 ?_
    refine sx_ldc2 (pc := 147) dX12_line_147 k_X12_889 ?_
    obtain ⟨⟨x8, V6⟩, g7, h⟩ := sx_bnd h
    refine sv_cS (pc := 150) (y := qX12_in) (o := (some (.int x8))) (as := [.long x1.toInt64, .long (-20000 : Int64), .long (20000 : Int64)]) (V1 := V6) dX12_line_150 l_X12_263 y0X12_in ysX12_in rfl (Nat.le_of_ble_eq_true rfl) (by decide) (Nat.le_of_ble_eq_true rfl) rfl rfl rfl (t_X12_in hG ⟨rfl, rfl⟩ g7) ?_
    refine sx_if_ne (pc := 153) (tgt := 160) dX12_line_153 (by decide) (fun c9 => ?_) (fun c9 => ?_)
    · have h := sx_neg c9 h
      refine sx_aload_n (pc := 160) dX12_line_160 sx_m2 ?_
      refine sx_iload (pc := 161) dX12_line_161 sx_m1 ?_
      refine sx_iload_n (pc := 163) dX12_line_163 sx_m3 ?_
      obtain ⟨⟨x12, V10⟩, g11, h⟩ := sx_bnd h
      refine sv_cV (pc := 164) (y := qX12_drawIt) (o := (some (.int x12))) (as := [.int x1, .int l2]) (V1 := V10) hG dX12_line_164 l_X12_891 y0X12_drawIt yvX12_drawIt rfl (Nat.le_of_ble_eq_true rfl) lay_146 kr_12 (by decide) (Nat.le_of_ble_eq_true rfl) rfl rfl rfl (t_X12_drawIt hG ⟨rfl, rfl⟩ g11) ?_
      refine sx_istore (pc := 167) (lo' := [(9, .int x12), (8, .int x4), (4, .int x1), (0, .ref 146), (2, .int l2), (3, .int l3), (6, .int l6), (7, .int l7)]) dX12_line_167 (by decide) rfl ?_
      refine sx_iload (pc := 169) dX12_line_169 sx_m2 ?_
      refine sx_aload_n (pc := 171) dX12_line_171 sx_m3 ?_
      refine sv_getI (pc := 172) hG dX12_line_172 f_12_829 lay_146 rfl ?_
      refine sx_iadd (pc := 175) dX12_line_175 ?_
      refine sv_tI (fun x13 hx13 => ?_)
      have h := sx_letE hx13 h
      refine sx_istore (pc := 176) (lo' := [(4, .int x13), (9, .int x12), (8, .int x4), (0, .ref 146), (2, .int l2), (3, .int l3), (6, .int l6), (7, .int l7)]) dX12_line_176 (by decide) rfl ?_
      refine sx_iload (pc := 178) dX12_line_178 sx_m7 ?_
      refine sx_istore (pc := 180) (lo' := [(5, .int l7), (4, .int x13), (9, .int x12), (8, .int x4), (0, .ref 146), (2, .int l2), (3, .int l3), (6, .int l6), (7, .int l7)]) dX12_line_180 (by decide) rfl ?_
      obtain ⟨x14, hx14⟩ : ∃ z : Int32, z = l6 + 1 := ⟨_, rfl⟩
      have h := sx_letE hx14 h
      refine sx_iinc (pc := 182) (v := x14) (lo' := [(6, .int x14), (5, .int l7), (4, .int x13), (9, .int x12), (8, .int x4), (0, .ref 146), (2, .int l2), (3, .int l3), (7, .int l7)]) dX12_line_182 sx_m7 (by rw [hx14]; rfl) (by decide) rfl ?_
      refine sx_goto (pc := 185) (tgt := 74) dX12_line_185 (by decide) ?_
      refine sx_wk (sx_s1 sx_m5 (sx_s1 sx_m6 (sx_s1 sx_m7 (sx_s1 sx_m2 (sx_s1 sx_m1 (sx_s1 sx_m0 sx_s0)))))) ?_
      exact hk74 _ _ _ _ _ _ h
    · have h := sx_pos c9 h
      refine sx_ldcw (pc := 156) dX12_line_156 k_X12_909 ?_
      exact sv_iret (pc := 159) dX12_line_159 rfl h hP
  · have h := sx_neg c5 h
    refine sx_ldcw (pc := 134) dX12_line_134 k_X12_908 ?_
    refine sx_iload (pc := 137) dX12_line_137 sx_m0 ?_
    refine sx_iadd (pc := 139) dX12_line_139 ?_
    exact sv_iret (pc := 140) dX12_line_140 rfl h hP
def B_X12_line_74 (N : Nat) (k74 : Int32 → Int32 → Int32 → Int32 → Int32 → sv_V → Option (Int32 × sv_V)) (l2 : Int32) (l3 : Int32) (l4 : Int32) (l5 : Int32) (l6 : Int32) (V : sv_V) : Option (Int32 × sv_V) := if l3 ≤ l6 then (some (l4, V)) else (if sx_in l6 100 = true then (F_X12_glyphAt N (V.1 205 l6.toNatClampNeg) V).bind (fun (x19, V17) => if l5 = (-1 : Int32) then (B_X12_line_118 N k74 l2 l3 l6 x19 l4 (0 : Int32) V17) else ((F_X12_kernOf N l5 x19 V17).bind (fun (x23, V21) => (F_X12_scaled x23.toInt64 V21).bind (fun (x26, V24) => B_X12_line_118 N k74 l2 l3 l6 x19 l4 x26 V24)))) else none)
set_option maxRecDepth 20000 in
theorem tB_X12_line_74 {g : sx_G} (hG : sx_Go g) {P : Option Value → sv_V → Prop} {r : Int32} {Vr : sv_V} (hP : P (some (.int r)) Vr) {N : Nat} {k74 : Int32 → Int32 → Int32 → Int32 → Int32 → sv_V → Option (Int32 × sv_V)} (hk74 : ∀ (l2 : Int32) (l3 : Int32) (l4 : Int32) (l5 : Int32) (l6 : Int32) (V : sv_V), k74 l2 l3 l4 l5 l6 V = some (r, Vr) → sv_N g qX12_line 48 74 [(0, .ref 146), (2, .int l2), (3, .int l3), (4, .int l4), (5, .int l5), (6, .int l6)] [] V P) {l2 : Int32} {l3 : Int32} {l4 : Int32} {l5 : Int32} {l6 : Int32} {V : sv_V} (h : B_X12_line_74 N k74 l2 l3 l4 l5 l6 V = some (r, Vr)) : sv_N g qX12_line 48 74 [(0, .ref 146), (2, .int l2), (3, .int l3), (4, .int l4), (5, .int l5), (6, .int l6)] [] V P := by
  unfold B_X12_line_74 at h
  refine sx_iload (pc := 74) dX12_line_74 sx_m5 ?_
  refine sx_iload_n (pc := 76) dX12_line_76 sx_m2 ?_
  refine sx_icmp_ge (pc := 77) (tgt := 188) dX12_line_77 (by decide) (fun c15 => ?_) (fun c15 => ?_)
  · have h := sx_pos c15 h
    refine sx_iload (pc := 188) dX12_line_188 sx_m3 ?_
    exact sv_iret (pc := 190) dX12_line_190 rfl h hP
  · have h := sx_neg c15 h
    refine sx_aload_n (pc := 80) dX12_line_80 sx_m0 ?_
    refine sx_aload_n (pc := 81) dX12_line_81 sx_m0 ?_
    refine sv_getA (pc := 82) hG dX12_line_82 f_12_191 lay_146 rfl cr_146_145 ?_
    refine sx_iload (pc := 85) dX12_line_85 sx_m5 ?_
    obtain ⟨g16, h⟩ := sx_grd h
    refine sv_iald (pc := 87) hG dX12_line_87 lay_205 g16 ?_
    obtain ⟨⟨x19, V17⟩, g18, h⟩ := sx_bnd h
    refine sv_cV (pc := 88) (y := qX12_glyphAt) (o := (some (.int x19))) (as := [.int (V.1 205 l6.toNatClampNeg)]) (V1 := V17) hG dX12_line_88 l_X12_902 y0X12_glyphAt yvX12_glyphAt rfl (Nat.le_of_ble_eq_true rfl) lay_146 kr_12 (by decide) (Nat.le_of_ble_eq_true rfl) rfl rfl rfl (t_X12_glyphAt hG ⟨rfl, rfl⟩ g18) ?_
    refine sx_istore (pc := 91) (lo' := [(7, .int x19), (0, .ref 146), (2, .int l2), (3, .int l3), (4, .int l4), (5, .int l5), (6, .int l6)]) dX12_line_91 (by decide) rfl ?_
    refine sx_iload (pc := 93) dX12_line_93 sx_m4 ?_
    refine sx_iload (pc := 95) dX12_line_95 sx_m5 ?_
    refine sx_iconst (pc := 97) (v := (-1)) dX12_line_97 (by decide) ?_
    refine sx_icmp_ne (pc := 98) (tgt := 105) dX12_line_98 (by decide) (fun c20 => ?_) (fun c20 => ?_)
    · have h := sx_neg c20 h
      refine sx_aload_n (pc := 105) dX12_line_105 sx_m1 ?_
      refine sx_aload_n (pc := 106) dX12_line_106 sx_m1 ?_
      refine sx_iload (pc := 107) dX12_line_107 sx_m5 ?_
      refine sx_iload (pc := 109) dX12_line_109 sx_m0 ?_
      obtain ⟨⟨x23, V21⟩, g22, h⟩ := sx_bnd h
      refine sv_cV (pc := 111) (y := qX12_kernOf) (o := (some (.int x23))) (as := [.int l5, .int x19]) (V1 := V21) hG dX12_line_111 l_X12_905 y0X12_kernOf yvX12_kernOf rfl (Nat.le_of_ble_eq_true rfl) lay_146 kr_12 (by decide) (Nat.le_of_ble_eq_true rfl) rfl rfl rfl (t_X12_kernOf hG ⟨rfl, rfl⟩ g22) ?_
      refine sx_i2l (pc := 114) dX12_line_114 ?_
      obtain ⟨⟨x26, V24⟩, g25, h⟩ := sx_bnd h
      refine sv_cV (pc := 115) (y := qX12_scaled) (o := (some (.int x26))) (as := [.long x23.toInt64]) (V1 := V24) hG dX12_line_115 l_X12_611 y0X12_scaled yvX12_scaled rfl (Nat.le_of_ble_eq_true rfl) lay_146 kr_12 (by decide) (Nat.le_of_ble_eq_true rfl) rfl rfl rfl (t_X12_scaled hG ⟨rfl, rfl⟩ g25) ?_
      refine sx_wk (sx_s1 sx_m1 (sx_s1 sx_m2 (sx_s1 sx_m3 (sx_s1 sx_m6 (sx_s1 sx_m0 sx_s0))))) ?_
      exact tB_X12_line_118 hG hP hk74 h
    · have h := sx_pos c20 h
      refine sx_iconst (pc := 101) (v := 0) dX12_line_101 (by decide) ?_
      refine sx_goto (pc := 102) (tgt := 118) dX12_line_102 (by decide) ?_
      refine sx_wk (sx_s1 sx_m1 (sx_s1 sx_m2 (sx_s1 sx_m3 (sx_s1 sx_m6 (sx_s1 sx_m0 sx_s0))))) ?_
      exact tB_X12_line_118 hG hP hk74 h
theorem tL_X12_line_74 {g : sx_G} (hG : sx_Go g) {P : Option Value → sv_V → Prop} {r : Int32} {Vr : sv_V} (hP : P (some (.int r)) Vr) {N : Nat}   : ∀ (n : Nat) (l2 : Int32) (l3 : Int32) (l4 : Int32) (l5 : Int32) (l6 : Int32) (V : sv_V), sx_lp6 (B_X12_line_74 N ) n l2 l3 l4 l5 l6 V = some (r, Vr) → sv_N g qX12_line 48 74 [(0, .ref 146), (2, .int l2), (3, .int l3), (4, .int l4), (5, .int l5), (6, .int l6)] [] V P :=
  sx_lp6_ind (fun k0 ih _ _ _ _ _ V h => tB_X12_line_74 hG hP ih h)
def F_X12_line (N : Nat) (l1 : Int32) (l2 : Int32) (V : sv_V) : Option (Int32 × sv_V) := if (V.1 146 4) = 0 then (some ((-3 : Int32), V)) else (if (V.1 146 107) = 0 then (some ((-3 : Int32), V)) else (if (V.1 146 141) = 0 then (some ((-3 : Int32), V)) else ((F_X12_in l1.toInt64 (-20000 : Int64) (20000 : Int64) V).bind (fun (x32, V30) => if x32 = 0 then (some ((-2 : Int32), V30)) else ((F_X12_in l2.toInt64 (-20000 : Int64) (20000 : Int64) V30).bind (fun (x36, V34) => if x36 = 0 then (some ((-2 : Int32), V34)) else (sx_let (V34.1 146 144) (fun x38 => sx_let (sv_I V34 146 144 (0 : Int32)) (fun V39 => sx_lp6 (B_X12_line_74 N ) N l2 x38 l1 (-1 : Int32) (0 : Int32) V39)))))))))
set_option maxRecDepth 20000 in
theorem t_X12_line {g : sx_G} (hG : sx_Go g) {P : Option Value → sv_V → Prop} {r : Int32} {Vr : sv_V} (hP : P (some (.int r)) Vr) {N : Nat} {l1 : Int32} {l2 : Int32} {V : sv_V} (h : F_X12_line N l1 l2 V = some (r, Vr)) : sv_N g qX12_line 48 0 [(0, .ref 146), (1, .int l1), (2, .int l2)] [] V P := by
  unfold F_X12_line at h
  refine sx_aload_n (pc := 0) dX12_line_0 sx_m0 ?_
  refine sv_getZ (pc := 1) hG dX12_line_1 f_12_759 lay_146 rfl ?_
  refine sx_if_eq (pc := 4) (tgt := 21) dX12_line_4 (by decide) (fun c27 => ?_) (fun c27 => ?_)
  · have h := sx_pos c27 h
    refine sx_bipush (pc := 21) (v := (-3)) dX12_line_21 (by decide) ?_
    exact sv_iret (pc := 23) dX12_line_23 rfl h hP
  · have h := sx_neg c27 h
    refine sx_aload_n (pc := 7) dX12_line_7 sx_m0 ?_
    refine sv_getZ (pc := 8) hG dX12_line_8 f_12_767 lay_146 rfl ?_
    refine sx_if_eq (pc := 11) (tgt := 21) dX12_line_11 (by decide) (fun c28 => ?_) (fun c28 => ?_)
    · have h := sx_pos c28 h
      refine sx_bipush (pc := 21) (v := (-3)) dX12_line_21 (by decide) ?_
      exact sv_iret (pc := 23) dX12_line_23 rfl h hP
    · have h := sx_neg c28 h
      refine sx_aload_n (pc := 14) dX12_line_14 sx_m0 ?_
      refine sv_getI (pc := 15) hG dX12_line_15 f_12_881 lay_146 rfl ?_
      refine sx_if_ne (pc := 18) (tgt := 24) dX12_line_18 (by decide) (fun c29 => ?_) (fun c29 => ?_)
      · have h := sx_neg c29 h
        refine sx_iload_n (pc := 24) dX12_line_24 sx_m1 ?_
        refine sx_i2l (pc := 25) dX12_line_25 ?_
        refine sx_ldc2 (pc := 26) dX12_line_26 k_X12_887 ?_
        refine sx_ldc2 (pc := 29) dX12_line_29 k_X12_889 ?_
        obtain ⟨⟨x32, V30⟩, g31, h⟩ := sx_bnd h
        refine sv_cS (pc := 32) (y := qX12_in) (o := (some (.int x32))) (as := [.long l1.toInt64, .long (-20000 : Int64), .long (20000 : Int64)]) (V1 := V30) dX12_line_32 l_X12_263 y0X12_in ysX12_in rfl (Nat.le_of_ble_eq_true rfl) (by decide) (Nat.le_of_ble_eq_true rfl) rfl rfl rfl (t_X12_in hG ⟨rfl, rfl⟩ g31) ?_
        refine sx_if_eq (pc := 35) (tgt := 52) dX12_line_35 (by decide) (fun c33 => ?_) (fun c33 => ?_)
        · have h := sx_pos c33 h
          refine sx_bipush (pc := 52) (v := (-2)) dX12_line_52 (by decide) ?_
          exact sv_iret (pc := 54) dX12_line_54 rfl h hP
        · have h := sx_neg c33 h
          refine sx_iload_n (pc := 38) dX12_line_38 sx_m2 ?_
          refine sx_i2l (pc := 39) dX12_line_39 ?_
          refine sx_ldc2 (pc := 40) dX12_line_40 k_X12_887 ?_
          refine sx_ldc2 (pc := 43) dX12_line_43 k_X12_889 ?_
          obtain ⟨⟨x36, V34⟩, g35, h⟩ := sx_bnd h
          refine sv_cS (pc := 46) (y := qX12_in) (o := (some (.int x36))) (as := [.long l2.toInt64, .long (-20000 : Int64), .long (20000 : Int64)]) (V1 := V34) dX12_line_46 l_X12_263 y0X12_in ysX12_in rfl (Nat.le_of_ble_eq_true rfl) (by decide) (Nat.le_of_ble_eq_true rfl) rfl rfl rfl (t_X12_in hG ⟨rfl, rfl⟩ g35) ?_
          refine sx_if_ne (pc := 49) (tgt := 55) dX12_line_49 (by decide) (fun c37 => ?_) (fun c37 => ?_)
          · have h := sx_neg c37 h
            refine sx_aload_n (pc := 55) dX12_line_55 sx_m0 ?_
            refine sv_getI (pc := 56) hG dX12_line_56 f_12_896 lay_146 rfl ?_
            refine sv_tI (fun x38 hx38 => ?_)
            have h := sx_letE hx38 h
            refine sx_istore_n (pc := 59) (lo' := [(3, .int x38), (0, .ref 146), (1, .int l1), (2, .int l2)]) dX12_line_59 (by decide) rfl ?_
            refine sx_aload_n (pc := 60) dX12_line_60 sx_m1 ?_
            refine sx_iconst (pc := 61) (v := 0) dX12_line_61 (by decide) ?_
            obtain ⟨V39, hV39⟩ : ∃ z : sv_V, z = sv_I V34 146 144 (0 : Int32) := ⟨_, rfl⟩
            have h := sx_letE hV39 h
            refine sv_putI (pc := 62) hG dX12_line_62 f_12_896 lay_146 rfl hV39 ?_
            refine sx_iload_n (pc := 65) dX12_line_65 sx_m2 ?_
            refine sx_istore (pc := 66) (lo' := [(4, .int l1), (3, .int x38), (0, .ref 146), (1, .int l1), (2, .int l2)]) dX12_line_66 (by decide) rfl ?_
            refine sx_iconst (pc := 68) (v := (-1)) dX12_line_68 (by decide) ?_
            refine sx_istore (pc := 69) (lo' := [(5, .int (-1 : Int32)), (4, .int l1), (3, .int x38), (0, .ref 146), (1, .int l1), (2, .int l2)]) dX12_line_69 (by decide) rfl ?_
            refine sx_iconst (pc := 71) (v := 0) dX12_line_71 (by decide) ?_
            refine sx_istore (pc := 72) (lo' := [(6, .int (0 : Int32)), (5, .int (-1 : Int32)), (4, .int l1), (3, .int x38), (0, .ref 146), (1, .int l1), (2, .int l2)]) dX12_line_72 (by decide) rfl ?_
            refine sx_wk (sx_s1 sx_m4 (sx_s1 sx_m6 (sx_s1 sx_m3 (sx_s1 sx_m2 (sx_s1 sx_m1 (sx_s1 sx_m0 sx_s0)))))) ?_
            exact tL_X12_line_74 hG hP  N _ _ _ _ _ _ h
          · have h := sx_pos c37 h
            refine sx_bipush (pc := 52) (v := (-2)) dX12_line_52 (by decide) ?_
            exact sv_iret (pc := 54) dX12_line_54 rfl h hP
      · have h := sx_pos c29 h
        refine sx_bipush (pc := 21) (v := (-3)) dX12_line_21 (by decide) ?_
        exact sv_iret (pc := 23) dX12_line_23 rfl h hP
end
