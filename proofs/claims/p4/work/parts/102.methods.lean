/-! methods: X4_kernHolds, X4_programsHold, X5_beginCount, X5_failOutside, X5_isAtEnd, X5_beginStep, X5_pop, X5_push, X5_zone, X5_touchBits, X5_isZone, X5_setZones, X5_setLoop, X5_setShift, X5_jump, X5_passCode, X5_passBranch, X5_passDefinition, X5_isDefining, X5_noteRoutine, X5_enter, X5_endRoutine, X5_doubleTop, X5_rollTop, X5_reachBelow, X5_pushBehind -/
theorem dX4_kernHolds_0 : decode cX4_kernHolds 0 = .ok (.aload_n 0, 1) := by decide +kernel
theorem dX4_kernHolds_1 : decode cX4_kernHolds 1 = .ok (.getfield 9, 3) := by decide +kernel
theorem dX4_kernHolds_4 : decode cX4_kernHolds 4 = .ok (.iconst 0, 1) := by decide +kernel
theorem dX4_kernHolds_5 : decode cX4_kernHolds 5 = .ok (.putfield 204, 3) := by decide +kernel
theorem dX4_kernHolds_8 : decode cX4_kernHolds 8 = .ok (.aload_n 0, 1) := by decide +kernel
theorem dX4_kernHolds_9 : decode cX4_kernHolds 9 = .ok (.getfield 9, 3) := by decide +kernel
theorem dX4_kernHolds_12 : decode cX4_kernHolds 12 = .ok (.bipush 7, 2) := by decide +kernel
theorem dX4_kernHolds_14 : decode cX4_kernHolds 14 = .ok (.invokevirtual 121, 3) := by decide +kernel
theorem dX4_kernHolds_17 : decode cX4_kernHolds 17 = .ok (.ifCond .ne 5, 3) := by decide +kernel
theorem dX4_kernHolds_20 : decode cX4_kernHolds 20 = .ok (.iconst 1, 1) := by decide +kernel
theorem dX4_kernHolds_21 : decode cX4_kernHolds 21 = .ok (.ireturn, 1) := by decide +kernel
theorem dX4_kernHolds_22 : decode cX4_kernHolds 22 = .ok (.aload_n 0, 1) := by decide +kernel
theorem dX4_kernHolds_23 : decode cX4_kernHolds 23 = .ok (.getfield 9, 3) := by decide +kernel
theorem dX4_kernHolds_26 : decode cX4_kernHolds 26 = .ok (.getfield 115, 3) := by decide +kernel
theorem dX4_kernHolds_29 : decode cX4_kernHolds 29 = .ok (.bipush 7, 2) := by decide +kernel
theorem dX4_kernHolds_31 : decode cX4_kernHolds 31 = .ok (.iaload, 1) := by decide +kernel
theorem dX4_kernHolds_32 : decode cX4_kernHolds 32 = .ok (.istore_n 1, 1) := by decide +kernel
theorem dX4_kernHolds_33 : decode cX4_kernHolds 33 = .ok (.aload_n 0, 1) := by decide +kernel
theorem dX4_kernHolds_34 : decode cX4_kernHolds 34 = .ok (.getfield 9, 3) := by decide +kernel
theorem dX4_kernHolds_37 : decode cX4_kernHolds 37 = .ok (.getfield 118, 3) := by decide +kernel
theorem dX4_kernHolds_40 : decode cX4_kernHolds 40 = .ok (.bipush 7, 2) := by decide +kernel
theorem dX4_kernHolds_42 : decode cX4_kernHolds 42 = .ok (.iaload, 1) := by decide +kernel
theorem dX4_kernHolds_43 : decode cX4_kernHolds 43 = .ok (.istore_n 2, 1) := by decide +kernel
theorem dX4_kernHolds_44 : decode cX4_kernHolds 44 = .ok (.aload_n 0, 1) := by decide +kernel
theorem dX4_kernHolds_45 : decode cX4_kernHolds 45 = .ok (.getfield 9, 3) := by decide +kernel
theorem dX4_kernHolds_48 : decode cX4_kernHolds 48 = .ok (.iload_n 1, 1) := by decide +kernel
theorem dX4_kernHolds_49 : decode cX4_kernHolds 49 = .ok (.bipush 10, 2) := by decide +kernel
theorem dX4_kernHolds_51 : decode cX4_kernHolds 51 = .ok (.iadd, 1) := by decide +kernel
theorem dX4_kernHolds_52 : decode cX4_kernHolds 52 = .ok (.invokevirtual 64, 3) := by decide +kernel
theorem dX4_kernHolds_55 : decode cX4_kernHolds 55 = .ok (.istore_n 3, 1) := by decide +kernel
theorem dX4_kernHolds_56 : decode cX4_kernHolds 56 = .ok (.iload_n 2, 1) := by decide +kernel
theorem dX4_kernHolds_57 : decode cX4_kernHolds 57 = .ok (.bipush 18, 2) := by decide +kernel
theorem dX4_kernHolds_59 : decode cX4_kernHolds 59 = .ok (.if_icmp .lt 61, 3) := by decide +kernel
theorem dX4_kernHolds_62 : decode cX4_kernHolds 62 = .ok (.aload_n 0, 1) := by decide +kernel
theorem dX4_kernHolds_63 : decode cX4_kernHolds 63 = .ok (.getfield 9, 3) := by decide +kernel
theorem dX4_kernHolds_66 : decode cX4_kernHolds 66 = .ok (.iload_n 1, 1) := by decide +kernel
theorem dX4_kernHolds_67 : decode cX4_kernHolds 67 = .ok (.invokevirtual 64, 3) := by decide +kernel
theorem dX4_kernHolds_70 : decode cX4_kernHolds 70 = .ok (.ifCond .ne 50, 3) := by decide +kernel
theorem dX4_kernHolds_73 : decode cX4_kernHolds 73 = .ok (.aload_n 0, 1) := by decide +kernel
theorem dX4_kernHolds_74 : decode cX4_kernHolds 74 = .ok (.getfield 9, 3) := by decide +kernel
theorem dX4_kernHolds_77 : decode cX4_kernHolds 77 = .ok (.iload_n 1, 1) := by decide +kernel
theorem dX4_kernHolds_78 : decode cX4_kernHolds 78 = .ok (.iconst 2, 1) := by decide +kernel
theorem dX4_kernHolds_79 : decode cX4_kernHolds 79 = .ok (.iadd, 1) := by decide +kernel
theorem dX4_kernHolds_80 : decode cX4_kernHolds 80 = .ok (.invokevirtual 64, 3) := by decide +kernel
theorem dX4_kernHolds_83 : decode cX4_kernHolds 83 = .ok (.iconst 1, 1) := by decide +kernel
theorem dX4_kernHolds_84 : decode cX4_kernHolds 84 = .ok (.if_icmp .lt 36, 3) := by decide +kernel
theorem dX4_kernHolds_87 : decode cX4_kernHolds 87 = .ok (.aload_n 0, 1) := by decide +kernel
theorem dX4_kernHolds_88 : decode cX4_kernHolds 88 = .ok (.getfield 9, 3) := by decide +kernel
theorem dX4_kernHolds_91 : decode cX4_kernHolds 91 = .ok (.iload_n 1, 1) := by decide +kernel
theorem dX4_kernHolds_92 : decode cX4_kernHolds 92 = .ok (.bipush 8, 2) := by decide +kernel
theorem dX4_kernHolds_94 : decode cX4_kernHolds 94 = .ok (.iadd, 1) := by decide +kernel
theorem dX4_kernHolds_95 : decode cX4_kernHolds 95 = .ok (.invokevirtual 64, 3) := by decide +kernel
theorem dX4_kernHolds_98 : decode cX4_kernHolds 98 = .ok (.iconst 1, 1) := by decide +kernel
theorem dX4_kernHolds_99 : decode cX4_kernHolds 99 = .ok (.if_icmp .ne 21, 3) := by decide +kernel
theorem dX4_kernHolds_102 : decode cX4_kernHolds 102 = .ok (.iload_n 3, 1) := by decide +kernel
theorem dX4_kernHolds_103 : decode cX4_kernHolds 103 = .ok (.sipush 500, 3) := by decide +kernel
theorem dX4_kernHolds_106 : decode cX4_kernHolds 106 = .ok (.if_icmp .gt 14, 3) := by decide +kernel
theorem dX4_kernHolds_109 : decode cX4_kernHolds 109 = .ok (.bipush 18, 2) := by decide +kernel
theorem dX4_kernHolds_111 : decode cX4_kernHolds 111 = .ok (.bipush 6, 2) := by decide +kernel
theorem dX4_kernHolds_113 : decode cX4_kernHolds 113 = .ok (.iload_n 3, 1) := by decide +kernel
theorem dX4_kernHolds_114 : decode cX4_kernHolds 114 = .ok (.imul, 1) := by decide +kernel
theorem dX4_kernHolds_115 : decode cX4_kernHolds 115 = .ok (.iadd, 1) := by decide +kernel
theorem dX4_kernHolds_116 : decode cX4_kernHolds 116 = .ok (.iload_n 2, 1) := by decide +kernel
theorem dX4_kernHolds_117 : decode cX4_kernHolds 117 = .ok (.if_icmp .le 5, 3) := by decide +kernel
theorem dX4_kernHolds_120 : decode cX4_kernHolds 120 = .ok (.iconst 0, 1) := by decide +kernel
theorem dX4_kernHolds_121 : decode cX4_kernHolds 121 = .ok (.ireturn, 1) := by decide +kernel
theorem dX4_kernHolds_122 : decode cX4_kernHolds 122 = .ok (.ldc2_w 169, 3) := by decide +kernel
theorem dX4_kernHolds_125 : decode cX4_kernHolds 125 = .ok (.lstore 4, 2) := by decide +kernel
theorem dX4_kernHolds_127 : decode cX4_kernHolds 127 = .ok (.iconst 0, 1) := by decide +kernel
theorem dX4_kernHolds_128 : decode cX4_kernHolds 128 = .ok (.istore 6, 2) := by decide +kernel
theorem dX4_kernHolds_130 : decode cX4_kernHolds 130 = .ok (.iload 6, 2) := by decide +kernel
theorem dX4_kernHolds_132 : decode cX4_kernHolds 132 = .ok (.iload_n 3, 1) := by decide +kernel
theorem dX4_kernHolds_133 : decode cX4_kernHolds 133 = .ok (.if_icmp .ge 42, 3) := by decide +kernel
theorem dX4_kernHolds_136 : decode cX4_kernHolds 136 = .ok (.aload_n 0, 1) := by decide +kernel
theorem dX4_kernHolds_137 : decode cX4_kernHolds 137 = .ok (.getfield 9, 3) := by decide +kernel
theorem dX4_kernHolds_140 : decode cX4_kernHolds 140 = .ok (.iload_n 1, 1) := by decide +kernel
theorem dX4_kernHolds_141 : decode cX4_kernHolds 141 = .ok (.bipush 18, 2) := by decide +kernel
theorem dX4_kernHolds_143 : decode cX4_kernHolds 143 = .ok (.iadd, 1) := by decide +kernel
theorem dX4_kernHolds_144 : decode cX4_kernHolds 144 = .ok (.bipush 6, 2) := by decide +kernel
theorem dX4_kernHolds_146 : decode cX4_kernHolds 146 = .ok (.iload 6, 2) := by decide +kernel
theorem dX4_kernHolds_148 : decode cX4_kernHolds 148 = .ok (.imul, 1) := by decide +kernel
theorem dX4_kernHolds_149 : decode cX4_kernHolds 149 = .ok (.iadd, 1) := by decide +kernel
theorem dX4_kernHolds_150 : decode cX4_kernHolds 150 = .ok (.invokevirtual 74, 3) := by decide +kernel
theorem dX4_kernHolds_153 : decode cX4_kernHolds 153 = .ok (.lstore 7, 2) := by decide +kernel
theorem dX4_kernHolds_155 : decode cX4_kernHolds 155 = .ok (.lload 7, 2) := by decide +kernel
theorem dX4_kernHolds_157 : decode cX4_kernHolds 157 = .ok (.lload 4, 2) := by decide +kernel
theorem dX4_kernHolds_159 : decode cX4_kernHolds 159 = .ok (.lcmp, 1) := by decide +kernel
theorem dX4_kernHolds_160 : decode cX4_kernHolds 160 = .ok (.ifCond .gt 5, 3) := by decide +kernel
theorem dX4_kernHolds_163 : decode cX4_kernHolds 163 = .ok (.iconst 0, 1) := by decide +kernel
theorem dX4_kernHolds_164 : decode cX4_kernHolds 164 = .ok (.ireturn, 1) := by decide +kernel
theorem dX4_kernHolds_165 : decode cX4_kernHolds 165 = .ok (.lload 7, 2) := by decide +kernel
theorem dX4_kernHolds_167 : decode cX4_kernHolds 167 = .ok (.lstore 4, 2) := by decide +kernel
theorem dX4_kernHolds_169 : decode cX4_kernHolds 169 = .ok (.iinc 6 1, 3) := by decide +kernel
theorem dX4_kernHolds_172 : decode cX4_kernHolds 172 = .ok (.goto (-42), 3) := by decide +kernel
theorem dX4_kernHolds_175 : decode cX4_kernHolds 175 = .ok (.aload_n 0, 1) := by decide +kernel
theorem dX4_kernHolds_176 : decode cX4_kernHolds 176 = .ok (.getfield 9, 3) := by decide +kernel
theorem dX4_kernHolds_179 : decode cX4_kernHolds 179 = .ok (.iload_n 3, 1) := by decide +kernel
theorem dX4_kernHolds_180 : decode cX4_kernHolds 180 = .ok (.putfield 204, 3) := by decide +kernel
theorem dX4_kernHolds_183 : decode cX4_kernHolds 183 = .ok (.iconst 1, 1) := by decide +kernel
theorem dX4_kernHolds_184 : decode cX4_kernHolds 184 = .ok (.ireturn, 1) := by decide +kernel
def B_X4_kernHolds_130 (N : Nat) (k130 : Int32 → Int32 → Int64 → Int32 → sv_V → Option (Int32 × sv_V)) (l1 : Int32) (l3 : Int32) (l4 : Int64) (l6 : Int32) (V : sv_V) : Option (Int32 × sv_V) := if l3 ≤ l6 then (sx_let (sv_I V 2 15 l3) (fun V2 => some ((1 : Int32), V2))) else ((F_X2_u4 ((l1 + (18 : Int32)) + ((6 : Int32) * l6)) V).bind (fun (x5, V3) => if 0 < (lg_cmp x5 l4) then (sx_let (l6 + 1) (fun x7 => k130 l1 l3 x5 x7 V3)) else (some ((0 : Int32), V3))))
set_option maxRecDepth 20000 in
theorem tB_X4_kernHolds_130 {g : sx_G} (hG : sx_Go g) {P : Option Value → sv_V → Prop} {r : Int32} {Vr : sv_V} (hP : P (some (.int r)) Vr) {N : Nat} {k130 : Int32 → Int32 → Int64 → Int32 → sv_V → Option (Int32 × sv_V)} (hk130 : ∀ (l1 : Int32) (l3 : Int32) (l4 : Int64) (l6 : Int32) (V : sv_V), k130 l1 l3 l4 l6 V = some (r, Vr) → sv_N g qX4_kernHolds 2 130 [(0, .ref 29), (1, .int l1), (3, .int l3), (4, .long l4), (6, .int l6)] [] V P) {l1 : Int32} {l3 : Int32} {l4 : Int64} {l6 : Int32} {V : sv_V} (h : B_X4_kernHolds_130 N k130 l1 l3 l4 l6 V = some (r, Vr)) : sv_N g qX4_kernHolds 2 130 [(0, .ref 29), (1, .int l1), (3, .int l3), (4, .long l4), (6, .int l6)] [] V P := by
  unfold B_X4_kernHolds_130 at h
  refine sx_iload (pc := 130) dX4_kernHolds_130 sx_m4 ?_
  refine sx_iload_n (pc := 132) dX4_kernHolds_132 sx_m2 ?_
  refine sx_icmp_ge (pc := 133) (tgt := 175) dX4_kernHolds_133 (by decide) (fun c1 => ?_) (fun c1 => ?_)
  · have h := sx_pos c1 h
    refine sx_aload_n (pc := 175) dX4_kernHolds_175 sx_m0 ?_
    refine sv_getO (pc := 176) hG dX4_kernHolds_176 f_4_9 lay_29 rfl cr_29_0 ?_
    refine sx_iload_n (pc := 179) dX4_kernHolds_179 sx_m2 ?_
    obtain ⟨V2, hV2⟩ : ∃ z : sv_V, z = sv_I V 2 15 l3 := ⟨_, rfl⟩
    have h := sx_letE hV2 h
    refine sv_putI (pc := 180) hG dX4_kernHolds_180 f_4_204 lay_2 rfl hV2 ?_
    refine sx_iconst (pc := 183) (v := 1) dX4_kernHolds_183 (by decide) ?_
    exact sv_zret (pc := 184) dX4_kernHolds_184 rfl rfl h hP
  · have h := sx_neg c1 h
    refine sx_aload_n (pc := 136) dX4_kernHolds_136 sx_m0 ?_
    refine sv_getO (pc := 137) hG dX4_kernHolds_137 f_4_9 lay_29 rfl cr_29_0 ?_
    refine sx_iload_n (pc := 140) dX4_kernHolds_140 sx_m1 ?_
    refine sx_bipush (pc := 141) (v := 18) dX4_kernHolds_141 (by decide) ?_
    refine sx_iadd (pc := 143) dX4_kernHolds_143 ?_
    refine sx_bipush (pc := 144) (v := 6) dX4_kernHolds_144 (by decide) ?_
    refine sx_iload (pc := 146) dX4_kernHolds_146 sx_m4 ?_
    refine sx_imul (pc := 148) dX4_kernHolds_148 ?_
    refine sx_iadd (pc := 149) dX4_kernHolds_149 ?_
    obtain ⟨⟨x5, V3⟩, g4, h⟩ := sx_bnd h
    refine sv_cV (pc := 150) (y := qX2_u4) (o := (some (.long x5))) (as := [.int ((l1 + (18 : Int32)) + ((6 : Int32) * l6))]) (V1 := V3) hG dX4_kernHolds_150 l_X4_74 y0X2_u4 yvX2_u4 rfl (Nat.le_of_ble_eq_true rfl) lay_2 kr_2 (by decide) (Nat.le_of_ble_eq_true rfl) rfl rfl rfl (t_X2_u4 hG ⟨rfl, rfl⟩ g4) ?_
    refine sx_lstore (pc := 153) (lo' := [(7, .long x5), (0, .ref 29), (1, .int l1), (3, .int l3), (4, .long l4), (6, .int l6)]) dX4_kernHolds_153 (by decide) rfl ?_
    refine sx_lload (pc := 155) dX4_kernHolds_155 sx_m0 ?_
    refine sx_lload (pc := 157) dX4_kernHolds_157 sx_m4 ?_
    refine sx_lcmp (pc := 159) dX4_kernHolds_159 ?_
    refine sx_if_gt (pc := 160) (tgt := 165) dX4_kernHolds_160 (by decide) (fun c6 => ?_) (fun c6 => ?_)
    · have h := sx_pos c6 h
      refine sx_lload (pc := 165) dX4_kernHolds_165 sx_m0 ?_
      refine sx_lstore (pc := 167) (lo' := [(4, .long x5), (7, .long x5), (0, .ref 29), (1, .int l1), (3, .int l3), (6, .int l6)]) dX4_kernHolds_167 (by decide) rfl ?_
      obtain ⟨x7, hx7⟩ : ∃ z : Int32, z = l6 + 1 := ⟨_, rfl⟩
      have h := sx_letE hx7 h
      refine sx_iinc (pc := 169) (v := x7) (lo' := [(6, .int x7), (4, .long x5), (7, .long x5), (0, .ref 29), (1, .int l1), (3, .int l3)]) dX4_kernHolds_169 sx_m5 (by rw [hx7]; rfl) (by decide) rfl ?_
      refine sx_goto (pc := 172) (tgt := 130) dX4_kernHolds_172 (by decide) ?_
      refine sx_wk (sx_s1 sx_m3 (sx_s1 sx_m4 (sx_s1 sx_m5 (sx_s1 sx_m1 (sx_s1 sx_m0 sx_s0))))) ?_
      exact hk130 _ _ _ _ _ h
    · have h := sx_neg c6 h
      refine sx_iconst (pc := 163) (v := 0) dX4_kernHolds_163 (by decide) ?_
      exact sv_zret (pc := 164) dX4_kernHolds_164 rfl rfl h hP
theorem tL_X4_kernHolds_130 {g : sx_G} (hG : sx_Go g) {P : Option Value → sv_V → Prop} {r : Int32} {Vr : sv_V} (hP : P (some (.int r)) Vr) {N : Nat}   : ∀ (n : Nat) (l1 : Int32) (l3 : Int32) (l4 : Int64) (l6 : Int32) (V : sv_V), sx_lp5 (B_X4_kernHolds_130 N ) n l1 l3 l4 l6 V = some (r, Vr) → sv_N g qX4_kernHolds 2 130 [(0, .ref 29), (1, .int l1), (3, .int l3), (4, .long l4), (6, .int l6)] [] V P :=
  sx_lp5_ind (fun k0 ih _ _ _ _ V h => tB_X4_kernHolds_130 hG hP ih h)
def F_X4_kernHolds (N : Nat)  (V : sv_V) : Option (Int32 × sv_V) := sx_let (sv_I V 2 15 (0 : Int32)) (fun V8 => (F_X2_hasTable (7 : Int32) V8).bind (fun (x11, V9) => if x11 = 0 then (some ((1 : Int32), V9)) else (sx_let (V9.1 4 (7 : Int32).toNatClampNeg) (fun x13 => sx_let (V9.1 5 (7 : Int32).toNatClampNeg) (fun x14 => (F_X2_u2 (x13 + (10 : Int32)) V9).bind (fun (x17, V15) => if x14 < (18 : Int32) then (some ((0 : Int32), V15)) else ((F_X2_u2 x13 V15).bind (fun (x21, V19) => if x21 = 0 then ((F_X2_u2 (x13 + (2 : Int32)) V19).bind (fun (x25, V23) => if x25 < (1 : Int32) then (some ((0 : Int32), V23)) else ((F_X2_u2 (x13 + (8 : Int32)) V23).bind (fun (x29, V27) => if x29 = (1 : Int32) then (if (500 : Int32) < x17 then (some ((0 : Int32), V27)) else (if ((18 : Int32) + ((6 : Int32) * x17)) ≤ x14 then (sx_lp5 (B_X4_kernHolds_130 N ) N x13 x17 (-1 : Int64) (0 : Int32) V27) else (some ((0 : Int32), V27)))) else (some ((0 : Int32), V27)))))) else (some ((0 : Int32), V19))))))))))
set_option maxRecDepth 20000 in
theorem t_X4_kernHolds {g : sx_G} (hG : sx_Go g) {P : Option Value → sv_V → Prop} {r : Int32} {Vr : sv_V} (hP : P (some (.int r)) Vr) {N : Nat}  {V : sv_V} (h : F_X4_kernHolds N  V = some (r, Vr)) : sv_N g qX4_kernHolds 2 0 [(0, .ref 29)] [] V P := by
  unfold F_X4_kernHolds at h
  refine sx_aload_n (pc := 0) dX4_kernHolds_0 sx_m0 ?_
  refine sv_getO (pc := 1) hG dX4_kernHolds_1 f_4_9 lay_29 rfl cr_29_0 ?_
  refine sx_iconst (pc := 4) (v := 0) dX4_kernHolds_4 (by decide) ?_
  obtain ⟨V8, hV8⟩ : ∃ z : sv_V, z = sv_I V 2 15 (0 : Int32) := ⟨_, rfl⟩
  have h := sx_letE hV8 h
  refine sv_putI (pc := 5) hG dX4_kernHolds_5 f_4_204 lay_2 rfl hV8 ?_
  refine sx_aload_n (pc := 8) dX4_kernHolds_8 sx_m0 ?_
  refine sv_getO (pc := 9) hG dX4_kernHolds_9 f_4_9 lay_29 rfl cr_29_0 ?_
  refine sx_bipush (pc := 12) (v := 7) dX4_kernHolds_12 (by decide) ?_
  obtain ⟨⟨x11, V9⟩, g10, h⟩ := sx_bnd h
  refine sv_cV (pc := 14) (y := qX2_hasTable) (o := (some (.int x11))) (as := [.int (7 : Int32)]) (V1 := V9) hG dX4_kernHolds_14 l_X4_121 y0X2_hasTable yvX2_hasTable rfl (Nat.le_of_ble_eq_true rfl) lay_2 kr_2 (by decide) (Nat.le_of_ble_eq_true rfl) rfl rfl rfl (t_X2_hasTable hG ⟨rfl, rfl⟩ g10) ?_
  refine sx_if_ne (pc := 17) (tgt := 22) dX4_kernHolds_17 (by decide) (fun c12 => ?_) (fun c12 => ?_)
  · have h := sx_neg c12 h
    refine sx_aload_n (pc := 22) dX4_kernHolds_22 sx_m0 ?_
    refine sv_getO (pc := 23) hG dX4_kernHolds_23 f_4_9 lay_29 rfl cr_29_0 ?_
    refine sv_getA (pc := 26) hG dX4_kernHolds_26 f_4_115 lay_2 rfl cr_2_3 ?_
    refine sx_bipush (pc := 29) (v := 7) dX4_kernHolds_29 (by decide) ?_
    refine sv_iald (pc := 31) hG dX4_kernHolds_31 lay_4 (by decide) ?_
    refine sv_tI (fun x13 hx13 => ?_)
    have h := sx_letE hx13 h
    refine sx_istore_n (pc := 32) (lo' := [(1, .int x13), (0, .ref 29)]) dX4_kernHolds_32 (by decide) rfl ?_
    refine sx_aload_n (pc := 33) dX4_kernHolds_33 sx_m1 ?_
    refine sv_getO (pc := 34) hG dX4_kernHolds_34 f_4_9 lay_29 rfl cr_29_0 ?_
    refine sv_getA (pc := 37) hG dX4_kernHolds_37 f_4_118 lay_2 rfl cr_2_4 ?_
    refine sx_bipush (pc := 40) (v := 7) dX4_kernHolds_40 (by decide) ?_
    refine sv_iald (pc := 42) hG dX4_kernHolds_42 lay_5 (by decide) ?_
    refine sv_tI (fun x14 hx14 => ?_)
    have h := sx_letE hx14 h
    refine sx_istore_n (pc := 43) (lo' := [(2, .int x14), (1, .int x13), (0, .ref 29)]) dX4_kernHolds_43 (by decide) rfl ?_
    refine sx_aload_n (pc := 44) dX4_kernHolds_44 sx_m2 ?_
    refine sv_getO (pc := 45) hG dX4_kernHolds_45 f_4_9 lay_29 rfl cr_29_0 ?_
    refine sx_iload_n (pc := 48) dX4_kernHolds_48 sx_m1 ?_
    refine sx_bipush (pc := 49) (v := 10) dX4_kernHolds_49 (by decide) ?_
    refine sx_iadd (pc := 51) dX4_kernHolds_51 ?_
    obtain ⟨⟨x17, V15⟩, g16, h⟩ := sx_bnd h
    refine sv_cV (pc := 52) (y := qX2_u2) (o := (some (.int x17))) (as := [.int (x13 + (10 : Int32))]) (V1 := V15) hG dX4_kernHolds_52 l_X4_64 y0X2_u2 yvX2_u2 rfl (Nat.le_of_ble_eq_true rfl) lay_2 kr_2 (by decide) (Nat.le_of_ble_eq_true rfl) rfl rfl rfl (t_X2_u2 hG ⟨rfl, rfl⟩ g16) ?_
    refine sx_istore_n (pc := 55) (lo' := [(3, .int x17), (2, .int x14), (1, .int x13), (0, .ref 29)]) dX4_kernHolds_55 (by decide) rfl ?_
    refine sx_iload_n (pc := 56) dX4_kernHolds_56 sx_m1 ?_
    refine sx_bipush (pc := 57) (v := 18) dX4_kernHolds_57 (by decide) ?_
    refine sx_icmp_lt (pc := 59) (tgt := 120) dX4_kernHolds_59 (by decide) (fun c18 => ?_) (fun c18 => ?_)
    · have h := sx_pos c18 h
      refine sx_iconst (pc := 120) (v := 0) dX4_kernHolds_120 (by decide) ?_
      exact sv_zret (pc := 121) dX4_kernHolds_121 rfl rfl h hP
    · have h := sx_neg c18 h
      refine sx_aload_n (pc := 62) dX4_kernHolds_62 sx_m3 ?_
      refine sv_getO (pc := 63) hG dX4_kernHolds_63 f_4_9 lay_29 rfl cr_29_0 ?_
      refine sx_iload_n (pc := 66) dX4_kernHolds_66 sx_m2 ?_
      obtain ⟨⟨x21, V19⟩, g20, h⟩ := sx_bnd h
      refine sv_cV (pc := 67) (y := qX2_u2) (o := (some (.int x21))) (as := [.int x13]) (V1 := V19) hG dX4_kernHolds_67 l_X4_64 y0X2_u2 yvX2_u2 rfl (Nat.le_of_ble_eq_true rfl) lay_2 kr_2 (by decide) (Nat.le_of_ble_eq_true rfl) rfl rfl rfl (t_X2_u2 hG ⟨rfl, rfl⟩ g20) ?_
      refine sx_if_ne (pc := 70) (tgt := 120) dX4_kernHolds_70 (by decide) (fun c22 => ?_) (fun c22 => ?_)
      · have h := sx_neg c22 h
        refine sx_iconst (pc := 120) (v := 0) dX4_kernHolds_120 (by decide) ?_
        exact sv_zret (pc := 121) dX4_kernHolds_121 rfl rfl h hP
      · have h := sx_pos c22 h
        refine sx_aload_n (pc := 73) dX4_kernHolds_73 sx_m3 ?_
        refine sv_getO (pc := 74) hG dX4_kernHolds_74 f_4_9 lay_29 rfl cr_29_0 ?_
        refine sx_iload_n (pc := 77) dX4_kernHolds_77 sx_m2 ?_
        refine sx_iconst (pc := 78) (v := 2) dX4_kernHolds_78 (by decide) ?_
        refine sx_iadd (pc := 79) dX4_kernHolds_79 ?_
        obtain ⟨⟨x25, V23⟩, g24, h⟩ := sx_bnd h
        refine sv_cV (pc := 80) (y := qX2_u2) (o := (some (.int x25))) (as := [.int (x13 + (2 : Int32))]) (V1 := V23) hG dX4_kernHolds_80 l_X4_64 y0X2_u2 yvX2_u2 rfl (Nat.le_of_ble_eq_true rfl) lay_2 kr_2 (by decide) (Nat.le_of_ble_eq_true rfl) rfl rfl rfl (t_X2_u2 hG ⟨rfl, rfl⟩ g24) ?_
        refine sx_iconst (pc := 83) (v := 1) dX4_kernHolds_83 (by decide) ?_
        refine sx_icmp_lt (pc := 84) (tgt := 120) dX4_kernHolds_84 (by decide) (fun c26 => ?_) (fun c26 => ?_)
        · have h := sx_pos c26 h
          refine sx_iconst (pc := 120) (v := 0) dX4_kernHolds_120 (by decide) ?_
          exact sv_zret (pc := 121) dX4_kernHolds_121 rfl rfl h hP
        · have h := sx_neg c26 h
          refine sx_aload_n (pc := 87) dX4_kernHolds_87 sx_m3 ?_
          refine sv_getO (pc := 88) hG dX4_kernHolds_88 f_4_9 lay_29 rfl cr_29_0 ?_
          refine sx_iload_n (pc := 91) dX4_kernHolds_91 sx_m2 ?_
          refine sx_bipush (pc := 92) (v := 8) dX4_kernHolds_92 (by decide) ?_
          refine sx_iadd (pc := 94) dX4_kernHolds_94 ?_
          obtain ⟨⟨x29, V27⟩, g28, h⟩ := sx_bnd h
          refine sv_cV (pc := 95) (y := qX2_u2) (o := (some (.int x29))) (as := [.int (x13 + (8 : Int32))]) (V1 := V27) hG dX4_kernHolds_95 l_X4_64 y0X2_u2 yvX2_u2 rfl (Nat.le_of_ble_eq_true rfl) lay_2 kr_2 (by decide) (Nat.le_of_ble_eq_true rfl) rfl rfl rfl (t_X2_u2 hG ⟨rfl, rfl⟩ g28) ?_
          refine sx_iconst (pc := 98) (v := 1) dX4_kernHolds_98 (by decide) ?_
          refine sx_icmp_ne (pc := 99) (tgt := 120) dX4_kernHolds_99 (by decide) (fun c30 => ?_) (fun c30 => ?_)
          · have h := sx_neg c30 h
            refine sx_iconst (pc := 120) (v := 0) dX4_kernHolds_120 (by decide) ?_
            exact sv_zret (pc := 121) dX4_kernHolds_121 rfl rfl h hP
          · have h := sx_pos c30 h
            refine sx_iload_n (pc := 102) dX4_kernHolds_102 sx_m0 ?_
            refine sx_sipush (pc := 103) (v := 500) dX4_kernHolds_103 (by decide) ?_
            refine sx_icmp_gt (pc := 106) (tgt := 120) dX4_kernHolds_106 (by decide) (fun c31 => ?_) (fun c31 => ?_)
            · have h := sx_pos c31 h
              refine sx_iconst (pc := 120) (v := 0) dX4_kernHolds_120 (by decide) ?_
              exact sv_zret (pc := 121) dX4_kernHolds_121 rfl rfl h hP
            · have h := sx_neg c31 h
              refine sx_bipush (pc := 109) (v := 18) dX4_kernHolds_109 (by decide) ?_
              refine sx_bipush (pc := 111) (v := 6) dX4_kernHolds_111 (by decide) ?_
              refine sx_iload_n (pc := 113) dX4_kernHolds_113 sx_m0 ?_
              refine sx_imul (pc := 114) dX4_kernHolds_114 ?_
              refine sx_iadd (pc := 115) dX4_kernHolds_115 ?_
              refine sx_iload_n (pc := 116) dX4_kernHolds_116 sx_m1 ?_
              refine sx_icmp_le (pc := 117) (tgt := 122) dX4_kernHolds_117 (by decide) (fun c32 => ?_) (fun c32 => ?_)
              · have h := sx_pos c32 h
                refine sx_ldc2 (pc := 122) dX4_kernHolds_122 k_X4_169 ?_
                refine sx_lstore (pc := 125) (lo' := [(4, .long (-1 : Int64)), (3, .int x17), (2, .int x14), (1, .int x13), (0, .ref 29)]) dX4_kernHolds_125 (by decide) rfl ?_
                refine sx_iconst (pc := 127) (v := 0) dX4_kernHolds_127 (by decide) ?_
                refine sx_istore (pc := 128) (lo' := [(6, .int (0 : Int32)), (4, .long (-1 : Int64)), (3, .int x17), (2, .int x14), (1, .int x13), (0, .ref 29)]) dX4_kernHolds_128 (by decide) rfl ?_
                refine sx_wk (sx_s1 sx_m5 (sx_s1 sx_m4 (sx_s1 sx_m2 (sx_s1 sx_m1 (sx_s1 sx_m0 sx_s0))))) ?_
                exact tL_X4_kernHolds_130 hG hP  N _ _ _ _ _ h
              · have h := sx_neg c32 h
                refine sx_iconst (pc := 120) (v := 0) dX4_kernHolds_120 (by decide) ?_
                exact sv_zret (pc := 121) dX4_kernHolds_121 rfl rfl h hP
  · have h := sx_pos c12 h
    refine sx_iconst (pc := 20) (v := 1) dX4_kernHolds_20 (by decide) ?_
    exact sv_zret (pc := 21) dX4_kernHolds_21 rfl rfl h hP
theorem dX4_programsHold_0 : decode cX4_programsHold 0 = .ok (.aload_n 0, 1) := by decide +kernel
theorem dX4_programsHold_1 : decode cX4_programsHold 1 = .ok (.getfield 9, 3) := by decide +kernel
theorem dX4_programsHold_4 : decode cX4_programsHold 4 = .ok (.getfield 118, 3) := by decide +kernel
theorem dX4_programsHold_7 : decode cX4_programsHold 7 = .ok (.bipush 8, 2) := by decide +kernel
theorem dX4_programsHold_9 : decode cX4_programsHold 9 = .ok (.iaload, 1) := by decide +kernel
theorem dX4_programsHold_10 : decode cX4_programsHold 10 = .ok (.iconst 2, 1) := by decide +kernel
theorem dX4_programsHold_11 : decode cX4_programsHold 11 = .ok (.irem, 1) := by decide +kernel
theorem dX4_programsHold_12 : decode cX4_programsHold 12 = .ok (.ifCond .ne 55, 3) := by decide +kernel
theorem dX4_programsHold_15 : decode cX4_programsHold 15 = .ok (.aload_n 0, 1) := by decide +kernel
theorem dX4_programsHold_16 : decode cX4_programsHold 16 = .ok (.getfield 9, 3) := by decide +kernel
theorem dX4_programsHold_19 : decode cX4_programsHold 19 = .ok (.getfield 118, 3) := by decide +kernel
theorem dX4_programsHold_22 : decode cX4_programsHold 22 = .ok (.bipush 8, 2) := by decide +kernel
theorem dX4_programsHold_24 : decode cX4_programsHold 24 = .ok (.iaload, 1) := by decide +kernel
theorem dX4_programsHold_25 : decode cX4_programsHold 25 = .ok (.sipush 512, 3) := by decide +kernel
theorem dX4_programsHold_28 : decode cX4_programsHold 28 = .ok (.if_icmp .gt 39, 3) := by decide +kernel
theorem dX4_programsHold_31 : decode cX4_programsHold 31 = .ok (.aload_n 0, 1) := by decide +kernel
theorem dX4_programsHold_32 : decode cX4_programsHold 32 = .ok (.getfield 9, 3) := by decide +kernel
theorem dX4_programsHold_35 : decode cX4_programsHold 35 = .ok (.getfield 118, 3) := by decide +kernel
theorem dX4_programsHold_38 : decode cX4_programsHold 38 = .ok (.bipush 9, 2) := by decide +kernel
theorem dX4_programsHold_40 : decode cX4_programsHold 40 = .ok (.iaload, 1) := by decide +kernel
theorem dX4_programsHold_41 : decode cX4_programsHold 41 = .ok (.sipush 2000, 3) := by decide +kernel
theorem dX4_programsHold_44 : decode cX4_programsHold 44 = .ok (.if_icmp .gt 23, 3) := by decide +kernel
theorem dX4_programsHold_47 : decode cX4_programsHold 47 = .ok (.aload_n 0, 1) := by decide +kernel
theorem dX4_programsHold_48 : decode cX4_programsHold 48 = .ok (.getfield 9, 3) := by decide +kernel
theorem dX4_programsHold_51 : decode cX4_programsHold 51 = .ok (.getfield 118, 3) := by decide +kernel
theorem dX4_programsHold_54 : decode cX4_programsHold 54 = .ok (.bipush 10, 2) := by decide +kernel
theorem dX4_programsHold_56 : decode cX4_programsHold 56 = .ok (.iaload, 1) := by decide +kernel
theorem dX4_programsHold_57 : decode cX4_programsHold 57 = .ok (.sipush 2000, 3) := by decide +kernel
theorem dX4_programsHold_60 : decode cX4_programsHold 60 = .ok (.if_icmp .gt 7, 3) := by decide +kernel
theorem dX4_programsHold_63 : decode cX4_programsHold 63 = .ok (.iconst 1, 1) := by decide +kernel
theorem dX4_programsHold_64 : decode cX4_programsHold 64 = .ok (.goto 4, 3) := by decide +kernel
theorem dX4_programsHold_67 : decode cX4_programsHold 67 = .ok (.iconst 0, 1) := by decide +kernel
theorem dX4_programsHold_68 : decode cX4_programsHold 68 = .ok (.ireturn, 1) := by decide +kernel
def F_X4_programsHold  (V : sv_V) : Option (Int32 × sv_V) := if ((V.1 5 (8 : Int32).toNatClampNeg) - (V.1 5 (8 : Int32).toNatClampNeg) / (2 : Int32) * (2 : Int32)) = 0 then (if (512 : Int32) < (V.1 5 (8 : Int32).toNatClampNeg) then (some ((0 : Int32), V)) else (if (2000 : Int32) < (V.1 5 (9 : Int32).toNatClampNeg) then (some ((0 : Int32), V)) else (if (2000 : Int32) < (V.1 5 (10 : Int32).toNatClampNeg) then (some ((0 : Int32), V)) else (some ((1 : Int32), V))))) else (some ((0 : Int32), V))
set_option maxRecDepth 20000 in
theorem t_X4_programsHold {g : sx_G} (hG : sx_Go g) {P : Option Value → sv_V → Prop} {r : Int32} {Vr : sv_V} (hP : P (some (.int r)) Vr)  {V : sv_V} (h : F_X4_programsHold  V = some (r, Vr)) : sv_N g qX4_programsHold 0 0 [(0, .ref 29)] [] V P := by
  unfold F_X4_programsHold at h
  refine sx_aload_n (pc := 0) dX4_programsHold_0 sx_m0 ?_
  refine sv_getO (pc := 1) hG dX4_programsHold_1 f_4_9 lay_29 rfl cr_29_0 ?_
  refine sv_getA (pc := 4) hG dX4_programsHold_4 f_4_118 lay_2 rfl cr_2_4 ?_
  refine sx_bipush (pc := 7) (v := 8) dX4_programsHold_7 (by decide) ?_
  refine sv_iald (pc := 9) hG dX4_programsHold_9 lay_5 (by decide) ?_
  refine sx_iconst (pc := 10) (v := 2) dX4_programsHold_10 (by decide) ?_
  refine sx_irem (pc := 11) dX4_programsHold_11 (by decide) ?_
  refine sx_if_ne (pc := 12) (tgt := 67) dX4_programsHold_12 (by decide) (fun c1 => ?_) (fun c1 => ?_)
  · have h := sx_neg c1 h
    refine sx_iconst (pc := 67) (v := 0) dX4_programsHold_67 (by decide) ?_
    exact sv_zret (pc := 68) dX4_programsHold_68 rfl rfl h hP
  · have h := sx_pos c1 h
    refine sx_aload_n (pc := 15) dX4_programsHold_15 sx_m0 ?_
    refine sv_getO (pc := 16) hG dX4_programsHold_16 f_4_9 lay_29 rfl cr_29_0 ?_
    refine sv_getA (pc := 19) hG dX4_programsHold_19 f_4_118 lay_2 rfl cr_2_4 ?_
    refine sx_bipush (pc := 22) (v := 8) dX4_programsHold_22 (by decide) ?_
    refine sv_iald (pc := 24) hG dX4_programsHold_24 lay_5 (by decide) ?_
    refine sx_sipush (pc := 25) (v := 512) dX4_programsHold_25 (by decide) ?_
    refine sx_icmp_gt (pc := 28) (tgt := 67) dX4_programsHold_28 (by decide) (fun c2 => ?_) (fun c2 => ?_)
    · have h := sx_pos c2 h
      refine sx_iconst (pc := 67) (v := 0) dX4_programsHold_67 (by decide) ?_
      exact sv_zret (pc := 68) dX4_programsHold_68 rfl rfl h hP
    · have h := sx_neg c2 h
      refine sx_aload_n (pc := 31) dX4_programsHold_31 sx_m0 ?_
      refine sv_getO (pc := 32) hG dX4_programsHold_32 f_4_9 lay_29 rfl cr_29_0 ?_
      refine sv_getA (pc := 35) hG dX4_programsHold_35 f_4_118 lay_2 rfl cr_2_4 ?_
      refine sx_bipush (pc := 38) (v := 9) dX4_programsHold_38 (by decide) ?_
      refine sv_iald (pc := 40) hG dX4_programsHold_40 lay_5 (by decide) ?_
      refine sx_sipush (pc := 41) (v := 2000) dX4_programsHold_41 (by decide) ?_
      refine sx_icmp_gt (pc := 44) (tgt := 67) dX4_programsHold_44 (by decide) (fun c3 => ?_) (fun c3 => ?_)
      · have h := sx_pos c3 h
        refine sx_iconst (pc := 67) (v := 0) dX4_programsHold_67 (by decide) ?_
        exact sv_zret (pc := 68) dX4_programsHold_68 rfl rfl h hP
      · have h := sx_neg c3 h
        refine sx_aload_n (pc := 47) dX4_programsHold_47 sx_m0 ?_
        refine sv_getO (pc := 48) hG dX4_programsHold_48 f_4_9 lay_29 rfl cr_29_0 ?_
        refine sv_getA (pc := 51) hG dX4_programsHold_51 f_4_118 lay_2 rfl cr_2_4 ?_
        refine sx_bipush (pc := 54) (v := 10) dX4_programsHold_54 (by decide) ?_
        refine sv_iald (pc := 56) hG dX4_programsHold_56 lay_5 (by decide) ?_
        refine sx_sipush (pc := 57) (v := 2000) dX4_programsHold_57 (by decide) ?_
        refine sx_icmp_gt (pc := 60) (tgt := 67) dX4_programsHold_60 (by decide) (fun c4 => ?_) (fun c4 => ?_)
        · have h := sx_pos c4 h
          refine sx_iconst (pc := 67) (v := 0) dX4_programsHold_67 (by decide) ?_
          exact sv_zret (pc := 68) dX4_programsHold_68 rfl rfl h hP
        · have h := sx_neg c4 h
          refine sx_iconst (pc := 63) (v := 1) dX4_programsHold_63 (by decide) ?_
          refine sx_goto (pc := 64) (tgt := 68) dX4_programsHold_64 (by decide) ?_
          exact sv_zret (pc := 68) dX4_programsHold_68 rfl rfl h hP
theorem dX5_beginCount_0 : decode cX5_beginCount 0 = .ok (.aload_n 0, 1) := by decide +kernel
theorem dX5_beginCount_1 : decode cX5_beginCount 1 = .ok (.iconst 0, 1) := by decide +kernel
theorem dX5_beginCount_2 : decode cX5_beginCount 2 = .ok (.putfield 53, 3) := by decide +kernel
theorem dX5_beginCount_5 : decode cX5_beginCount 5 = .ok (.aload_n 0, 1) := by decide +kernel
theorem dX5_beginCount_6 : decode cX5_beginCount 6 = .ok (.iconst 0, 1) := by decide +kernel
theorem dX5_beginCount_7 : decode cX5_beginCount 7 = .ok (.putfield 56, 3) := by decide +kernel
theorem dX5_beginCount_10 : decode cX5_beginCount 10 = .ok (.aload_n 0, 1) := by decide +kernel
theorem dX5_beginCount_11 : decode cX5_beginCount 11 = .ok (.iconst (-1), 1) := by decide +kernel
theorem dX5_beginCount_12 : decode cX5_beginCount 12 = .ok (.putfield 41, 3) := by decide +kernel
theorem dX5_beginCount_15 : decode cX5_beginCount 15 = .ok (.return_, 1) := by decide +kernel
def F_X5_beginCount  (V : sv_V) : Option sv_V := sx_let (sv_I V 69 13 (0 : Int32)) (fun V1 => sx_let (sv_I V1 69 14 (0 : Int32)) (fun V2 => sx_let (sv_I V2 69 15 (-1 : Int32)) (fun V3 => some V3)))
set_option maxRecDepth 20000 in
theorem t_X5_beginCount {g : sx_G} (hG : sx_Go g) {P : Option Value → sv_V → Prop} {Vr : sv_V} (hP : P none Vr)  {V : sv_V} (h : F_X5_beginCount  V = some Vr) : sv_N g qX5_beginCount 0 0 [(0, .ref 69)] [] V P := by
  unfold F_X5_beginCount at h
  refine sx_aload_n (pc := 0) dX5_beginCount_0 sx_m0 ?_
  refine sx_iconst (pc := 1) (v := 0) dX5_beginCount_1 (by decide) ?_
  obtain ⟨V1, hV1⟩ : ∃ z : sv_V, z = sv_I V 69 13 (0 : Int32) := ⟨_, rfl⟩
  have h := sx_letE hV1 h
  refine sv_putI (pc := 2) hG dX5_beginCount_2 f_5_53 lay_69 rfl hV1 ?_
  refine sx_aload_n (pc := 5) dX5_beginCount_5 sx_m0 ?_
  refine sx_iconst (pc := 6) (v := 0) dX5_beginCount_6 (by decide) ?_
  obtain ⟨V2, hV2⟩ : ∃ z : sv_V, z = sv_I V1 69 14 (0 : Int32) := ⟨_, rfl⟩
  have h := sx_letE hV2 h
  refine sv_putI (pc := 7) hG dX5_beginCount_7 f_5_56 lay_69 rfl hV2 ?_
  refine sx_aload_n (pc := 10) dX5_beginCount_10 sx_m0 ?_
  refine sx_iconst (pc := 11) (v := (-1)) dX5_beginCount_11 (by decide) ?_
  obtain ⟨V3, hV3⟩ : ∃ z : sv_V, z = sv_I V2 69 15 (-1 : Int32) := ⟨_, rfl⟩
  have h := sx_letE hV3 h
  refine sv_putI (pc := 12) hG dX5_beginCount_12 f_5_41 lay_69 rfl hV3 ?_
  exact sv_vret (pc := 15) dX5_beginCount_15 rfl h hP
theorem dX5_failOutside_0 : decode cX5_failOutside 0 = .ok (.aload_n 0, 1) := by decide +kernel
theorem dX5_failOutside_1 : decode cX5_failOutside 1 = .ok (.iload_n 1, 1) := by decide +kernel
theorem dX5_failOutside_2 : decode cX5_failOutside 2 = .ok (.putfield 56, 3) := by decide +kernel
theorem dX5_failOutside_5 : decode cX5_failOutside 5 = .ok (.aload_n 0, 1) := by decide +kernel
theorem dX5_failOutside_6 : decode cX5_failOutside 6 = .ok (.iconst (-1), 1) := by decide +kernel
theorem dX5_failOutside_7 : decode cX5_failOutside 7 = .ok (.putfield 41, 3) := by decide +kernel
theorem dX5_failOutside_10 : decode cX5_failOutside 10 = .ok (.return_, 1) := by decide +kernel
def F_X5_failOutside (l1 : Int32) (V : sv_V) : Option sv_V := sx_let (sv_I V 69 14 l1) (fun V1 => sx_let (sv_I V1 69 15 (-1 : Int32)) (fun V2 => some V2))
set_option maxRecDepth 20000 in
theorem t_X5_failOutside {g : sx_G} (hG : sx_Go g) {P : Option Value → sv_V → Prop} {Vr : sv_V} (hP : P none Vr) {l1 : Int32} {V : sv_V} (h : F_X5_failOutside l1 V = some Vr) : sv_N g qX5_failOutside 0 0 [(0, .ref 69), (1, .int l1)] [] V P := by
  unfold F_X5_failOutside at h
  refine sx_aload_n (pc := 0) dX5_failOutside_0 sx_m0 ?_
  refine sx_iload_n (pc := 1) dX5_failOutside_1 sx_m1 ?_
  obtain ⟨V1, hV1⟩ : ∃ z : sv_V, z = sv_I V 69 14 l1 := ⟨_, rfl⟩
  have h := sx_letE hV1 h
  refine sv_putI (pc := 2) hG dX5_failOutside_2 f_5_56 lay_69 rfl hV1 ?_
  refine sx_aload_n (pc := 5) dX5_failOutside_5 sx_m0 ?_
  refine sx_iconst (pc := 6) (v := (-1)) dX5_failOutside_6 (by decide) ?_
  obtain ⟨V2, hV2⟩ : ∃ z : sv_V, z = sv_I V1 69 15 (-1 : Int32) := ⟨_, rfl⟩
  have h := sx_letE hV2 h
  refine sv_putI (pc := 7) hG dX5_failOutside_7 f_5_41 lay_69 rfl hV2 ?_
  exact sv_vret (pc := 10) dX5_failOutside_10 rfl h hP
theorem dX5_isAtEnd_0 : decode cX5_isAtEnd 0 = .ok (.aload_n 0, 1) := by decide +kernel
theorem dX5_isAtEnd_1 : decode cX5_isAtEnd 1 = .ok (.getfield 93, 3) := by decide +kernel
theorem dX5_isAtEnd_4 : decode cX5_isAtEnd 4 = .ok (.aload_n 0, 1) := by decide +kernel
theorem dX5_isAtEnd_5 : decode cX5_isAtEnd 5 = .ok (.getfield 90, 3) := by decide +kernel
theorem dX5_isAtEnd_8 : decode cX5_isAtEnd 8 = .ok (.if_icmp .ge 5, 3) := by decide +kernel
theorem dX5_isAtEnd_11 : decode cX5_isAtEnd 11 = .ok (.iconst 0, 1) := by decide +kernel
theorem dX5_isAtEnd_12 : decode cX5_isAtEnd 12 = .ok (.ireturn, 1) := by decide +kernel
theorem dX5_isAtEnd_13 : decode cX5_isAtEnd 13 = .ok (.aload_n 0, 1) := by decide +kernel
theorem dX5_isAtEnd_14 : decode cX5_isAtEnd 14 = .ok (.getfield 21, 3) := by decide +kernel
theorem dX5_isAtEnd_17 : decode cX5_isAtEnd 17 = .ok (.getfield 99, 3) := by decide +kernel
theorem dX5_isAtEnd_20 : decode cX5_isAtEnd 20 = .ok (.ifCond .le 8, 3) := by decide +kernel
theorem dX5_isAtEnd_23 : decode cX5_isAtEnd 23 = .ok (.aload_n 0, 1) := by decide +kernel
theorem dX5_isAtEnd_24 : decode cX5_isAtEnd 24 = .ok (.iconst 4, 1) := by decide +kernel
theorem dX5_isAtEnd_25 : decode cX5_isAtEnd 25 = .ok (.putfield 56, 3) := by decide +kernel
theorem dX5_isAtEnd_28 : decode cX5_isAtEnd 28 = .ok (.iconst 1, 1) := by decide +kernel
theorem dX5_isAtEnd_29 : decode cX5_isAtEnd 29 = .ok (.ireturn, 1) := by decide +kernel
def F_X5_isAtEnd  (V : sv_V) : Option (Int32 × sv_V) := if (V.1 69 10) ≤ (V.1 69 11) then (if (V.1 73 9) ≤ 0 then (some ((1 : Int32), V)) else (sx_let (sv_I V 69 14 (4 : Int32)) (fun V3 => some ((1 : Int32), V3)))) else (some ((0 : Int32), V))
set_option maxRecDepth 20000 in
theorem t_X5_isAtEnd {g : sx_G} (hG : sx_Go g) {P : Option Value → sv_V → Prop} {r : Int32} {Vr : sv_V} (hP : P (some (.int r)) Vr)  {V : sv_V} (h : F_X5_isAtEnd  V = some (r, Vr)) : sv_N g qX5_isAtEnd 0 0 [(0, .ref 69)] [] V P := by
  unfold F_X5_isAtEnd at h
  refine sx_aload_n (pc := 0) dX5_isAtEnd_0 sx_m0 ?_
  refine sv_getI (pc := 1) hG dX5_isAtEnd_1 f_5_93 lay_69 rfl ?_
  refine sx_aload_n (pc := 4) dX5_isAtEnd_4 sx_m0 ?_
  refine sv_getI (pc := 5) hG dX5_isAtEnd_5 f_5_90 lay_69 rfl ?_
  refine sx_icmp_ge (pc := 8) (tgt := 13) dX5_isAtEnd_8 (by decide) (fun c1 => ?_) (fun c1 => ?_)
  · have h := sx_pos c1 h
    refine sx_aload_n (pc := 13) dX5_isAtEnd_13 sx_m0 ?_
    refine sv_getO (pc := 14) hG dX5_isAtEnd_14 f_5_21 lay_69 rfl cr_69_2 ?_
    refine sv_getI (pc := 17) hG dX5_isAtEnd_17 f_5_99 lay_73 rfl ?_
    refine sx_if_le (pc := 20) (tgt := 28) dX5_isAtEnd_20 (by decide) (fun c2 => ?_) (fun c2 => ?_)
    · have h := sx_pos c2 h
      refine sx_iconst (pc := 28) (v := 1) dX5_isAtEnd_28 (by decide) ?_
      exact sv_zret (pc := 29) dX5_isAtEnd_29 rfl rfl h hP
    · have h := sx_neg c2 h
      refine sx_aload_n (pc := 23) dX5_isAtEnd_23 sx_m0 ?_
      refine sx_iconst (pc := 24) (v := 4) dX5_isAtEnd_24 (by decide) ?_
      obtain ⟨V3, hV3⟩ : ∃ z : sv_V, z = sv_I V 69 14 (4 : Int32) := ⟨_, rfl⟩
      have h := sx_letE hV3 h
      refine sv_putI (pc := 25) hG dX5_isAtEnd_25 f_5_56 lay_69 rfl hV3 ?_
      refine sx_iconst (pc := 28) (v := 1) dX5_isAtEnd_28 (by decide) ?_
      exact sv_zret (pc := 29) dX5_isAtEnd_29 rfl rfl h hP
  · have h := sx_neg c1 h
    refine sx_iconst (pc := 11) (v := 0) dX5_isAtEnd_11 (by decide) ?_
    exact sv_zret (pc := 12) dX5_isAtEnd_12 rfl rfl h hP
theorem dX5_beginStep_0 : decode cX5_beginStep 0 = .ok (.aload_n 0, 1) := by decide +kernel
theorem dX5_beginStep_1 : decode cX5_beginStep 1 = .ok (.getfield 53, 3) := by decide +kernel
theorem dX5_beginStep_4 : decode cX5_beginStep 4 = .ok (.sipush 20000, 3) := by decide +kernel
theorem dX5_beginStep_7 : decode cX5_beginStep 7 = .ok (.if_icmp .lt 11, 3) := by decide +kernel
theorem dX5_beginStep_10 : decode cX5_beginStep 10 = .ok (.aload_n 0, 1) := by decide +kernel
theorem dX5_beginStep_11 : decode cX5_beginStep 11 = .ok (.bipush 10, 2) := by decide +kernel
theorem dX5_beginStep_13 : decode cX5_beginStep 13 = .ok (.putfield 56, 3) := by decide +kernel
theorem dX5_beginStep_16 : decode cX5_beginStep 16 = .ok (.iconst 0, 1) := by decide +kernel
theorem dX5_beginStep_17 : decode cX5_beginStep 17 = .ok (.ireturn, 1) := by decide +kernel
theorem dX5_beginStep_18 : decode cX5_beginStep 18 = .ok (.aload_n 0, 1) := by decide +kernel
theorem dX5_beginStep_19 : decode cX5_beginStep 19 = .ok (.dup, 1) := by decide +kernel
theorem dX5_beginStep_20 : decode cX5_beginStep 20 = .ok (.getfield 53, 3) := by decide +kernel
theorem dX5_beginStep_23 : decode cX5_beginStep 23 = .ok (.iconst 1, 1) := by decide +kernel
theorem dX5_beginStep_24 : decode cX5_beginStep 24 = .ok (.iadd, 1) := by decide +kernel
theorem dX5_beginStep_25 : decode cX5_beginStep 25 = .ok (.putfield 53, 3) := by decide +kernel
theorem dX5_beginStep_28 : decode cX5_beginStep 28 = .ok (.aload_n 0, 1) := by decide +kernel
theorem dX5_beginStep_29 : decode cX5_beginStep 29 = .ok (.getfield 45, 3) := by decide +kernel
theorem dX5_beginStep_32 : decode cX5_beginStep 32 = .ok (.aload_n 0, 1) := by decide +kernel
theorem dX5_beginStep_33 : decode cX5_beginStep 33 = .ok (.getfield 93, 3) := by decide +kernel
theorem dX5_beginStep_36 : decode cX5_beginStep 36 = .ok (.invokevirtual 156, 3) := by decide +kernel
theorem dX5_beginStep_39 : decode cX5_beginStep 39 = .ok (.istore_n 1, 1) := by decide +kernel
theorem dX5_beginStep_40 : decode cX5_beginStep 40 = .ok (.aload_n 0, 1) := by decide +kernel
theorem dX5_beginStep_41 : decode cX5_beginStep 41 = .ok (.dup, 1) := by decide +kernel
theorem dX5_beginStep_42 : decode cX5_beginStep 42 = .ok (.getfield 93, 3) := by decide +kernel
theorem dX5_beginStep_45 : decode cX5_beginStep 45 = .ok (.iconst 1, 1) := by decide +kernel
theorem dX5_beginStep_46 : decode cX5_beginStep 46 = .ok (.iadd, 1) := by decide +kernel
theorem dX5_beginStep_47 : decode cX5_beginStep 47 = .ok (.putfield 93, 3) := by decide +kernel
theorem dX5_beginStep_50 : decode cX5_beginStep 50 = .ok (.getstatic 160, 3) := by decide +kernel
theorem dX5_beginStep_53 : decode cX5_beginStep 53 = .ok (.iload_n 1, 1) := by decide +kernel
theorem dX5_beginStep_54 : decode cX5_beginStep 54 = .ok (.iaload, 1) := by decide +kernel
theorem dX5_beginStep_55 : decode cX5_beginStep 55 = .ok (.istore_n 2, 1) := by decide +kernel
theorem dX5_beginStep_56 : decode cX5_beginStep 56 = .ok (.iload_n 2, 1) := by decide +kernel
theorem dX5_beginStep_57 : decode cX5_beginStep 57 = .ok (.bipush (-2), 2) := by decide +kernel
theorem dX5_beginStep_59 : decode cX5_beginStep 59 = .ok (.if_icmp .ne 14, 3) := by decide +kernel
theorem dX5_beginStep_62 : decode cX5_beginStep 62 = .ok (.aload_n 0, 1) := by decide +kernel
theorem dX5_beginStep_63 : decode cX5_beginStep 63 = .ok (.getfield 12, 3) := by decide +kernel
theorem dX5_beginStep_66 : decode cX5_beginStep 66 = .ok (.getfield 163, 3) := by decide +kernel
theorem dX5_beginStep_69 : decode cX5_beginStep 69 = .ok (.istore_n 2, 1) := by decide +kernel
theorem dX5_beginStep_70 : decode cX5_beginStep 70 = .ok (.goto 19, 3) := by decide +kernel
theorem dX5_beginStep_73 : decode cX5_beginStep 73 = .ok (.iload_n 2, 1) := by decide +kernel
theorem dX5_beginStep_74 : decode cX5_beginStep 74 = .ok (.bipush (-3), 2) := by decide +kernel
theorem dX5_beginStep_76 : decode cX5_beginStep 76 = .ok (.if_icmp .ne 13, 3) := by decide +kernel
theorem dX5_beginStep_79 : decode cX5_beginStep 79 = .ok (.aload_n 0, 1) := by decide +kernel
theorem dX5_beginStep_80 : decode cX5_beginStep 80 = .ok (.getfield 12, 3) := by decide +kernel
theorem dX5_beginStep_83 : decode cX5_beginStep 83 = .ok (.getfield 163, 3) := by decide +kernel
theorem dX5_beginStep_86 : decode cX5_beginStep 86 = .ok (.iconst 1, 1) := by decide +kernel
theorem dX5_beginStep_87 : decode cX5_beginStep 87 = .ok (.iadd, 1) := by decide +kernel
theorem dX5_beginStep_88 : decode cX5_beginStep 88 = .ok (.istore_n 2, 1) := by decide +kernel
theorem dX5_beginStep_89 : decode cX5_beginStep 89 = .ok (.aload_n 0, 1) := by decide +kernel
theorem dX5_beginStep_90 : decode cX5_beginStep 90 = .ok (.getfield 96, 3) := by decide +kernel
theorem dX5_beginStep_93 : decode cX5_beginStep 93 = .ok (.iload_n 2, 1) := by decide +kernel
theorem dX5_beginStep_94 : decode cX5_beginStep 94 = .ok (.if_icmp .ge 8, 3) := by decide +kernel
theorem dX5_beginStep_97 : decode cX5_beginStep 97 = .ok (.aload_n 0, 1) := by decide +kernel
theorem dX5_beginStep_98 : decode cX5_beginStep 98 = .ok (.iconst 1, 1) := by decide +kernel
theorem dX5_beginStep_99 : decode cX5_beginStep 99 = .ok (.putfield 56, 3) := by decide +kernel
theorem dX5_beginStep_102 : decode cX5_beginStep 102 = .ok (.iload_n 1, 1) := by decide +kernel
theorem dX5_beginStep_103 : decode cX5_beginStep 103 = .ok (.ireturn, 1) := by decide +kernel
def B_X5_beginStep_89  (l1 : Int32) (l2 : Int32) (V : sv_V) : Option (Int32 × sv_V) := if l2 ≤ (V.1 69 5) then (some (l1, V)) else (sx_let (sv_I V 69 14 (1 : Int32)) (fun V2 => some (l1, V2)))
set_option maxRecDepth 20000 in
theorem tB_X5_beginStep_89 {g : sx_G} (hG : sx_Go g) {P : Option Value → sv_V → Prop} {r : Int32} {Vr : sv_V} (hP : P (some (.int r)) Vr)   {l1 : Int32} {l2 : Int32} {V : sv_V} (h : B_X5_beginStep_89  l1 l2 V = some (r, Vr)) : sv_N g qX5_beginStep 1 89 [(0, .ref 69), (1, .int l1), (2, .int l2)] [] V P := by
  unfold B_X5_beginStep_89 at h
  refine sx_aload_n (pc := 89) dX5_beginStep_89 sx_m0 ?_
  refine sv_getI (pc := 90) hG dX5_beginStep_90 f_5_96 lay_69 rfl ?_
  refine sx_iload_n (pc := 93) dX5_beginStep_93 sx_m2 ?_
  refine sx_icmp_ge (pc := 94) (tgt := 102) dX5_beginStep_94 (by decide) (fun c1 => ?_) (fun c1 => ?_)
  · have h := sx_pos c1 h
    refine sx_iload_n (pc := 102) dX5_beginStep_102 sx_m1 ?_
    exact sv_iret (pc := 103) dX5_beginStep_103 rfl h hP
  · have h := sx_neg c1 h
    refine sx_aload_n (pc := 97) dX5_beginStep_97 sx_m0 ?_
    refine sx_iconst (pc := 98) (v := 1) dX5_beginStep_98 (by decide) ?_
    obtain ⟨V2, hV2⟩ : ∃ z : sv_V, z = sv_I V 69 14 (1 : Int32) := ⟨_, rfl⟩
    have h := sx_letE hV2 h
    refine sv_putI (pc := 99) hG dX5_beginStep_99 f_5_56 lay_69 rfl hV2 ?_
    refine sx_iload_n (pc := 102) dX5_beginStep_102 sx_m1 ?_
    exact sv_iret (pc := 103) dX5_beginStep_103 rfl h hP
def F_X5_beginStep  (V : sv_V) : Option (Int32 × sv_V) := if (V.1 69 13) < (20000 : Int32) then (sx_let (sv_I V 69 13 ((V.1 69 13) + (1 : Int32))) (fun V4 => (F_X2_u1 (V4.1 69 11) V4).bind (fun (x7, V5) => sx_let (sv_I V5 69 11 ((V5.1 69 11) + (1 : Int32))) (fun V8 => if sx_in x7 256 = true then sx_let (V8.1 1006 x7.toNatClampNeg) (fun x10 => if x10 = (-2 : Int32) then (sx_let (V8.1 70 8) (fun x14 => B_X5_beginStep_89  x7 x14 V8)) else (if x10 = (-3 : Int32) then (sx_let ((V8.1 70 8) + (1 : Int32)) (fun x13 => B_X5_beginStep_89  x7 x13 V8)) else (B_X5_beginStep_89  x7 x10 V8))) else none)))) else (sx_let (sv_I V 69 14 (10 : Int32)) (fun V15 => some ((0 : Int32), V15)))
set_option maxRecDepth 20000 in
theorem t_X5_beginStep {g : sx_G} (hG : sx_Go g) {P : Option Value → sv_V → Prop} {r : Int32} {Vr : sv_V} (hP : P (some (.int r)) Vr)  {V : sv_V} (h : F_X5_beginStep  V = some (r, Vr)) : sv_N g qX5_beginStep 1 0 [(0, .ref 69)] [] V P := by
  unfold F_X5_beginStep at h
  refine sx_aload_n (pc := 0) dX5_beginStep_0 sx_m0 ?_
  refine sv_getI (pc := 1) hG dX5_beginStep_1 f_5_53 lay_69 rfl ?_
  refine sx_sipush (pc := 4) (v := 20000) dX5_beginStep_4 (by decide) ?_
  refine sx_icmp_lt (pc := 7) (tgt := 18) dX5_beginStep_7 (by decide) (fun c3 => ?_) (fun c3 => ?_)
  · have h := sx_pos c3 h
    refine sx_aload_n (pc := 18) dX5_beginStep_18 sx_m0 ?_
    refine sx_dup (pc := 19) dX5_beginStep_19 rfl ?_
    refine sv_getI (pc := 20) hG dX5_beginStep_20 f_5_53 lay_69 rfl ?_
    refine sx_iconst (pc := 23) (v := 1) dX5_beginStep_23 (by decide) ?_
    refine sx_iadd (pc := 24) dX5_beginStep_24 ?_
    obtain ⟨V4, hV4⟩ : ∃ z : sv_V, z = sv_I V 69 13 ((V.1 69 13) + (1 : Int32)) := ⟨_, rfl⟩
    have h := sx_letE hV4 h
    refine sv_putI (pc := 25) hG dX5_beginStep_25 f_5_53 lay_69 rfl hV4 ?_
    refine sx_aload_n (pc := 28) dX5_beginStep_28 sx_m0 ?_
    refine sv_getO (pc := 29) hG dX5_beginStep_29 f_5_45 lay_69 rfl cr_69_0 ?_
    refine sx_aload_n (pc := 32) dX5_beginStep_32 sx_m0 ?_
    refine sv_getI (pc := 33) hG dX5_beginStep_33 f_5_93 lay_69 rfl ?_
    obtain ⟨⟨x7, V5⟩, g6, h⟩ := sx_bnd h
    refine sv_cV (pc := 36) (y := qX2_u1) (o := (some (.int x7))) (as := [.int (V4.1 69 11)]) (V1 := V5) hG dX5_beginStep_36 l_X5_156 y0X2_u1 yvX2_u1 rfl (Nat.le_of_ble_eq_true rfl) lay_2 kr_2 (by decide) (Nat.le_of_ble_eq_true rfl) rfl rfl rfl (t_X2_u1 hG ⟨rfl, rfl⟩ g6) ?_
    refine sx_istore_n (pc := 39) (lo' := [(1, .int x7), (0, .ref 69)]) dX5_beginStep_39 (by decide) rfl ?_
    refine sx_aload_n (pc := 40) dX5_beginStep_40 sx_m1 ?_
    refine sx_dup (pc := 41) dX5_beginStep_41 rfl ?_
    refine sv_getI (pc := 42) hG dX5_beginStep_42 f_5_93 lay_69 rfl ?_
    refine sx_iconst (pc := 45) (v := 1) dX5_beginStep_45 (by decide) ?_
    refine sx_iadd (pc := 46) dX5_beginStep_46 ?_
    obtain ⟨V8, hV8⟩ : ∃ z : sv_V, z = sv_I V5 69 11 ((V5.1 69 11) + (1 : Int32)) := ⟨_, rfl⟩
    have h := sx_letE hV8 h
    refine sv_putI (pc := 47) hG dX5_beginStep_47 f_5_93 lay_69 rfl hV8 ?_
    refine sv_getS (pc := 50) (j := 5) dX5_beginStep_50 rfl n_X5_160 ?_
    refine sx_iload_n (pc := 53) dX5_beginStep_53 sx_m0 ?_
    obtain ⟨g9, h⟩ := sx_grd h
    refine sv_xld (pc := 54) hG dX5_beginStep_54 lay_1006 g9 ?_
    refine sv_tI (fun x10 hx10 => ?_)
    have h := sx_letE hx10 h
    refine sx_istore_n (pc := 55) (lo' := [(2, .int x10), (1, .int x7), (0, .ref 69)]) dX5_beginStep_55 (by decide) rfl ?_
    refine sx_iload_n (pc := 56) dX5_beginStep_56 sx_m0 ?_
    refine sx_bipush (pc := 57) (v := (-2)) dX5_beginStep_57 (by decide) ?_
    refine sx_icmp_ne (pc := 59) (tgt := 73) dX5_beginStep_59 (by decide) (fun c11 => ?_) (fun c11 => ?_)
    · have h := sx_neg c11 h
      refine sx_iload_n (pc := 73) dX5_beginStep_73 sx_m0 ?_
      refine sx_bipush (pc := 74) (v := (-3)) dX5_beginStep_74 (by decide) ?_
      refine sx_icmp_ne (pc := 76) (tgt := 89) dX5_beginStep_76 (by decide) (fun c12 => ?_) (fun c12 => ?_)
      · have h := sx_neg c12 h
        refine sx_wk (sx_s1 sx_m2 (sx_s1 sx_m1 (sx_s1 sx_m0 sx_s0))) ?_
        exact tB_X5_beginStep_89 hG hP  h
      · have h := sx_pos c12 h
        refine sx_aload_n (pc := 79) dX5_beginStep_79 sx_m2 ?_
        refine sv_getO (pc := 80) hG dX5_beginStep_80 f_5_12 lay_69 rfl cr_69_1 ?_
        refine sv_getI (pc := 83) hG dX5_beginStep_83 f_5_163 lay_70 rfl ?_
        refine sx_iconst (pc := 86) (v := 1) dX5_beginStep_86 (by decide) ?_
        refine sx_iadd (pc := 87) dX5_beginStep_87 ?_
        refine sv_tI (fun x13 hx13 => ?_)
        have h := sx_letE hx13 h
        refine sx_istore_n (pc := 88) (lo' := [(2, .int x13), (1, .int x7), (0, .ref 69)]) dX5_beginStep_88 (by decide) rfl ?_
        refine sx_wk (sx_s1 sx_m2 (sx_s1 sx_m1 (sx_s1 sx_m0 sx_s0))) ?_
        exact tB_X5_beginStep_89 hG hP  h
    · have h := sx_pos c11 h
      refine sx_aload_n (pc := 62) dX5_beginStep_62 sx_m2 ?_
      refine sv_getO (pc := 63) hG dX5_beginStep_63 f_5_12 lay_69 rfl cr_69_1 ?_
      refine sv_getI (pc := 66) hG dX5_beginStep_66 f_5_163 lay_70 rfl ?_
      refine sv_tI (fun x14 hx14 => ?_)
      have h := sx_letE hx14 h
      refine sx_istore_n (pc := 69) (lo' := [(2, .int x14), (1, .int x7), (0, .ref 69)]) dX5_beginStep_69 (by decide) rfl ?_
      refine sx_goto (pc := 70) (tgt := 89) dX5_beginStep_70 (by decide) ?_
      refine sx_wk (sx_s1 sx_m2 (sx_s1 sx_m1 (sx_s1 sx_m0 sx_s0))) ?_
      exact tB_X5_beginStep_89 hG hP  h
  · have h := sx_neg c3 h
    refine sx_aload_n (pc := 10) dX5_beginStep_10 sx_m0 ?_
    refine sx_bipush (pc := 11) (v := 10) dX5_beginStep_11 (by decide) ?_
    obtain ⟨V15, hV15⟩ : ∃ z : sv_V, z = sv_I V 69 14 (10 : Int32) := ⟨_, rfl⟩
    have h := sx_letE hV15 h
    refine sv_putI (pc := 13) hG dX5_beginStep_13 f_5_56 lay_69 rfl hV15 ?_
    refine sx_iconst (pc := 16) (v := 0) dX5_beginStep_16 (by decide) ?_
    exact sv_iret (pc := 17) dX5_beginStep_17 rfl h hP
theorem dX5_pop_0 : decode cX5_pop 0 = .ok (.aload_n 0, 1) := by decide +kernel
theorem dX5_pop_1 : decode cX5_pop 1 = .ok (.getfield 96, 3) := by decide +kernel
theorem dX5_pop_4 : decode cX5_pop 4 = .ok (.ifCond .gt 10, 3) := by decide +kernel
theorem dX5_pop_7 : decode cX5_pop 7 = .ok (.aload_n 0, 1) := by decide +kernel
theorem dX5_pop_8 : decode cX5_pop 8 = .ok (.iconst 1, 1) := by decide +kernel
theorem dX5_pop_9 : decode cX5_pop 9 = .ok (.putfield 56, 3) := by decide +kernel
theorem dX5_pop_12 : decode cX5_pop 12 = .ok (.iconst 0, 1) := by decide +kernel
theorem dX5_pop_13 : decode cX5_pop 13 = .ok (.ireturn, 1) := by decide +kernel
theorem dX5_pop_14 : decode cX5_pop 14 = .ok (.aload_n 0, 1) := by decide +kernel
theorem dX5_pop_15 : decode cX5_pop 15 = .ok (.dup, 1) := by decide +kernel
theorem dX5_pop_16 : decode cX5_pop 16 = .ok (.getfield 96, 3) := by decide +kernel
theorem dX5_pop_19 : decode cX5_pop 19 = .ok (.iconst 1, 1) := by decide +kernel
theorem dX5_pop_20 : decode cX5_pop 20 = .ok (.isub, 1) := by decide +kernel
theorem dX5_pop_21 : decode cX5_pop 21 = .ok (.putfield 96, 3) := by decide +kernel
theorem dX5_pop_24 : decode cX5_pop 24 = .ok (.aload_n 0, 1) := by decide +kernel
theorem dX5_pop_25 : decode cX5_pop 25 = .ok (.getfield 34, 3) := by decide +kernel
theorem dX5_pop_28 : decode cX5_pop 28 = .ok (.aload_n 0, 1) := by decide +kernel
theorem dX5_pop_29 : decode cX5_pop 29 = .ok (.getfield 96, 3) := by decide +kernel
theorem dX5_pop_32 : decode cX5_pop 32 = .ok (.iaload, 1) := by decide +kernel
theorem dX5_pop_33 : decode cX5_pop 33 = .ok (.ireturn, 1) := by decide +kernel
def F_X5_pop  (V : sv_V) : Option (Int32 × sv_V) := if 0 < (V.1 69 5) then (sx_let (sv_I V 69 5 ((V.1 69 5) - (1 : Int32))) (fun V2 => if sx_in (V2.1 69 5) 256 = true then some (V2.1 92 (V2.1 69 5).toNatClampNeg, V2) else none)) else (sx_let (sv_I V 69 14 (1 : Int32)) (fun V4 => some ((0 : Int32), V4)))
set_option maxRecDepth 20000 in
theorem t_X5_pop {g : sx_G} (hG : sx_Go g) {P : Option Value → sv_V → Prop} {r : Int32} {Vr : sv_V} (hP : P (some (.int r)) Vr)  {V : sv_V} (h : F_X5_pop  V = some (r, Vr)) : sv_N g qX5_pop 0 0 [(0, .ref 69)] [] V P := by
  unfold F_X5_pop at h
  refine sx_aload_n (pc := 0) dX5_pop_0 sx_m0 ?_
  refine sv_getI (pc := 1) hG dX5_pop_1 f_5_96 lay_69 rfl ?_
  refine sx_if_gt (pc := 4) (tgt := 14) dX5_pop_4 (by decide) (fun c1 => ?_) (fun c1 => ?_)
  · have h := sx_pos c1 h
    refine sx_aload_n (pc := 14) dX5_pop_14 sx_m0 ?_
    refine sx_dup (pc := 15) dX5_pop_15 rfl ?_
    refine sv_getI (pc := 16) hG dX5_pop_16 f_5_96 lay_69 rfl ?_
    refine sx_iconst (pc := 19) (v := 1) dX5_pop_19 (by decide) ?_
    refine sx_isub (pc := 20) dX5_pop_20 ?_
    obtain ⟨V2, hV2⟩ : ∃ z : sv_V, z = sv_I V 69 5 ((V.1 69 5) - (1 : Int32)) := ⟨_, rfl⟩
    have h := sx_letE hV2 h
    refine sv_putI (pc := 21) hG dX5_pop_21 f_5_96 lay_69 rfl hV2 ?_
    refine sx_aload_n (pc := 24) dX5_pop_24 sx_m0 ?_
    refine sv_getA (pc := 25) hG dX5_pop_25 f_5_34 lay_69 rfl cr_69_4 ?_
    refine sx_aload_n (pc := 28) dX5_pop_28 sx_m0 ?_
    refine sv_getI (pc := 29) hG dX5_pop_29 f_5_96 lay_69 rfl ?_
    obtain ⟨g3, h⟩ := sx_grd h
    refine sv_iald (pc := 32) hG dX5_pop_32 lay_92 g3 ?_
    exact sv_iret (pc := 33) dX5_pop_33 rfl h hP
  · have h := sx_neg c1 h
    refine sx_aload_n (pc := 7) dX5_pop_7 sx_m0 ?_
    refine sx_iconst (pc := 8) (v := 1) dX5_pop_8 (by decide) ?_
    obtain ⟨V4, hV4⟩ : ∃ z : sv_V, z = sv_I V 69 14 (1 : Int32) := ⟨_, rfl⟩
    have h := sx_letE hV4 h
    refine sv_putI (pc := 9) hG dX5_pop_9 f_5_56 lay_69 rfl hV4 ?_
    refine sx_iconst (pc := 12) (v := 0) dX5_pop_12 (by decide) ?_
    exact sv_iret (pc := 13) dX5_pop_13 rfl h hP
theorem dX5_push_0 : decode cX5_push 0 = .ok (.aload_n 0, 1) := by decide +kernel
theorem dX5_push_1 : decode cX5_push 1 = .ok (.getfield 96, 3) := by decide +kernel
theorem dX5_push_4 : decode cX5_push 4 = .ok (.aload_n 0, 1) := by decide +kernel
theorem dX5_push_5 : decode cX5_push 5 = .ok (.getfield 45, 3) := by decide +kernel
theorem dX5_push_8 : decode cX5_push 8 = .ok (.getfield 166, 3) := by decide +kernel
theorem dX5_push_11 : decode cX5_push 11 = .ok (.iconst 5, 1) := by decide +kernel
theorem dX5_push_12 : decode cX5_push 12 = .ok (.iaload, 1) := by decide +kernel
theorem dX5_push_13 : decode cX5_push 13 = .ok (.if_icmp .ge 13, 3) := by decide +kernel
theorem dX5_push_16 : decode cX5_push 16 = .ok (.aload_n 0, 1) := by decide +kernel
theorem dX5_push_17 : decode cX5_push 17 = .ok (.getfield 96, 3) := by decide +kernel
theorem dX5_push_20 : decode cX5_push 20 = .ok (.sipush 256, 3) := by decide +kernel
theorem dX5_push_23 : decode cX5_push 23 = .ok (.if_icmp .lt 9, 3) := by decide +kernel
theorem dX5_push_26 : decode cX5_push 26 = .ok (.aload_n 0, 1) := by decide +kernel
theorem dX5_push_27 : decode cX5_push 27 = .ok (.iconst 2, 1) := by decide +kernel
theorem dX5_push_28 : decode cX5_push 28 = .ok (.putfield 56, 3) := by decide +kernel
theorem dX5_push_31 : decode cX5_push 31 = .ok (.return_, 1) := by decide +kernel
theorem dX5_push_32 : decode cX5_push 32 = .ok (.aload_n 0, 1) := by decide +kernel
theorem dX5_push_33 : decode cX5_push 33 = .ok (.getfield 34, 3) := by decide +kernel
theorem dX5_push_36 : decode cX5_push 36 = .ok (.aload_n 0, 1) := by decide +kernel
theorem dX5_push_37 : decode cX5_push 37 = .ok (.getfield 96, 3) := by decide +kernel
theorem dX5_push_40 : decode cX5_push 40 = .ok (.lload_n 1, 1) := by decide +kernel
theorem dX5_push_41 : decode cX5_push 41 = .ok (.l2i, 1) := by decide +kernel
theorem dX5_push_42 : decode cX5_push 42 = .ok (.iastore, 1) := by decide +kernel
theorem dX5_push_43 : decode cX5_push 43 = .ok (.aload_n 0, 1) := by decide +kernel
theorem dX5_push_44 : decode cX5_push 44 = .ok (.dup, 1) := by decide +kernel
theorem dX5_push_45 : decode cX5_push 45 = .ok (.getfield 96, 3) := by decide +kernel
theorem dX5_push_48 : decode cX5_push 48 = .ok (.iconst 1, 1) := by decide +kernel
theorem dX5_push_49 : decode cX5_push 49 = .ok (.iadd, 1) := by decide +kernel
theorem dX5_push_50 : decode cX5_push 50 = .ok (.putfield 96, 3) := by decide +kernel
theorem dX5_push_53 : decode cX5_push 53 = .ok (.aload_n 0, 1) := by decide +kernel
theorem dX5_push_54 : decode cX5_push 54 = .ok (.getfield 169, 3) := by decide +kernel
theorem dX5_push_57 : decode cX5_push 57 = .ok (.aload_n 0, 1) := by decide +kernel
theorem dX5_push_58 : decode cX5_push 58 = .ok (.getfield 96, 3) := by decide +kernel
theorem dX5_push_61 : decode cX5_push 61 = .ok (.if_icmp .ge 11, 3) := by decide +kernel
theorem dX5_push_64 : decode cX5_push 64 = .ok (.aload_n 0, 1) := by decide +kernel
theorem dX5_push_65 : decode cX5_push 65 = .ok (.aload_n 0, 1) := by decide +kernel
theorem dX5_push_66 : decode cX5_push 66 = .ok (.getfield 96, 3) := by decide +kernel
theorem dX5_push_69 : decode cX5_push 69 = .ok (.putfield 169, 3) := by decide +kernel
theorem dX5_push_72 : decode cX5_push 72 = .ok (.return_, 1) := by decide +kernel
def F_X5_push (l1 : Int64) (V : sv_V) : Option sv_V := if (V.1 6 (5 : Int32).toNatClampNeg) ≤ (V.1 69 5) then (sx_let (sv_I V 69 14 (2 : Int32)) (fun V2 => some V2)) else (if (V.1 69 5) < (256 : Int32) then (if sx_in (V.1 69 5) 256 = true then sx_let (sv_I V 92 (V.1 69 5).toNatClampNeg l1.toInt32) (fun V5 => sx_let (sv_I V5 69 5 ((V5.1 69 5) + (1 : Int32))) (fun V6 => if (V6.1 69 5) ≤ (V6.1 69 16) then (some V6) else (sx_let (sv_I V6 69 16 (V6.1 69 5)) (fun V8 => some V8)))) else none) else (sx_let (sv_I V 69 14 (2 : Int32)) (fun V9 => some V9)))
set_option maxRecDepth 20000 in
theorem t_X5_push {g : sx_G} (hG : sx_Go g) {P : Option Value → sv_V → Prop} {Vr : sv_V} (hP : P none Vr) {l1 : Int64} {V : sv_V} (h : F_X5_push l1 V = some Vr) : sv_N g qX5_push 0 0 [(0, .ref 69), (1, .long l1)] [] V P := by
  unfold F_X5_push at h
  refine sx_aload_n (pc := 0) dX5_push_0 sx_m0 ?_
  refine sv_getI (pc := 1) hG dX5_push_1 f_5_96 lay_69 rfl ?_
  refine sx_aload_n (pc := 4) dX5_push_4 sx_m0 ?_
  refine sv_getO (pc := 5) hG dX5_push_5 f_5_45 lay_69 rfl cr_69_0 ?_
  refine sv_getA (pc := 8) hG dX5_push_8 f_5_166 lay_2 rfl cr_2_10 ?_
  refine sx_iconst (pc := 11) (v := 5) dX5_push_11 (by decide) ?_
  refine sv_iald (pc := 12) hG dX5_push_12 lay_6 (by decide) ?_
  refine sx_icmp_ge (pc := 13) (tgt := 26) dX5_push_13 (by decide) (fun c1 => ?_) (fun c1 => ?_)
  · have h := sx_pos c1 h
    refine sx_aload_n (pc := 26) dX5_push_26 sx_m0 ?_
    refine sx_iconst (pc := 27) (v := 2) dX5_push_27 (by decide) ?_
    obtain ⟨V2, hV2⟩ : ∃ z : sv_V, z = sv_I V 69 14 (2 : Int32) := ⟨_, rfl⟩
    have h := sx_letE hV2 h
    refine sv_putI (pc := 28) hG dX5_push_28 f_5_56 lay_69 rfl hV2 ?_
    exact sv_vret (pc := 31) dX5_push_31 rfl h hP
  · have h := sx_neg c1 h
    refine sx_aload_n (pc := 16) dX5_push_16 sx_m0 ?_
    refine sv_getI (pc := 17) hG dX5_push_17 f_5_96 lay_69 rfl ?_
    refine sx_sipush (pc := 20) (v := 256) dX5_push_20 (by decide) ?_
    refine sx_icmp_lt (pc := 23) (tgt := 32) dX5_push_23 (by decide) (fun c3 => ?_) (fun c3 => ?_)
    · have h := sx_pos c3 h
      refine sx_aload_n (pc := 32) dX5_push_32 sx_m0 ?_
      refine sv_getA (pc := 33) hG dX5_push_33 f_5_34 lay_69 rfl cr_69_4 ?_
      refine sx_aload_n (pc := 36) dX5_push_36 sx_m0 ?_
      refine sv_getI (pc := 37) hG dX5_push_37 f_5_96 lay_69 rfl ?_
      refine sx_lload_n (pc := 40) dX5_push_40 sx_m1 ?_
      refine sx_l2i (pc := 41) dX5_push_41 ?_
      obtain ⟨g4, h⟩ := sx_grd h
      obtain ⟨V5, hV5⟩ : ∃ z : sv_V, z = sv_I V 92 (V.1 69 5).toNatClampNeg l1.toInt32 := ⟨_, rfl⟩
      have h := sx_letE hV5 h
      refine sv_iast (pc := 42) hG dX5_push_42 lay_92 g4 hV5 ?_
      refine sx_aload_n (pc := 43) dX5_push_43 sx_m0 ?_
      refine sx_dup (pc := 44) dX5_push_44 rfl ?_
      refine sv_getI (pc := 45) hG dX5_push_45 f_5_96 lay_69 rfl ?_
      refine sx_iconst (pc := 48) (v := 1) dX5_push_48 (by decide) ?_
      refine sx_iadd (pc := 49) dX5_push_49 ?_
      obtain ⟨V6, hV6⟩ : ∃ z : sv_V, z = sv_I V5 69 5 ((V5.1 69 5) + (1 : Int32)) := ⟨_, rfl⟩
      have h := sx_letE hV6 h
      refine sv_putI (pc := 50) hG dX5_push_50 f_5_96 lay_69 rfl hV6 ?_
      refine sx_aload_n (pc := 53) dX5_push_53 sx_m0 ?_
      refine sv_getI (pc := 54) hG dX5_push_54 f_5_169 lay_69 rfl ?_
      refine sx_aload_n (pc := 57) dX5_push_57 sx_m0 ?_
      refine sv_getI (pc := 58) hG dX5_push_58 f_5_96 lay_69 rfl ?_
      refine sx_icmp_ge (pc := 61) (tgt := 72) dX5_push_61 (by decide) (fun c7 => ?_) (fun c7 => ?_)
      · have h := sx_pos c7 h
        exact sv_vret (pc := 72) dX5_push_72 rfl h hP
      · have h := sx_neg c7 h
        refine sx_aload_n (pc := 64) dX5_push_64 sx_m0 ?_
        refine sx_aload_n (pc := 65) dX5_push_65 sx_m0 ?_
        refine sv_getI (pc := 66) hG dX5_push_66 f_5_96 lay_69 rfl ?_
        obtain ⟨V8, hV8⟩ : ∃ z : sv_V, z = sv_I V6 69 16 (V6.1 69 5) := ⟨_, rfl⟩
        have h := sx_letE hV8 h
        refine sv_putI (pc := 69) hG dX5_push_69 f_5_169 lay_69 rfl hV8 ?_
        exact sv_vret (pc := 72) dX5_push_72 rfl h hP
    · have h := sx_neg c3 h
      refine sx_aload_n (pc := 26) dX5_push_26 sx_m0 ?_
      refine sx_iconst (pc := 27) (v := 2) dX5_push_27 (by decide) ?_
      obtain ⟨V9, hV9⟩ : ∃ z : sv_V, z = sv_I V 69 14 (2 : Int32) := ⟨_, rfl⟩
      have h := sx_letE hV9 h
      refine sv_putI (pc := 28) hG dX5_push_28 f_5_56 lay_69 rfl hV9 ?_
      exact sv_vret (pc := 31) dX5_push_31 rfl h hP
theorem dX5_zone_0 : decode cX5_zone 0 = .ok (.aload_n 0, 1) := by decide +kernel
theorem dX5_zone_1 : decode cX5_zone 1 = .ok (.getfield 12, 3) := by decide +kernel
theorem dX5_zone_4 : decode cX5_zone 4 = .ok (.getfield 172, 3) := by decide +kernel
theorem dX5_zone_7 : decode cX5_zone 7 = .ok (.iload_n 1, 1) := by decide +kernel
theorem dX5_zone_8 : decode cX5_zone 8 = .ok (.iaload, 1) := by decide +kernel
theorem dX5_zone_9 : decode cX5_zone 9 = .ok (.ifCond .ne 13, 3) := by decide +kernel
theorem dX5_zone_12 : decode cX5_zone 12 = .ok (.aload_n 0, 1) := by decide +kernel
theorem dX5_zone_13 : decode cX5_zone 13 = .ok (.getfield 49, 3) := by decide +kernel
theorem dX5_zone_16 : decode cX5_zone 16 = .ok (.getfield 175, 3) := by decide +kernel
theorem dX5_zone_19 : decode cX5_zone 19 = .ok (.goto 7, 3) := by decide +kernel
theorem dX5_zone_22 : decode cX5_zone 22 = .ok (.aload_n 0, 1) := by decide +kernel
theorem dX5_zone_23 : decode cX5_zone 23 = .ok (.getfield 38, 3) := by decide +kernel
theorem dX5_zone_26 : decode cX5_zone 26 = .ok (.areturn, 1) := by decide +kernel
def F_X5_zone (l1 : Int32) (V : sv_V) : Option (Nat × sv_V) := if sx_in l1 3 = true then if (V.1 72 l1.toNatClampNeg) = 0 then ((V.2.2 69 6).bind (fun b5 => if lay b5 = .inl 7 then (cr b5 4).bind (fun b8 => some (b8, V)) else none)) else ((V.2.2 69 7).bind (fun b3 => some (b3, V))) else none
set_option maxRecDepth 20000 in
theorem t_X5_zone {g : sx_G} (hG : sx_Go g) {P : Option Value → sv_V → Prop} {r : Nat} {Vr : sv_V} (hP : P (some (.ref r)) Vr) {l1 : Int32} {V : sv_V} (h : F_X5_zone l1 V = some (r, Vr)) : sv_N g qX5_zone 0 0 [(0, .ref 69), (1, .int l1)] [] V P := by
  unfold F_X5_zone at h
  refine sx_aload_n (pc := 0) dX5_zone_0 sx_m0 ?_
  refine sv_getO (pc := 1) hG dX5_zone_1 f_5_12 lay_69 rfl cr_69_1 ?_
  refine sv_getA (pc := 4) hG dX5_zone_4 f_5_172 lay_70 rfl cr_70_7 ?_
  refine sx_iload_n (pc := 7) dX5_zone_7 sx_m1 ?_
  obtain ⟨g1, h⟩ := sx_grd h
  refine sv_iald (pc := 8) hG dX5_zone_8 lay_72 g1 ?_
  refine sx_if_ne (pc := 9) (tgt := 22) dX5_zone_9 (by decide) (fun c2 => ?_) (fun c2 => ?_)
  · have h := sx_neg c2 h
    refine sx_aload_n (pc := 22) dX5_zone_22 sx_m0 ?_
    obtain ⟨b3, g4, h⟩ := sx_bnd h
    refine sv_getV (pc := 23) hG dX5_zone_23 f_5_38 lay_69 rfl rfl g4 ?_
    exact sv_aret (pc := 26) dX5_zone_26 rfl h hP
  · have h := sx_pos c2 h
    refine sx_aload_n (pc := 12) dX5_zone_12 sx_m0 ?_
    obtain ⟨b5, g6, h⟩ := sx_bnd h
    refine sv_getV (pc := 13) hG dX5_zone_13 f_5_49 lay_69 rfl rfl g6 ?_
    obtain ⟨g7, h⟩ := sx_grd h
    obtain ⟨b8, g9, h⟩ := sx_bnd h
    refine sv_getO (pc := 16) hG dX5_zone_16 f_5_175 g7 rfl g9 ?_
    refine sx_goto (pc := 19) (tgt := 26) dX5_zone_19 (by decide) ?_
    exact sv_aret (pc := 26) dX5_zone_26 rfl h hP
theorem dX5_touchBits_0 : decode cX5_touchBits 0 = .ok (.aload_n 0, 1) := by decide +kernel
theorem dX5_touchBits_1 : decode cX5_touchBits 1 = .ok (.getfield 12, 3) := by decide +kernel
theorem dX5_touchBits_4 : decode cX5_touchBits 4 = .ok (.getfield 210, 3) := by decide +kernel
theorem dX5_touchBits_7 : decode cX5_touchBits 7 = .ok (.ifCond .eq 7, 3) := by decide +kernel
theorem dX5_touchBits_10 : decode cX5_touchBits 10 = .ok (.iconst 1, 1) := by decide +kernel
theorem dX5_touchBits_11 : decode cX5_touchBits 11 = .ok (.goto 4, 3) := by decide +kernel
theorem dX5_touchBits_14 : decode cX5_touchBits 14 = .ok (.iconst 0, 1) := by decide +kernel
theorem dX5_touchBits_15 : decode cX5_touchBits 15 = .ok (.aload_n 0, 1) := by decide +kernel
theorem dX5_touchBits_16 : decode cX5_touchBits 16 = .ok (.getfield 12, 3) := by decide +kernel
theorem dX5_touchBits_19 : decode cX5_touchBits 19 = .ok (.getfield 213, 3) := by decide +kernel
theorem dX5_touchBits_22 : decode cX5_touchBits 22 = .ok (.ifCond .eq 7, 3) := by decide +kernel
theorem dX5_touchBits_25 : decode cX5_touchBits 25 = .ok (.iconst 2, 1) := by decide +kernel
theorem dX5_touchBits_26 : decode cX5_touchBits 26 = .ok (.goto 4, 3) := by decide +kernel
theorem dX5_touchBits_29 : decode cX5_touchBits 29 = .ok (.iconst 0, 1) := by decide +kernel
theorem dX5_touchBits_30 : decode cX5_touchBits 30 = .ok (.ior, 1) := by decide +kernel
theorem dX5_touchBits_31 : decode cX5_touchBits 31 = .ok (.ireturn, 1) := by decide +kernel
def B_X5_touchBits_15  (s0 : Int32) (V : sv_V) : Option (Int32 × sv_V) := if (V.1 70 1) = 0 then (some (s0 ||| (0 : Int32), V)) else (some (s0 ||| (2 : Int32), V))
set_option maxRecDepth 20000 in
theorem tB_X5_touchBits_15 {g : sx_G} (hG : sx_Go g) {P : Option Value → sv_V → Prop} {r : Int32} {Vr : sv_V} (hP : P (some (.int r)) Vr)   {s0 : Int32} {V : sv_V} (h : B_X5_touchBits_15  s0 V = some (r, Vr)) : sv_N g qX5_touchBits 0 15 [(0, .ref 69)] [.int s0] V P := by
  unfold B_X5_touchBits_15 at h
  refine sx_aload_n (pc := 15) dX5_touchBits_15 sx_m0 ?_
  refine sv_getO (pc := 16) hG dX5_touchBits_16 f_5_12 lay_69 rfl cr_69_1 ?_
  refine sv_getI (pc := 19) hG dX5_touchBits_19 f_5_213 lay_70 rfl ?_
  refine sx_if_eq (pc := 22) (tgt := 29) dX5_touchBits_22 (by decide) (fun c1 => ?_) (fun c1 => ?_)
  · have h := sx_pos c1 h
    refine sx_iconst (pc := 29) (v := 0) dX5_touchBits_29 (by decide) ?_
    refine sx_ior (pc := 30) dX5_touchBits_30 ?_
    exact sv_iret (pc := 31) dX5_touchBits_31 rfl h hP
  · have h := sx_neg c1 h
    refine sx_iconst (pc := 25) (v := 2) dX5_touchBits_25 (by decide) ?_
    refine sx_goto (pc := 26) (tgt := 30) dX5_touchBits_26 (by decide) ?_
    refine sx_ior (pc := 30) dX5_touchBits_30 ?_
    exact sv_iret (pc := 31) dX5_touchBits_31 rfl h hP
def F_X5_touchBits  (V : sv_V) : Option (Int32 × sv_V) := if (V.1 70 0) = 0 then (B_X5_touchBits_15  (0 : Int32) V) else (B_X5_touchBits_15  (1 : Int32) V)
set_option maxRecDepth 20000 in
theorem t_X5_touchBits {g : sx_G} (hG : sx_Go g) {P : Option Value → sv_V → Prop} {r : Int32} {Vr : sv_V} (hP : P (some (.int r)) Vr)  {V : sv_V} (h : F_X5_touchBits  V = some (r, Vr)) : sv_N g qX5_touchBits 0 0 [(0, .ref 69)] [] V P := by
  unfold F_X5_touchBits at h
  refine sx_aload_n (pc := 0) dX5_touchBits_0 sx_m0 ?_
  refine sv_getO (pc := 1) hG dX5_touchBits_1 f_5_12 lay_69 rfl cr_69_1 ?_
  refine sv_getI (pc := 4) hG dX5_touchBits_4 f_5_210 lay_70 rfl ?_
  refine sx_if_eq (pc := 7) (tgt := 14) dX5_touchBits_7 (by decide) (fun c2 => ?_) (fun c2 => ?_)
  · have h := sx_pos c2 h
    refine sx_iconst (pc := 14) (v := 0) dX5_touchBits_14 (by decide) ?_
    refine sx_wk (sx_s1 sx_m0 sx_s0) ?_
    exact tB_X5_touchBits_15 hG hP  h
  · have h := sx_neg c2 h
    refine sx_iconst (pc := 10) (v := 1) dX5_touchBits_10 (by decide) ?_
    refine sx_goto (pc := 11) (tgt := 15) dX5_touchBits_11 (by decide) ?_
    refine sx_wk (sx_s1 sx_m0 sx_s0) ?_
    exact tB_X5_touchBits_15 hG hP  h
theorem dX5_isZone_0 : decode cX5_isZone 0 = .ok (.iload_n 1, 1) := by decide +kernel
theorem dX5_isZone_1 : decode cX5_isZone 1 = .ok (.iconst 1, 1) := by decide +kernel
theorem dX5_isZone_2 : decode cX5_isZone 2 = .ok (.if_icmp .eq 20, 3) := by decide +kernel
theorem dX5_isZone_5 : decode cX5_isZone 5 = .ok (.iload_n 1, 1) := by decide +kernel
theorem dX5_isZone_6 : decode cX5_isZone 6 = .ok (.ifCond .ne 20, 3) := by decide +kernel
theorem dX5_isZone_9 : decode cX5_isZone 9 = .ok (.aload_n 0, 1) := by decide +kernel
theorem dX5_isZone_10 : decode cX5_isZone 10 = .ok (.getfield 45, 3) := by decide +kernel
theorem dX5_isZone_13 : decode cX5_isZone 13 = .ok (.getfield 166, 3) := by decide +kernel
theorem dX5_isZone_16 : decode cX5_isZone 16 = .ok (.iconst 0, 1) := by decide +kernel
theorem dX5_isZone_17 : decode cX5_isZone 17 = .ok (.iaload, 1) := by decide +kernel
theorem dX5_isZone_18 : decode cX5_isZone 18 = .ok (.iconst 2, 1) := by decide +kernel
theorem dX5_isZone_19 : decode cX5_isZone 19 = .ok (.if_icmp .ne 7, 3) := by decide +kernel
theorem dX5_isZone_22 : decode cX5_isZone 22 = .ok (.iconst 1, 1) := by decide +kernel
theorem dX5_isZone_23 : decode cX5_isZone 23 = .ok (.goto 4, 3) := by decide +kernel
theorem dX5_isZone_26 : decode cX5_isZone 26 = .ok (.iconst 0, 1) := by decide +kernel
theorem dX5_isZone_27 : decode cX5_isZone 27 = .ok (.ireturn, 1) := by decide +kernel
def B_X5_isZone_22   (V : sv_V) : Option (Int32 × sv_V) := some ((1 : Int32), V)
set_option maxRecDepth 20000 in
theorem tB_X5_isZone_22 {g : sx_G} (hG : sx_Go g) {P : Option Value → sv_V → Prop} {r : Int32} {Vr : sv_V} (hP : P (some (.int r)) Vr)    {V : sv_V} (h : B_X5_isZone_22   V = some (r, Vr)) : sv_N g qX5_isZone 0 22 [] [] V P := by
  unfold B_X5_isZone_22 at h
  refine sx_iconst (pc := 22) (v := 1) dX5_isZone_22 (by decide) ?_
  refine sx_goto (pc := 23) (tgt := 27) dX5_isZone_23 (by decide) ?_
  exact sv_zret (pc := 27) dX5_isZone_27 rfl rfl h hP
def F_X5_isZone (l1 : Int32) (V : sv_V) : Option (Int32 × sv_V) := if l1 = (1 : Int32) then (B_X5_isZone_22   V) else (if l1 = 0 then (if (V.1 6 (0 : Int32).toNatClampNeg) = (2 : Int32) then (B_X5_isZone_22   V) else (some ((0 : Int32), V))) else (some ((0 : Int32), V)))
set_option maxRecDepth 20000 in
theorem t_X5_isZone {g : sx_G} (hG : sx_Go g) {P : Option Value → sv_V → Prop} {r : Int32} {Vr : sv_V} (hP : P (some (.int r)) Vr) {l1 : Int32} {V : sv_V} (h : F_X5_isZone l1 V = some (r, Vr)) : sv_N g qX5_isZone 0 0 [(0, .ref 69), (1, .int l1)] [] V P := by
  unfold F_X5_isZone at h
  refine sx_iload_n (pc := 0) dX5_isZone_0 sx_m1 ?_
  refine sx_iconst (pc := 1) (v := 1) dX5_isZone_1 (by decide) ?_
  refine sx_icmp_eq (pc := 2) (tgt := 22) dX5_isZone_2 (by decide) (fun c1 => ?_) (fun c1 => ?_)
  · have h := sx_pos c1 h
    refine sx_wk sx_s0 ?_
    exact tB_X5_isZone_22 hG hP  h
  · have h := sx_neg c1 h
    refine sx_iload_n (pc := 5) dX5_isZone_5 sx_m1 ?_
    refine sx_if_ne (pc := 6) (tgt := 26) dX5_isZone_6 (by decide) (fun c2 => ?_) (fun c2 => ?_)
    · have h := sx_neg c2 h
      refine sx_iconst (pc := 26) (v := 0) dX5_isZone_26 (by decide) ?_
      exact sv_zret (pc := 27) dX5_isZone_27 rfl rfl h hP
    · have h := sx_pos c2 h
      refine sx_aload_n (pc := 9) dX5_isZone_9 sx_m0 ?_
      refine sv_getO (pc := 10) hG dX5_isZone_10 f_5_45 lay_69 rfl cr_69_0 ?_
      refine sv_getA (pc := 13) hG dX5_isZone_13 f_5_166 lay_2 rfl cr_2_10 ?_
      refine sx_iconst (pc := 16) (v := 0) dX5_isZone_16 (by decide) ?_
      refine sv_iald (pc := 17) hG dX5_isZone_17 lay_6 (by decide) ?_
      refine sx_iconst (pc := 18) (v := 2) dX5_isZone_18 (by decide) ?_
      refine sx_icmp_ne (pc := 19) (tgt := 26) dX5_isZone_19 (by decide) (fun c3 => ?_) (fun c3 => ?_)
      · have h := sx_neg c3 h
        refine sx_iconst (pc := 26) (v := 0) dX5_isZone_26 (by decide) ?_
        exact sv_zret (pc := 27) dX5_isZone_27 rfl rfl h hP
      · have h := sx_pos c3 h
        refine sx_wk sx_s0 ?_
        exact tB_X5_isZone_22 hG hP  h
theorem dX5_setZones_0 : decode cX5_setZones 0 = .ok (.aload_n 0, 1) := by decide +kernel
theorem dX5_setZones_1 : decode cX5_setZones 1 = .ok (.iload_n 2, 1) := by decide +kernel
theorem dX5_setZones_2 : decode cX5_setZones 2 = .ok (.invokevirtual 298, 3) := by decide +kernel
theorem dX5_setZones_5 : decode cX5_setZones 5 = .ok (.ifCond .ne 9, 3) := by decide +kernel
theorem dX5_setZones_8 : decode cX5_setZones 8 = .ok (.aload_n 0, 1) := by decide +kernel
theorem dX5_setZones_9 : decode cX5_setZones 9 = .ok (.iconst 5, 1) := by decide +kernel
theorem dX5_setZones_10 : decode cX5_setZones 10 = .ok (.putfield 56, 3) := by decide +kernel
theorem dX5_setZones_13 : decode cX5_setZones 13 = .ok (.return_, 1) := by decide +kernel
theorem dX5_setZones_14 : decode cX5_setZones 14 = .ok (.iconst 0, 1) := by decide +kernel
theorem dX5_setZones_15 : decode cX5_setZones 15 = .ok (.istore_n 3, 1) := by decide +kernel
theorem dX5_setZones_16 : decode cX5_setZones 16 = .ok (.iload_n 3, 1) := by decide +kernel
theorem dX5_setZones_17 : decode cX5_setZones 17 = .ok (.iconst 3, 1) := by decide +kernel
theorem dX5_setZones_18 : decode cX5_setZones 18 = .ok (.if_icmp .ge 33, 3) := by decide +kernel
theorem dX5_setZones_21 : decode cX5_setZones 21 = .ok (.iload_n 1, 1) := by decide +kernel
theorem dX5_setZones_22 : decode cX5_setZones 22 = .ok (.bipush 22, 2) := by decide +kernel
theorem dX5_setZones_24 : decode cX5_setZones 24 = .ok (.if_icmp .eq 11, 3) := by decide +kernel
theorem dX5_setZones_27 : decode cX5_setZones 27 = .ok (.iload_n 1, 1) := by decide +kernel
theorem dX5_setZones_28 : decode cX5_setZones 28 = .ok (.bipush 19, 2) := by decide +kernel
theorem dX5_setZones_30 : decode cX5_setZones 30 = .ok (.iload_n 3, 1) := by decide +kernel
theorem dX5_setZones_31 : decode cX5_setZones 31 = .ok (.iadd, 1) := by decide +kernel
theorem dX5_setZones_32 : decode cX5_setZones 32 = .ok (.if_icmp .ne 13, 3) := by decide +kernel
theorem dX5_setZones_35 : decode cX5_setZones 35 = .ok (.aload_n 0, 1) := by decide +kernel
theorem dX5_setZones_36 : decode cX5_setZones 36 = .ok (.getfield 12, 3) := by decide +kernel
theorem dX5_setZones_39 : decode cX5_setZones 39 = .ok (.getfield 172, 3) := by decide +kernel
theorem dX5_setZones_42 : decode cX5_setZones 42 = .ok (.iload_n 3, 1) := by decide +kernel
theorem dX5_setZones_43 : decode cX5_setZones 43 = .ok (.iload_n 2, 1) := by decide +kernel
theorem dX5_setZones_44 : decode cX5_setZones 44 = .ok (.iastore, 1) := by decide +kernel
theorem dX5_setZones_45 : decode cX5_setZones 45 = .ok (.iinc 3 1, 3) := by decide +kernel
theorem dX5_setZones_48 : decode cX5_setZones 48 = .ok (.goto (-32), 3) := by decide +kernel
theorem dX5_setZones_51 : decode cX5_setZones 51 = .ok (.return_, 1) := by decide +kernel
def B_X5_setZones_45 (N : Nat) (k16 : Int32 → Int32 → Int32 → sv_V → Option sv_V) (l1 : Int32) (l2 : Int32) (l3 : Int32) (V : sv_V) : Option sv_V := sx_let (l3 + 1) (fun x1 => k16 l1 l2 x1 V)
set_option maxRecDepth 20000 in
theorem tB_X5_setZones_45 {g : sx_G} (hG : sx_Go g) {P : Option Value → sv_V → Prop} {Vr : sv_V} (hP : P none Vr) {N : Nat} {k16 : Int32 → Int32 → Int32 → sv_V → Option sv_V} (hk16 : ∀ (l1 : Int32) (l2 : Int32) (l3 : Int32) (V : sv_V), k16 l1 l2 l3 V = some Vr → sv_N g qX5_setZones 1 16 [(0, .ref 69), (1, .int l1), (2, .int l2), (3, .int l3)] [] V P) {l1 : Int32} {l2 : Int32} {l3 : Int32} {V : sv_V} (h : B_X5_setZones_45 N k16 l1 l2 l3 V = some Vr) : sv_N g qX5_setZones 1 45 [(0, .ref 69), (1, .int l1), (2, .int l2), (3, .int l3)] [] V P := by
  unfold B_X5_setZones_45 at h
  obtain ⟨x1, hx1⟩ : ∃ z : Int32, z = l3 + 1 := ⟨_, rfl⟩
  have h := sx_letE hx1 h
  refine sx_iinc (pc := 45) (v := x1) (lo' := [(3, .int x1), (0, .ref 69), (1, .int l1), (2, .int l2)]) dX5_setZones_45 sx_m3 (by rw [hx1]; rfl) (by decide) rfl ?_
  refine sx_goto (pc := 48) (tgt := 16) dX5_setZones_48 (by decide) ?_
  refine sx_wk (sx_s1 sx_m1 (sx_s1 sx_m2 (sx_s1 sx_m3 (sx_s1 sx_m0 sx_s0)))) ?_
  exact hk16 _ _ _ _ h
def B_X5_setZones_35 (N : Nat) (k16 : Int32 → Int32 → Int32 → sv_V → Option sv_V) (l1 : Int32) (l2 : Int32) (l3 : Int32) (V : sv_V) : Option sv_V := if sx_in l3 3 = true then sx_let (sv_I V 72 l3.toNatClampNeg l2) (fun V3 => B_X5_setZones_45 N k16 l1 l2 l3 V3) else none
set_option maxRecDepth 20000 in
theorem tB_X5_setZones_35 {g : sx_G} (hG : sx_Go g) {P : Option Value → sv_V → Prop} {Vr : sv_V} (hP : P none Vr) {N : Nat} {k16 : Int32 → Int32 → Int32 → sv_V → Option sv_V} (hk16 : ∀ (l1 : Int32) (l2 : Int32) (l3 : Int32) (V : sv_V), k16 l1 l2 l3 V = some Vr → sv_N g qX5_setZones 1 16 [(0, .ref 69), (1, .int l1), (2, .int l2), (3, .int l3)] [] V P) {l1 : Int32} {l2 : Int32} {l3 : Int32} {V : sv_V} (h : B_X5_setZones_35 N k16 l1 l2 l3 V = some Vr) : sv_N g qX5_setZones 1 35 [(0, .ref 69), (1, .int l1), (2, .int l2), (3, .int l3)] [] V P := by
  unfold B_X5_setZones_35 at h
  refine sx_aload_n (pc := 35) dX5_setZones_35 sx_m0 ?_
  refine sv_getO (pc := 36) hG dX5_setZones_36 f_5_12 lay_69 rfl cr_69_1 ?_
  refine sv_getA (pc := 39) hG dX5_setZones_39 f_5_172 lay_70 rfl cr_70_7 ?_
  refine sx_iload_n (pc := 42) dX5_setZones_42 sx_m3 ?_
  refine sx_iload_n (pc := 43) dX5_setZones_43 sx_m2 ?_
  obtain ⟨g2, h⟩ := sx_grd h
  obtain ⟨V3, hV3⟩ : ∃ z : sv_V, z = sv_I V 72 l3.toNatClampNeg l2 := ⟨_, rfl⟩
  have h := sx_letE hV3 h
  refine sv_iast (pc := 44) hG dX5_setZones_44 lay_72 g2 hV3 ?_
  refine sx_wk (sx_s1 sx_m0 (sx_s1 sx_m1 (sx_s1 sx_m2 (sx_s1 sx_m3 sx_s0)))) ?_
  exact tB_X5_setZones_45 hG hP hk16 h
def B_X5_setZones_16 (N : Nat) (k16 : Int32 → Int32 → Int32 → sv_V → Option sv_V) (l1 : Int32) (l2 : Int32) (l3 : Int32) (V : sv_V) : Option sv_V := if (3 : Int32) ≤ l3 then (some V) else (if l1 = (22 : Int32) then (B_X5_setZones_35 N k16 l1 l2 l3 V) else (if l1 = ((19 : Int32) + l3) then (B_X5_setZones_35 N k16 l1 l2 l3 V) else (B_X5_setZones_45 N k16 l1 l2 l3 V)))
set_option maxRecDepth 20000 in
theorem tB_X5_setZones_16 {g : sx_G} (hG : sx_Go g) {P : Option Value → sv_V → Prop} {Vr : sv_V} (hP : P none Vr) {N : Nat} {k16 : Int32 → Int32 → Int32 → sv_V → Option sv_V} (hk16 : ∀ (l1 : Int32) (l2 : Int32) (l3 : Int32) (V : sv_V), k16 l1 l2 l3 V = some Vr → sv_N g qX5_setZones 1 16 [(0, .ref 69), (1, .int l1), (2, .int l2), (3, .int l3)] [] V P) {l1 : Int32} {l2 : Int32} {l3 : Int32} {V : sv_V} (h : B_X5_setZones_16 N k16 l1 l2 l3 V = some Vr) : sv_N g qX5_setZones 1 16 [(0, .ref 69), (1, .int l1), (2, .int l2), (3, .int l3)] [] V P := by
  unfold B_X5_setZones_16 at h
  refine sx_iload_n (pc := 16) dX5_setZones_16 sx_m3 ?_
  refine sx_iconst (pc := 17) (v := 3) dX5_setZones_17 (by decide) ?_
  refine sx_icmp_ge (pc := 18) (tgt := 51) dX5_setZones_18 (by decide) (fun c4 => ?_) (fun c4 => ?_)
  · have h := sx_pos c4 h
    exact sv_vret (pc := 51) dX5_setZones_51 rfl h hP
  · have h := sx_neg c4 h
    refine sx_iload_n (pc := 21) dX5_setZones_21 sx_m1 ?_
    refine sx_bipush (pc := 22) (v := 22) dX5_setZones_22 (by decide) ?_
    refine sx_icmp_eq (pc := 24) (tgt := 35) dX5_setZones_24 (by decide) (fun c5 => ?_) (fun c5 => ?_)
    · have h := sx_pos c5 h
      refine sx_wk (sx_s1 sx_m0 (sx_s1 sx_m1 (sx_s1 sx_m2 (sx_s1 sx_m3 sx_s0)))) ?_
      exact tB_X5_setZones_35 hG hP hk16 h
    · have h := sx_neg c5 h
      refine sx_iload_n (pc := 27) dX5_setZones_27 sx_m1 ?_
      refine sx_bipush (pc := 28) (v := 19) dX5_setZones_28 (by decide) ?_
      refine sx_iload_n (pc := 30) dX5_setZones_30 sx_m3 ?_
      refine sx_iadd (pc := 31) dX5_setZones_31 ?_
      refine sx_icmp_ne (pc := 32) (tgt := 45) dX5_setZones_32 (by decide) (fun c6 => ?_) (fun c6 => ?_)
      · have h := sx_neg c6 h
        refine sx_wk (sx_s1 sx_m0 (sx_s1 sx_m1 (sx_s1 sx_m2 (sx_s1 sx_m3 sx_s0)))) ?_
        exact tB_X5_setZones_45 hG hP hk16 h
      · have h := sx_pos c6 h
        refine sx_wk (sx_s1 sx_m0 (sx_s1 sx_m1 (sx_s1 sx_m2 (sx_s1 sx_m3 sx_s0)))) ?_
        exact tB_X5_setZones_35 hG hP hk16 h
theorem tL_X5_setZones_16 {g : sx_G} (hG : sx_Go g) {P : Option Value → sv_V → Prop} {Vr : sv_V} (hP : P none Vr) {N : Nat}   : ∀ (n : Nat) (l1 : Int32) (l2 : Int32) (l3 : Int32) (V : sv_V), sx_lp4 (B_X5_setZones_16 N ) n l1 l2 l3 V = some Vr → sv_N g qX5_setZones 1 16 [(0, .ref 69), (1, .int l1), (2, .int l2), (3, .int l3)] [] V P :=
  sx_lp4_ind (fun k0 ih _ _ _ V h => tB_X5_setZones_16 hG hP ih h)
def F_X5_setZones (N : Nat) (l1 : Int32) (l2 : Int32) (V : sv_V) : Option sv_V := (F_X5_isZone l2 V).bind (fun (x9, V7) => if x9 = 0 then (sx_let (sv_I V7 69 14 (5 : Int32)) (fun V11 => some V11)) else (sx_lp4 (B_X5_setZones_16 N ) N l1 l2 (0 : Int32) V7))
set_option maxRecDepth 20000 in
theorem t_X5_setZones {g : sx_G} (hG : sx_Go g) {P : Option Value → sv_V → Prop} {Vr : sv_V} (hP : P none Vr) {N : Nat} {l1 : Int32} {l2 : Int32} {V : sv_V} (h : F_X5_setZones N l1 l2 V = some Vr) : sv_N g qX5_setZones 1 0 [(0, .ref 69), (1, .int l1), (2, .int l2)] [] V P := by
  unfold F_X5_setZones at h
  refine sx_aload_n (pc := 0) dX5_setZones_0 sx_m0 ?_
  refine sx_iload_n (pc := 1) dX5_setZones_1 sx_m2 ?_
  obtain ⟨⟨x9, V7⟩, g8, h⟩ := sx_bnd h
  refine sv_cV (pc := 2) (y := qX5_isZone) (o := (some (.int x9))) (as := [.int l2]) (V1 := V7) hG dX5_setZones_2 l_X5_298 y0X5_isZone yvX5_isZone rfl (Nat.le_of_ble_eq_true rfl) lay_69 kr_5 (by decide) (Nat.le_of_ble_eq_true rfl) rfl rfl rfl (t_X5_isZone hG ⟨rfl, rfl⟩ g8) ?_
  refine sx_if_ne (pc := 5) (tgt := 14) dX5_setZones_5 (by decide) (fun c10 => ?_) (fun c10 => ?_)
  · have h := sx_neg c10 h
    refine sx_iconst (pc := 14) (v := 0) dX5_setZones_14 (by decide) ?_
    refine sx_istore_n (pc := 15) (lo' := [(3, .int (0 : Int32)), (0, .ref 69), (1, .int l1), (2, .int l2)]) dX5_setZones_15 (by decide) rfl ?_
    refine sx_wk (sx_s1 sx_m1 (sx_s1 sx_m2 (sx_s1 sx_m3 (sx_s1 sx_m0 sx_s0)))) ?_
    exact tL_X5_setZones_16 hG hP  N _ _ _ _ h
  · have h := sx_pos c10 h
    refine sx_aload_n (pc := 8) dX5_setZones_8 sx_m0 ?_
    refine sx_iconst (pc := 9) (v := 5) dX5_setZones_9 (by decide) ?_
    obtain ⟨V11, hV11⟩ : ∃ z : sv_V, z = sv_I V7 69 14 (5 : Int32) := ⟨_, rfl⟩
    have h := sx_letE hV11 h
    refine sv_putI (pc := 10) hG dX5_setZones_10 f_5_56 lay_69 rfl hV11 ?_
    exact sv_vret (pc := 13) dX5_setZones_13 rfl h hP
theorem dX5_setLoop_0 : decode cX5_setLoop 0 = .ok (.iload_n 1, 1) := by decide +kernel
theorem dX5_setLoop_1 : decode cX5_setLoop 1 = .ok (.iconst 1, 1) := by decide +kernel
theorem dX5_setLoop_2 : decode cX5_setLoop 2 = .ok (.if_icmp .lt 10, 3) := by decide +kernel
theorem dX5_setLoop_5 : decode cX5_setLoop 5 = .ok (.iload_n 1, 1) := by decide +kernel
theorem dX5_setLoop_6 : decode cX5_setLoop 6 = .ok (.ldc_w 301, 3) := by decide +kernel
theorem dX5_setLoop_9 : decode cX5_setLoop 9 = .ok (.if_icmp .le 10, 3) := by decide +kernel
theorem dX5_setLoop_12 : decode cX5_setLoop 12 = .ok (.aload_n 0, 1) := by decide +kernel
theorem dX5_setLoop_13 : decode cX5_setLoop 13 = .ok (.bipush 11, 2) := by decide +kernel
theorem dX5_setLoop_15 : decode cX5_setLoop 15 = .ok (.putfield 56, 3) := by decide +kernel
theorem dX5_setLoop_18 : decode cX5_setLoop 18 = .ok (.return_, 1) := by decide +kernel
theorem dX5_setLoop_19 : decode cX5_setLoop 19 = .ok (.aload_n 0, 1) := by decide +kernel
theorem dX5_setLoop_20 : decode cX5_setLoop 20 = .ok (.getfield 12, 3) := by decide +kernel
theorem dX5_setLoop_23 : decode cX5_setLoop 23 = .ok (.iload_n 1, 1) := by decide +kernel
theorem dX5_setLoop_24 : decode cX5_setLoop 24 = .ok (.putfield 163, 3) := by decide +kernel
theorem dX5_setLoop_27 : decode cX5_setLoop 27 = .ok (.return_, 1) := by decide +kernel
def F_X5_setLoop (l1 : Int32) (V : sv_V) : Option sv_V := if l1 < (1 : Int32) then (sx_let (sv_I V 69 14 (11 : Int32)) (fun V2 => some V2)) else (if l1 ≤ (65535 : Int32) then (sx_let (sv_I V 70 8 l1) (fun V4 => some V4)) else (sx_let (sv_I V 69 14 (11 : Int32)) (fun V5 => some V5)))
set_option maxRecDepth 20000 in
theorem t_X5_setLoop {g : sx_G} (hG : sx_Go g) {P : Option Value → sv_V → Prop} {Vr : sv_V} (hP : P none Vr) {l1 : Int32} {V : sv_V} (h : F_X5_setLoop l1 V = some Vr) : sv_N g qX5_setLoop 0 0 [(0, .ref 69), (1, .int l1)] [] V P := by
  unfold F_X5_setLoop at h
  refine sx_iload_n (pc := 0) dX5_setLoop_0 sx_m1 ?_
  refine sx_iconst (pc := 1) (v := 1) dX5_setLoop_1 (by decide) ?_
  refine sx_icmp_lt (pc := 2) (tgt := 12) dX5_setLoop_2 (by decide) (fun c1 => ?_) (fun c1 => ?_)
  · have h := sx_pos c1 h
    refine sx_aload_n (pc := 12) dX5_setLoop_12 sx_m0 ?_
    refine sx_bipush (pc := 13) (v := 11) dX5_setLoop_13 (by decide) ?_
    obtain ⟨V2, hV2⟩ : ∃ z : sv_V, z = sv_I V 69 14 (11 : Int32) := ⟨_, rfl⟩
    have h := sx_letE hV2 h
    refine sv_putI (pc := 15) hG dX5_setLoop_15 f_5_56 lay_69 rfl hV2 ?_
    exact sv_vret (pc := 18) dX5_setLoop_18 rfl h hP
  · have h := sx_neg c1 h
    refine sx_iload_n (pc := 5) dX5_setLoop_5 sx_m1 ?_
    refine sx_ldcw (pc := 6) dX5_setLoop_6 k_X5_301 ?_
    refine sx_icmp_le (pc := 9) (tgt := 19) dX5_setLoop_9 (by decide) (fun c3 => ?_) (fun c3 => ?_)
    · have h := sx_pos c3 h
      refine sx_aload_n (pc := 19) dX5_setLoop_19 sx_m0 ?_
      refine sv_getO (pc := 20) hG dX5_setLoop_20 f_5_12 lay_69 rfl cr_69_1 ?_
      refine sx_iload_n (pc := 23) dX5_setLoop_23 sx_m1 ?_
      obtain ⟨V4, hV4⟩ : ∃ z : sv_V, z = sv_I V 70 8 l1 := ⟨_, rfl⟩
      have h := sx_letE hV4 h
      refine sv_putI (pc := 24) hG dX5_setLoop_24 f_5_163 lay_70 rfl hV4 ?_
      exact sv_vret (pc := 27) dX5_setLoop_27 rfl h hP
    · have h := sx_neg c3 h
      refine sx_aload_n (pc := 12) dX5_setLoop_12 sx_m0 ?_
      refine sx_bipush (pc := 13) (v := 11) dX5_setLoop_13 (by decide) ?_
      obtain ⟨V5, hV5⟩ : ∃ z : sv_V, z = sv_I V 69 14 (11 : Int32) := ⟨_, rfl⟩
      have h := sx_letE hV5 h
      refine sv_putI (pc := 15) hG dX5_setLoop_15 f_5_56 lay_69 rfl hV5 ?_
      exact sv_vret (pc := 18) dX5_setLoop_18 rfl h hP
theorem dX5_setShift_0 : decode cX5_setShift 0 = .ok (.iload_n 1, 1) := by decide +kernel
theorem dX5_setShift_1 : decode cX5_setShift 1 = .ok (.ifCond .lt 9, 3) := by decide +kernel
theorem dX5_setShift_4 : decode cX5_setShift 4 = .ok (.iload_n 1, 1) := by decide +kernel
theorem dX5_setShift_5 : decode cX5_setShift 5 = .ok (.bipush 6, 2) := by decide +kernel
theorem dX5_setShift_7 : decode cX5_setShift 7 = .ok (.if_icmp .le 10, 3) := by decide +kernel
theorem dX5_setShift_10 : decode cX5_setShift 10 = .ok (.aload_n 0, 1) := by decide +kernel
theorem dX5_setShift_11 : decode cX5_setShift 11 = .ok (.bipush 11, 2) := by decide +kernel
theorem dX5_setShift_13 : decode cX5_setShift 13 = .ok (.putfield 56, 3) := by decide +kernel
theorem dX5_setShift_16 : decode cX5_setShift 16 = .ok (.return_, 1) := by decide +kernel
theorem dX5_setShift_17 : decode cX5_setShift 17 = .ok (.aload_n 0, 1) := by decide +kernel
theorem dX5_setShift_18 : decode cX5_setShift 18 = .ok (.getfield 49, 3) := by decide +kernel
theorem dX5_setShift_21 : decode cX5_setShift 21 = .ok (.getfield 272, 3) := by decide +kernel
theorem dX5_setShift_24 : decode cX5_setShift 24 = .ok (.bipush 6, 2) := by decide +kernel
theorem dX5_setShift_26 : decode cX5_setShift 26 = .ok (.iload_n 1, 1) := by decide +kernel
theorem dX5_setShift_27 : decode cX5_setShift 27 = .ok (.iastore, 1) := by decide +kernel
theorem dX5_setShift_28 : decode cX5_setShift 28 = .ok (.return_, 1) := by decide +kernel
def F_X5_setShift (l1 : Int32) (V : sv_V) : Option sv_V := if l1 < 0 then (sx_let (sv_I V 69 14 (11 : Int32)) (fun V2 => some V2)) else (if l1 ≤ (6 : Int32) then ((V.2.2 69 6).bind (fun b4 => if lay b4 = .inl 7 then (cr b4 5).bind (fun b7 => (sv_len 0 b7).bind (fun n9 => if sx_in (6 : Int32) n9 = true then sx_let (sv_I V b7 (6 : Int32).toNatClampNeg l1) (fun V12 => some V12) else none)) else none)) else (sx_let (sv_I V 69 14 (11 : Int32)) (fun V13 => some V13)))
set_option maxRecDepth 20000 in
theorem t_X5_setShift {g : sx_G} (hG : sx_Go g) {P : Option Value → sv_V → Prop} {Vr : sv_V} (hP : P none Vr) {l1 : Int32} {V : sv_V} (h : F_X5_setShift l1 V = some Vr) : sv_N g qX5_setShift 0 0 [(0, .ref 69), (1, .int l1)] [] V P := by
  unfold F_X5_setShift at h
  refine sx_iload_n (pc := 0) dX5_setShift_0 sx_m1 ?_
  refine sx_if_lt (pc := 1) (tgt := 10) dX5_setShift_1 (by decide) (fun c1 => ?_) (fun c1 => ?_)
  · have h := sx_pos c1 h
    refine sx_aload_n (pc := 10) dX5_setShift_10 sx_m0 ?_
    refine sx_bipush (pc := 11) (v := 11) dX5_setShift_11 (by decide) ?_
    obtain ⟨V2, hV2⟩ : ∃ z : sv_V, z = sv_I V 69 14 (11 : Int32) := ⟨_, rfl⟩
    have h := sx_letE hV2 h
    refine sv_putI (pc := 13) hG dX5_setShift_13 f_5_56 lay_69 rfl hV2 ?_
    exact sv_vret (pc := 16) dX5_setShift_16 rfl h hP
  · have h := sx_neg c1 h
    refine sx_iload_n (pc := 4) dX5_setShift_4 sx_m1 ?_
    refine sx_bipush (pc := 5) (v := 6) dX5_setShift_5 (by decide) ?_
    refine sx_icmp_le (pc := 7) (tgt := 17) dX5_setShift_7 (by decide) (fun c3 => ?_) (fun c3 => ?_)
    · have h := sx_pos c3 h
      refine sx_aload_n (pc := 17) dX5_setShift_17 sx_m0 ?_
      obtain ⟨b4, g5, h⟩ := sx_bnd h
      refine sv_getV (pc := 18) hG dX5_setShift_18 f_5_49 lay_69 rfl rfl g5 ?_
      obtain ⟨g6, h⟩ := sx_grd h
      obtain ⟨b7, g8, h⟩ := sx_bnd h
      refine sv_getA (pc := 21) hG dX5_setShift_21 f_5_272 g6 rfl g8 ?_
      refine sx_bipush (pc := 24) (v := 6) dX5_setShift_24 (by decide) ?_
      refine sx_iload_n (pc := 26) dX5_setShift_26 sx_m1 ?_
      obtain ⟨n9, g10, h⟩ := sx_bnd h
      obtain ⟨g11, h⟩ := sx_grd h
      obtain ⟨V12, hV12⟩ : ∃ z : sv_V, z = sv_I V b7 (6 : Int32).toNatClampNeg l1 := ⟨_, rfl⟩
      have h := sx_letE hV12 h
      refine sv_iast (pc := 27) hG dX5_setShift_27 (sv_len_e g10) g11 hV12 ?_
      exact sv_vret (pc := 28) dX5_setShift_28 rfl h hP
    · have h := sx_neg c3 h
      refine sx_aload_n (pc := 10) dX5_setShift_10 sx_m0 ?_
      refine sx_bipush (pc := 11) (v := 11) dX5_setShift_11 (by decide) ?_
      obtain ⟨V13, hV13⟩ : ∃ z : sv_V, z = sv_I V 69 14 (11 : Int32) := ⟨_, rfl⟩
      have h := sx_letE hV13 h
      refine sv_putI (pc := 13) hG dX5_setShift_13 f_5_56 lay_69 rfl hV13 ?_
      exact sv_vret (pc := 16) dX5_setShift_16 rfl h hP
theorem dX5_jump_0 : decode cX5_jump 0 = .ok (.aload_n 0, 1) := by decide +kernel
theorem dX5_jump_1 : decode cX5_jump 1 = .ok (.getfield 87, 3) := by decide +kernel
theorem dX5_jump_4 : decode cX5_jump 4 = .ok (.i2l, 1) := by decide +kernel
theorem dX5_jump_5 : decode cX5_jump 5 = .ok (.aload_n 0, 1) := by decide +kernel
theorem dX5_jump_6 : decode cX5_jump 6 = .ok (.getfield 41, 3) := by decide +kernel
theorem dX5_jump_9 : decode cX5_jump 9 = .ok (.i2l, 1) := by decide +kernel
theorem dX5_jump_10 : decode cX5_jump 10 = .ok (.ladd, 1) := by decide +kernel
theorem dX5_jump_11 : decode cX5_jump 11 = .ok (.iload_n 1, 1) := by decide +kernel
theorem dX5_jump_12 : decode cX5_jump 12 = .ok (.i2l, 1) := by decide +kernel
theorem dX5_jump_13 : decode cX5_jump 13 = .ok (.ladd, 1) := by decide +kernel
theorem dX5_jump_14 : decode cX5_jump 14 = .ok (.lstore_n 2, 1) := by decide +kernel
theorem dX5_jump_15 : decode cX5_jump 15 = .ok (.lload_n 2, 1) := by decide +kernel
theorem dX5_jump_16 : decode cX5_jump 16 = .ok (.aload_n 0, 1) := by decide +kernel
theorem dX5_jump_17 : decode cX5_jump 17 = .ok (.getfield 87, 3) := by decide +kernel
theorem dX5_jump_20 : decode cX5_jump 20 = .ok (.i2l, 1) := by decide +kernel
theorem dX5_jump_21 : decode cX5_jump 21 = .ok (.lcmp, 1) := by decide +kernel
theorem dX5_jump_22 : decode cX5_jump 22 = .ok (.ifCond .lt 13, 3) := by decide +kernel
theorem dX5_jump_25 : decode cX5_jump 25 = .ok (.lload_n 2, 1) := by decide +kernel
theorem dX5_jump_26 : decode cX5_jump 26 = .ok (.aload_n 0, 1) := by decide +kernel
theorem dX5_jump_27 : decode cX5_jump 27 = .ok (.getfield 90, 3) := by decide +kernel
theorem dX5_jump_30 : decode cX5_jump 30 = .ok (.i2l, 1) := by decide +kernel
theorem dX5_jump_31 : decode cX5_jump 31 = .ok (.lcmp, 1) := by decide +kernel
theorem dX5_jump_32 : decode cX5_jump 32 = .ok (.ifCond .le 10, 3) := by decide +kernel
theorem dX5_jump_35 : decode cX5_jump 35 = .ok (.aload_n 0, 1) := by decide +kernel
theorem dX5_jump_36 : decode cX5_jump 36 = .ok (.bipush 8, 2) := by decide +kernel
theorem dX5_jump_38 : decode cX5_jump 38 = .ok (.putfield 56, 3) := by decide +kernel
theorem dX5_jump_41 : decode cX5_jump 41 = .ok (.return_, 1) := by decide +kernel
theorem dX5_jump_42 : decode cX5_jump 42 = .ok (.aload_n 0, 1) := by decide +kernel
theorem dX5_jump_43 : decode cX5_jump 43 = .ok (.lload_n 2, 1) := by decide +kernel
theorem dX5_jump_44 : decode cX5_jump 44 = .ok (.l2i, 1) := by decide +kernel
theorem dX5_jump_45 : decode cX5_jump 45 = .ok (.putfield 93, 3) := by decide +kernel
theorem dX5_jump_48 : decode cX5_jump 48 = .ok (.return_, 1) := by decide +kernel
def F_X5_jump (l1 : Int32) (V : sv_V) : Option sv_V := sx_let ((((V.1 69 9).toInt64) + ((V.1 69 15).toInt64)) + l1.toInt64) (fun x1 => if (lg_cmp x1 ((V.1 69 9).toInt64)) < 0 then (sx_let (sv_I V 69 14 (8 : Int32)) (fun V3 => some V3)) else (if (lg_cmp x1 ((V.1 69 10).toInt64)) ≤ 0 then (sx_let (sv_I V 69 11 x1.toInt32) (fun V5 => some V5)) else (sx_let (sv_I V 69 14 (8 : Int32)) (fun V6 => some V6))))
set_option maxRecDepth 20000 in
theorem t_X5_jump {g : sx_G} (hG : sx_Go g) {P : Option Value → sv_V → Prop} {Vr : sv_V} (hP : P none Vr) {l1 : Int32} {V : sv_V} (h : F_X5_jump l1 V = some Vr) : sv_N g qX5_jump 0 0 [(0, .ref 69), (1, .int l1)] [] V P := by
  unfold F_X5_jump at h
  refine sx_aload_n (pc := 0) dX5_jump_0 sx_m0 ?_
  refine sv_getI (pc := 1) hG dX5_jump_1 f_5_87 lay_69 rfl ?_
  refine sx_i2l (pc := 4) dX5_jump_4 ?_
  refine sx_aload_n (pc := 5) dX5_jump_5 sx_m0 ?_
  refine sv_getI (pc := 6) hG dX5_jump_6 f_5_41 lay_69 rfl ?_
  refine sx_i2l (pc := 9) dX5_jump_9 ?_
  refine sx_ladd (pc := 10) dX5_jump_10 ?_
  refine sx_iload_n (pc := 11) dX5_jump_11 sx_m1 ?_
  refine sx_i2l (pc := 12) dX5_jump_12 ?_
  refine sx_ladd (pc := 13) dX5_jump_13 ?_
  refine sv_tJ (fun x1 hx1 => ?_)
  have h := sx_letE hx1 h
  refine sx_lstore_n (pc := 14) (lo' := [(2, .long x1), (0, .ref 69), (1, .int l1)]) dX5_jump_14 (by decide) rfl ?_
  refine sx_lload_n (pc := 15) dX5_jump_15 sx_m0 ?_
  refine sx_aload_n (pc := 16) dX5_jump_16 sx_m1 ?_
  refine sv_getI (pc := 17) hG dX5_jump_17 f_5_87 lay_69 rfl ?_
  refine sx_i2l (pc := 20) dX5_jump_20 ?_
  refine sx_lcmp (pc := 21) dX5_jump_21 ?_
  refine sx_if_lt (pc := 22) (tgt := 35) dX5_jump_22 (by decide) (fun c2 => ?_) (fun c2 => ?_)
  · have h := sx_pos c2 h
    refine sx_aload_n (pc := 35) dX5_jump_35 sx_m1 ?_
    refine sx_bipush (pc := 36) (v := 8) dX5_jump_36 (by decide) ?_
    obtain ⟨V3, hV3⟩ : ∃ z : sv_V, z = sv_I V 69 14 (8 : Int32) := ⟨_, rfl⟩
    have h := sx_letE hV3 h
    refine sv_putI (pc := 38) hG dX5_jump_38 f_5_56 lay_69 rfl hV3 ?_
    exact sv_vret (pc := 41) dX5_jump_41 rfl h hP
  · have h := sx_neg c2 h
    refine sx_lload_n (pc := 25) dX5_jump_25 sx_m0 ?_
    refine sx_aload_n (pc := 26) dX5_jump_26 sx_m1 ?_
    refine sv_getI (pc := 27) hG dX5_jump_27 f_5_90 lay_69 rfl ?_
    refine sx_i2l (pc := 30) dX5_jump_30 ?_
    refine sx_lcmp (pc := 31) dX5_jump_31 ?_
    refine sx_if_le (pc := 32) (tgt := 42) dX5_jump_32 (by decide) (fun c4 => ?_) (fun c4 => ?_)
    · have h := sx_pos c4 h
      refine sx_aload_n (pc := 42) dX5_jump_42 sx_m1 ?_
      refine sx_lload_n (pc := 43) dX5_jump_43 sx_m0 ?_
      refine sx_l2i (pc := 44) dX5_jump_44 ?_
      obtain ⟨V5, hV5⟩ : ∃ z : sv_V, z = sv_I V 69 11 x1.toInt32 := ⟨_, rfl⟩
      have h := sx_letE hV5 h
      refine sv_putI (pc := 45) hG dX5_jump_45 f_5_93 lay_69 rfl hV5 ?_
      exact sv_vret (pc := 48) dX5_jump_48 rfl h hP
    · have h := sx_neg c4 h
      refine sx_aload_n (pc := 35) dX5_jump_35 sx_m1 ?_
      refine sx_bipush (pc := 36) (v := 8) dX5_jump_36 (by decide) ?_
      obtain ⟨V6, hV6⟩ : ∃ z : sv_V, z = sv_I V 69 14 (8 : Int32) := ⟨_, rfl⟩
      have h := sx_letE hV6 h
      refine sv_putI (pc := 38) hG dX5_jump_38 f_5_56 lay_69 rfl hV6 ?_
      exact sv_vret (pc := 41) dX5_jump_41 rfl h hP
theorem dX5_passCode_0 : decode cX5_passCode 0 = .ok (.aload_n 0, 1) := by decide +kernel
theorem dX5_passCode_1 : decode cX5_passCode 1 = .ok (.getfield 45, 3) := by decide +kernel
theorem dX5_passCode_4 : decode cX5_passCode 4 = .ok (.aload_n 0, 1) := by decide +kernel
theorem dX5_passCode_5 : decode cX5_passCode 5 = .ok (.getfield 93, 3) := by decide +kernel
theorem dX5_passCode_8 : decode cX5_passCode 8 = .ok (.invokevirtual 156, 3) := by decide +kernel
theorem dX5_passCode_11 : decode cX5_passCode 11 = .ok (.istore_n 1, 1) := by decide +kernel
theorem dX5_passCode_12 : decode cX5_passCode 12 = .ok (.iconst 1, 1) := by decide +kernel
theorem dX5_passCode_13 : decode cX5_passCode 13 = .ok (.istore_n 2, 1) := by decide +kernel
theorem dX5_passCode_14 : decode cX5_passCode 14 = .ok (.iload_n 1, 1) := by decide +kernel
theorem dX5_passCode_15 : decode cX5_passCode 15 = .ok (.bipush 64, 2) := by decide +kernel
theorem dX5_passCode_17 : decode cX5_passCode 17 = .ok (.if_icmp .eq 9, 3) := by decide +kernel
theorem dX5_passCode_20 : decode cX5_passCode 20 = .ok (.iload_n 1, 1) := by decide +kernel
theorem dX5_passCode_21 : decode cX5_passCode 21 = .ok (.bipush 65, 2) := by decide +kernel
theorem dX5_passCode_23 : decode cX5_passCode 23 = .ok (.if_icmp .ne 44, 3) := by decide +kernel
theorem dX5_passCode_26 : decode cX5_passCode 26 = .ok (.aload_n 0, 1) := by decide +kernel
theorem dX5_passCode_27 : decode cX5_passCode 27 = .ok (.getfield 93, 3) := by decide +kernel
theorem dX5_passCode_30 : decode cX5_passCode 30 = .ok (.iconst 1, 1) := by decide +kernel
theorem dX5_passCode_31 : decode cX5_passCode 31 = .ok (.iadd, 1) := by decide +kernel
theorem dX5_passCode_32 : decode cX5_passCode 32 = .ok (.aload_n 0, 1) := by decide +kernel
theorem dX5_passCode_33 : decode cX5_passCode 33 = .ok (.getfield 90, 3) := by decide +kernel
theorem dX5_passCode_36 : decode cX5_passCode 36 = .ok (.if_icmp .ge 26, 3) := by decide +kernel
theorem dX5_passCode_39 : decode cX5_passCode 39 = .ok (.iconst 2, 1) := by decide +kernel
theorem dX5_passCode_40 : decode cX5_passCode 40 = .ok (.aload_n 0, 1) := by decide +kernel
theorem dX5_passCode_41 : decode cX5_passCode 41 = .ok (.getfield 45, 3) := by decide +kernel
theorem dX5_passCode_44 : decode cX5_passCode 44 = .ok (.aload_n 0, 1) := by decide +kernel
theorem dX5_passCode_45 : decode cX5_passCode 45 = .ok (.getfield 93, 3) := by decide +kernel
theorem dX5_passCode_48 : decode cX5_passCode 48 = .ok (.iconst 1, 1) := by decide +kernel
theorem dX5_passCode_49 : decode cX5_passCode 49 = .ok (.iadd, 1) := by decide +kernel
theorem dX5_passCode_50 : decode cX5_passCode 50 = .ok (.invokevirtual 156, 3) := by decide +kernel
theorem dX5_passCode_53 : decode cX5_passCode 53 = .ok (.iload_n 1, 1) := by decide +kernel
theorem dX5_passCode_54 : decode cX5_passCode 54 = .ok (.bipush 63, 2) := by decide +kernel
theorem dX5_passCode_56 : decode cX5_passCode 56 = .ok (.isub, 1) := by decide +kernel
theorem dX5_passCode_57 : decode cX5_passCode 57 = .ok (.imul, 1) := by decide +kernel
theorem dX5_passCode_58 : decode cX5_passCode 58 = .ok (.iadd, 1) := by decide +kernel
theorem dX5_passCode_59 : decode cX5_passCode 59 = .ok (.goto 4, 3) := by decide +kernel
theorem dX5_passCode_62 : decode cX5_passCode 62 = .ok (.iconst 2, 1) := by decide +kernel
theorem dX5_passCode_63 : decode cX5_passCode 63 = .ok (.istore_n 2, 1) := by decide +kernel
theorem dX5_passCode_64 : decode cX5_passCode 64 = .ok (.goto 50, 3) := by decide +kernel
theorem dX5_passCode_67 : decode cX5_passCode 67 = .ok (.iload_n 1, 1) := by decide +kernel
theorem dX5_passCode_68 : decode cX5_passCode 68 = .ok (.sipush 176, 3) := by decide +kernel
theorem dX5_passCode_71 : decode cX5_passCode 71 = .ok (.if_icmp .lt 19, 3) := by decide +kernel
theorem dX5_passCode_74 : decode cX5_passCode 74 = .ok (.iload_n 1, 1) := by decide +kernel
theorem dX5_passCode_75 : decode cX5_passCode 75 = .ok (.sipush 183, 3) := by decide +kernel
theorem dX5_passCode_78 : decode cX5_passCode 78 = .ok (.if_icmp .gt 12, 3) := by decide +kernel
theorem dX5_passCode_81 : decode cX5_passCode 81 = .ok (.iload_n 1, 1) := by decide +kernel
theorem dX5_passCode_82 : decode cX5_passCode 82 = .ok (.sipush 174, 3) := by decide +kernel
theorem dX5_passCode_85 : decode cX5_passCode 85 = .ok (.isub, 1) := by decide +kernel
theorem dX5_passCode_86 : decode cX5_passCode 86 = .ok (.istore_n 2, 1) := by decide +kernel
theorem dX5_passCode_87 : decode cX5_passCode 87 = .ok (.goto 27, 3) := by decide +kernel
theorem dX5_passCode_90 : decode cX5_passCode 90 = .ok (.iload_n 1, 1) := by decide +kernel
theorem dX5_passCode_91 : decode cX5_passCode 91 = .ok (.sipush 184, 3) := by decide +kernel
theorem dX5_passCode_94 : decode cX5_passCode 94 = .ok (.if_icmp .lt 20, 3) := by decide +kernel
theorem dX5_passCode_97 : decode cX5_passCode 97 = .ok (.iload_n 1, 1) := by decide +kernel
theorem dX5_passCode_98 : decode cX5_passCode 98 = .ok (.sipush 191, 3) := by decide +kernel
theorem dX5_passCode_101 : decode cX5_passCode 101 = .ok (.if_icmp .gt 13, 3) := by decide +kernel
theorem dX5_passCode_104 : decode cX5_passCode 104 = .ok (.iconst 1, 1) := by decide +kernel
theorem dX5_passCode_105 : decode cX5_passCode 105 = .ok (.iconst 2, 1) := by decide +kernel
theorem dX5_passCode_106 : decode cX5_passCode 106 = .ok (.iload_n 1, 1) := by decide +kernel
theorem dX5_passCode_107 : decode cX5_passCode 107 = .ok (.sipush 183, 3) := by decide +kernel
theorem dX5_passCode_110 : decode cX5_passCode 110 = .ok (.isub, 1) := by decide +kernel
theorem dX5_passCode_111 : decode cX5_passCode 111 = .ok (.imul, 1) := by decide +kernel
theorem dX5_passCode_112 : decode cX5_passCode 112 = .ok (.iadd, 1) := by decide +kernel
theorem dX5_passCode_113 : decode cX5_passCode 113 = .ok (.istore_n 2, 1) := by decide +kernel
theorem dX5_passCode_114 : decode cX5_passCode 114 = .ok (.aload_n 0, 1) := by decide +kernel
theorem dX5_passCode_115 : decode cX5_passCode 115 = .ok (.dup, 1) := by decide +kernel
theorem dX5_passCode_116 : decode cX5_passCode 116 = .ok (.getfield 93, 3) := by decide +kernel
theorem dX5_passCode_119 : decode cX5_passCode 119 = .ok (.iload_n 2, 1) := by decide +kernel
theorem dX5_passCode_120 : decode cX5_passCode 120 = .ok (.iadd, 1) := by decide +kernel
theorem dX5_passCode_121 : decode cX5_passCode 121 = .ok (.putfield 93, 3) := by decide +kernel
theorem dX5_passCode_124 : decode cX5_passCode 124 = .ok (.aload_n 0, 1) := by decide +kernel
theorem dX5_passCode_125 : decode cX5_passCode 125 = .ok (.getfield 93, 3) := by decide +kernel
theorem dX5_passCode_128 : decode cX5_passCode 128 = .ok (.aload_n 0, 1) := by decide +kernel
theorem dX5_passCode_129 : decode cX5_passCode 129 = .ok (.getfield 90, 3) := by decide +kernel
theorem dX5_passCode_132 : decode cX5_passCode 132 = .ok (.if_icmp .gt 7, 3) := by decide +kernel
theorem dX5_passCode_135 : decode cX5_passCode 135 = .ok (.iconst 1, 1) := by decide +kernel
theorem dX5_passCode_136 : decode cX5_passCode 136 = .ok (.goto 4, 3) := by decide +kernel
theorem dX5_passCode_139 : decode cX5_passCode 139 = .ok (.iconst 0, 1) := by decide +kernel
theorem dX5_passCode_140 : decode cX5_passCode 140 = .ok (.ireturn, 1) := by decide +kernel
def B_X5_passCode_114  (l2 : Int32) (V : sv_V) : Option (Int32 × sv_V) := sx_let (sv_I V 69 11 ((V.1 69 11) + l2)) (fun V1 => if (V1.1 69 10) < (V1.1 69 11) then (some ((0 : Int32), V1)) else (some ((1 : Int32), V1)))
set_option maxRecDepth 20000 in
theorem tB_X5_passCode_114 {g : sx_G} (hG : sx_Go g) {P : Option Value → sv_V → Prop} {r : Int32} {Vr : sv_V} (hP : P (some (.int r)) Vr)   {l2 : Int32} {V : sv_V} (h : B_X5_passCode_114  l2 V = some (r, Vr)) : sv_N g qX5_passCode 1 114 [(0, .ref 69), (2, .int l2)] [] V P := by
  unfold B_X5_passCode_114 at h
  refine sx_aload_n (pc := 114) dX5_passCode_114 sx_m0 ?_
  refine sx_dup (pc := 115) dX5_passCode_115 rfl ?_
  refine sv_getI (pc := 116) hG dX5_passCode_116 f_5_93 lay_69 rfl ?_
  refine sx_iload_n (pc := 119) dX5_passCode_119 sx_m1 ?_
  refine sx_iadd (pc := 120) dX5_passCode_120 ?_
  obtain ⟨V1, hV1⟩ : ∃ z : sv_V, z = sv_I V 69 11 ((V.1 69 11) + l2) := ⟨_, rfl⟩
  have h := sx_letE hV1 h
  refine sv_putI (pc := 121) hG dX5_passCode_121 f_5_93 lay_69 rfl hV1 ?_
  refine sx_aload_n (pc := 124) dX5_passCode_124 sx_m0 ?_
  refine sv_getI (pc := 125) hG dX5_passCode_125 f_5_93 lay_69 rfl ?_
  refine sx_aload_n (pc := 128) dX5_passCode_128 sx_m0 ?_
  refine sv_getI (pc := 129) hG dX5_passCode_129 f_5_90 lay_69 rfl ?_
  refine sx_icmp_gt (pc := 132) (tgt := 139) dX5_passCode_132 (by decide) (fun c2 => ?_) (fun c2 => ?_)
  · have h := sx_pos c2 h
    refine sx_iconst (pc := 139) (v := 0) dX5_passCode_139 (by decide) ?_
    exact sv_zret (pc := 140) dX5_passCode_140 rfl rfl h hP
  · have h := sx_neg c2 h
    refine sx_iconst (pc := 135) (v := 1) dX5_passCode_135 (by decide) ?_
    refine sx_goto (pc := 136) (tgt := 140) dX5_passCode_136 (by decide) ?_
    exact sv_zret (pc := 140) dX5_passCode_140 rfl rfl h hP
def B_X5_passCode_63  (s0 : Int32) (V : sv_V) : Option (Int32 × sv_V) := B_X5_passCode_114  s0 V
set_option maxRecDepth 20000 in
theorem tB_X5_passCode_63 {g : sx_G} (hG : sx_Go g) {P : Option Value → sv_V → Prop} {r : Int32} {Vr : sv_V} (hP : P (some (.int r)) Vr)   {s0 : Int32} {V : sv_V} (h : B_X5_passCode_63  s0 V = some (r, Vr)) : sv_N g qX5_passCode 1 63 [(0, .ref 69)] [.int s0] V P := by
  unfold B_X5_passCode_63 at h
  refine sx_istore_n (pc := 63) (lo' := [(2, .int s0), (0, .ref 69)]) dX5_passCode_63 (by decide) rfl ?_
  refine sx_goto (pc := 64) (tgt := 114) dX5_passCode_64 (by decide) ?_
  refine sx_wk (sx_s1 sx_m1 (sx_s1 sx_m0 sx_s0)) ?_
  exact tB_X5_passCode_114 hG hP  h
def B_X5_passCode_26  (l1 : Int32) (V : sv_V) : Option (Int32 × sv_V) := if (V.1 69 10) ≤ ((V.1 69 11) + (1 : Int32)) then (B_X5_passCode_63  (2 : Int32) V) else ((F_X2_u1 ((V.1 69 11) + (1 : Int32)) V).bind (fun (x6, V4) => B_X5_passCode_63  ((2 : Int32) + (x6 * (l1 - (63 : Int32)))) V4))
set_option maxRecDepth 20000 in
theorem tB_X5_passCode_26 {g : sx_G} (hG : sx_Go g) {P : Option Value → sv_V → Prop} {r : Int32} {Vr : sv_V} (hP : P (some (.int r)) Vr)   {l1 : Int32} {V : sv_V} (h : B_X5_passCode_26  l1 V = some (r, Vr)) : sv_N g qX5_passCode 1 26 [(0, .ref 69), (1, .int l1)] [] V P := by
  unfold B_X5_passCode_26 at h
  refine sx_aload_n (pc := 26) dX5_passCode_26 sx_m0 ?_
  refine sv_getI (pc := 27) hG dX5_passCode_27 f_5_93 lay_69 rfl ?_
  refine sx_iconst (pc := 30) (v := 1) dX5_passCode_30 (by decide) ?_
  refine sx_iadd (pc := 31) dX5_passCode_31 ?_
  refine sx_aload_n (pc := 32) dX5_passCode_32 sx_m0 ?_
  refine sv_getI (pc := 33) hG dX5_passCode_33 f_5_90 lay_69 rfl ?_
  refine sx_icmp_ge (pc := 36) (tgt := 62) dX5_passCode_36 (by decide) (fun c3 => ?_) (fun c3 => ?_)
  · have h := sx_pos c3 h
    refine sx_iconst (pc := 62) (v := 2) dX5_passCode_62 (by decide) ?_
    refine sx_wk (sx_s1 sx_m0 sx_s0) ?_
    exact tB_X5_passCode_63 hG hP  h
  · have h := sx_neg c3 h
    refine sx_iconst (pc := 39) (v := 2) dX5_passCode_39 (by decide) ?_
    refine sx_aload_n (pc := 40) dX5_passCode_40 sx_m0 ?_
    refine sv_getO (pc := 41) hG dX5_passCode_41 f_5_45 lay_69 rfl cr_69_0 ?_
    refine sx_aload_n (pc := 44) dX5_passCode_44 sx_m0 ?_
    refine sv_getI (pc := 45) hG dX5_passCode_45 f_5_93 lay_69 rfl ?_
    refine sx_iconst (pc := 48) (v := 1) dX5_passCode_48 (by decide) ?_
    refine sx_iadd (pc := 49) dX5_passCode_49 ?_
    obtain ⟨⟨x6, V4⟩, g5, h⟩ := sx_bnd h
    refine sv_cV (pc := 50) (y := qX2_u1) (o := (some (.int x6))) (as := [.int ((V.1 69 11) + (1 : Int32))]) (V1 := V4) hG dX5_passCode_50 l_X5_156 y0X2_u1 yvX2_u1 rfl (Nat.le_of_ble_eq_true rfl) lay_2 kr_2 (by decide) (Nat.le_of_ble_eq_true rfl) rfl rfl rfl (t_X2_u1 hG ⟨rfl, rfl⟩ g5) ?_
    refine sx_iload_n (pc := 53) dX5_passCode_53 sx_m1 ?_
    refine sx_bipush (pc := 54) (v := 63) dX5_passCode_54 (by decide) ?_
    refine sx_isub (pc := 56) dX5_passCode_56 ?_
    refine sx_imul (pc := 57) dX5_passCode_57 ?_
    refine sx_iadd (pc := 58) dX5_passCode_58 ?_
    refine sx_goto (pc := 59) (tgt := 63) dX5_passCode_59 (by decide) ?_
    refine sx_wk (sx_s1 sx_m0 sx_s0) ?_
    exact tB_X5_passCode_63 hG hP  h
def B_X5_passCode_90  (l1 : Int32) (l2 : Int32) (V : sv_V) : Option (Int32 × sv_V) := if l1 < (184 : Int32) then (B_X5_passCode_114  l2 V) else (if (191 : Int32) < l1 then (B_X5_passCode_114  l2 V) else (sx_let ((1 : Int32) + ((2 : Int32) * (l1 - (183 : Int32)))) (fun x9 => B_X5_passCode_114  x9 V)))
set_option maxRecDepth 20000 in
theorem tB_X5_passCode_90 {g : sx_G} (hG : sx_Go g) {P : Option Value → sv_V → Prop} {r : Int32} {Vr : sv_V} (hP : P (some (.int r)) Vr)   {l1 : Int32} {l2 : Int32} {V : sv_V} (h : B_X5_passCode_90  l1 l2 V = some (r, Vr)) : sv_N g qX5_passCode 1 90 [(0, .ref 69), (1, .int l1), (2, .int l2)] [] V P := by
  unfold B_X5_passCode_90 at h
  refine sx_iload_n (pc := 90) dX5_passCode_90 sx_m1 ?_
  refine sx_sipush (pc := 91) (v := 184) dX5_passCode_91 (by decide) ?_
  refine sx_icmp_lt (pc := 94) (tgt := 114) dX5_passCode_94 (by decide) (fun c7 => ?_) (fun c7 => ?_)
  · have h := sx_pos c7 h
    refine sx_wk (sx_s1 sx_m0 (sx_s1 sx_m2 sx_s0)) ?_
    exact tB_X5_passCode_114 hG hP  h
  · have h := sx_neg c7 h
    refine sx_iload_n (pc := 97) dX5_passCode_97 sx_m1 ?_
    refine sx_sipush (pc := 98) (v := 191) dX5_passCode_98 (by decide) ?_
    refine sx_icmp_gt (pc := 101) (tgt := 114) dX5_passCode_101 (by decide) (fun c8 => ?_) (fun c8 => ?_)
    · have h := sx_pos c8 h
      refine sx_wk (sx_s1 sx_m0 (sx_s1 sx_m2 sx_s0)) ?_
      exact tB_X5_passCode_114 hG hP  h
    · have h := sx_neg c8 h
      refine sx_iconst (pc := 104) (v := 1) dX5_passCode_104 (by decide) ?_
      refine sx_iconst (pc := 105) (v := 2) dX5_passCode_105 (by decide) ?_
      refine sx_iload_n (pc := 106) dX5_passCode_106 sx_m1 ?_
      refine sx_sipush (pc := 107) (v := 183) dX5_passCode_107 (by decide) ?_
      refine sx_isub (pc := 110) dX5_passCode_110 ?_
      refine sx_imul (pc := 111) dX5_passCode_111 ?_
      refine sx_iadd (pc := 112) dX5_passCode_112 ?_
      refine sv_tI (fun x9 hx9 => ?_)
      have h := sx_letE hx9 h
      refine sx_istore_n (pc := 113) (lo' := [(2, .int x9), (0, .ref 69), (1, .int l1)]) dX5_passCode_113 (by decide) rfl ?_
      refine sx_wk (sx_s1 sx_m1 (sx_s1 sx_m0 sx_s0)) ?_
      exact tB_X5_passCode_114 hG hP  h
def F_X5_passCode  (V : sv_V) : Option (Int32 × sv_V) := (F_X2_u1 (V.1 69 11) V).bind (fun (x12, V10) => if x12 = (64 : Int32) then (B_X5_passCode_26  x12 V10) else (if x12 = (65 : Int32) then (B_X5_passCode_26  x12 V10) else (if x12 < (176 : Int32) then (B_X5_passCode_90  x12 (1 : Int32) V10) else (if (183 : Int32) < x12 then (B_X5_passCode_90  x12 (1 : Int32) V10) else (sx_let (x12 - (174 : Int32)) (fun x17 => B_X5_passCode_114  x17 V10))))))
set_option maxRecDepth 20000 in
theorem t_X5_passCode {g : sx_G} (hG : sx_Go g) {P : Option Value → sv_V → Prop} {r : Int32} {Vr : sv_V} (hP : P (some (.int r)) Vr)  {V : sv_V} (h : F_X5_passCode  V = some (r, Vr)) : sv_N g qX5_passCode 1 0 [(0, .ref 69)] [] V P := by
  unfold F_X5_passCode at h
  refine sx_aload_n (pc := 0) dX5_passCode_0 sx_m0 ?_
  refine sv_getO (pc := 1) hG dX5_passCode_1 f_5_45 lay_69 rfl cr_69_0 ?_
  refine sx_aload_n (pc := 4) dX5_passCode_4 sx_m0 ?_
  refine sv_getI (pc := 5) hG dX5_passCode_5 f_5_93 lay_69 rfl ?_
  obtain ⟨⟨x12, V10⟩, g11, h⟩ := sx_bnd h
  refine sv_cV (pc := 8) (y := qX2_u1) (o := (some (.int x12))) (as := [.int (V.1 69 11)]) (V1 := V10) hG dX5_passCode_8 l_X5_156 y0X2_u1 yvX2_u1 rfl (Nat.le_of_ble_eq_true rfl) lay_2 kr_2 (by decide) (Nat.le_of_ble_eq_true rfl) rfl rfl rfl (t_X2_u1 hG ⟨rfl, rfl⟩ g11) ?_
  refine sx_istore_n (pc := 11) (lo' := [(1, .int x12), (0, .ref 69)]) dX5_passCode_11 (by decide) rfl ?_
  refine sx_iconst (pc := 12) (v := 1) dX5_passCode_12 (by decide) ?_
  refine sx_istore_n (pc := 13) (lo' := [(2, .int (1 : Int32)), (1, .int x12), (0, .ref 69)]) dX5_passCode_13 (by decide) rfl ?_
  refine sx_iload_n (pc := 14) dX5_passCode_14 sx_m1 ?_
  refine sx_bipush (pc := 15) (v := 64) dX5_passCode_15 (by decide) ?_
  refine sx_icmp_eq (pc := 17) (tgt := 26) dX5_passCode_17 (by decide) (fun c13 => ?_) (fun c13 => ?_)
  · have h := sx_pos c13 h
    refine sx_wk (sx_s1 sx_m2 (sx_s1 sx_m1 sx_s0)) ?_
    exact tB_X5_passCode_26 hG hP  h
  · have h := sx_neg c13 h
    refine sx_iload_n (pc := 20) dX5_passCode_20 sx_m1 ?_
    refine sx_bipush (pc := 21) (v := 65) dX5_passCode_21 (by decide) ?_
    refine sx_icmp_ne (pc := 23) (tgt := 67) dX5_passCode_23 (by decide) (fun c14 => ?_) (fun c14 => ?_)
    · have h := sx_neg c14 h
      refine sx_iload_n (pc := 67) dX5_passCode_67 sx_m1 ?_
      refine sx_sipush (pc := 68) (v := 176) dX5_passCode_68 (by decide) ?_
      refine sx_icmp_lt (pc := 71) (tgt := 90) dX5_passCode_71 (by decide) (fun c15 => ?_) (fun c15 => ?_)
      · have h := sx_pos c15 h
        refine sx_wk (sx_s1 sx_m2 (sx_s1 sx_m1 (sx_s1 sx_m0 sx_s0))) ?_
        exact tB_X5_passCode_90 hG hP  h
      · have h := sx_neg c15 h
        refine sx_iload_n (pc := 74) dX5_passCode_74 sx_m1 ?_
        refine sx_sipush (pc := 75) (v := 183) dX5_passCode_75 (by decide) ?_
        refine sx_icmp_gt (pc := 78) (tgt := 90) dX5_passCode_78 (by decide) (fun c16 => ?_) (fun c16 => ?_)
        · have h := sx_pos c16 h
          refine sx_wk (sx_s1 sx_m2 (sx_s1 sx_m1 (sx_s1 sx_m0 sx_s0))) ?_
          exact tB_X5_passCode_90 hG hP  h
        · have h := sx_neg c16 h
          refine sx_iload_n (pc := 81) dX5_passCode_81 sx_m1 ?_
          refine sx_sipush (pc := 82) (v := 174) dX5_passCode_82 (by decide) ?_
          refine sx_isub (pc := 85) dX5_passCode_85 ?_
          refine sv_tI (fun x17 hx17 => ?_)
          have h := sx_letE hx17 h
          refine sx_istore_n (pc := 86) (lo' := [(2, .int x17), (1, .int x12), (0, .ref 69)]) dX5_passCode_86 (by decide) rfl ?_
          refine sx_goto (pc := 87) (tgt := 114) dX5_passCode_87 (by decide) ?_
          refine sx_wk (sx_s1 sx_m2 (sx_s1 sx_m0 sx_s0)) ?_
          exact tB_X5_passCode_114 hG hP  h
    · have h := sx_pos c14 h
      refine sx_wk (sx_s1 sx_m2 (sx_s1 sx_m1 sx_s0)) ?_
      exact tB_X5_passCode_26 hG hP  h
theorem dX5_passBranch_0 : decode cX5_passBranch 0 = .ok (.iconst 0, 1) := by decide +kernel
theorem dX5_passBranch_1 : decode cX5_passBranch 1 = .ok (.istore_n 2, 1) := by decide +kernel
theorem dX5_passBranch_2 : decode cX5_passBranch 2 = .ok (.iconst 0, 1) := by decide +kernel
theorem dX5_passBranch_3 : decode cX5_passBranch 3 = .ok (.istore_n 3, 1) := by decide +kernel
theorem dX5_passBranch_4 : decode cX5_passBranch 4 = .ok (.iload_n 3, 1) := by decide +kernel
theorem dX5_passBranch_5 : decode cX5_passBranch 5 = .ok (.sipush 12000, 3) := by decide +kernel
theorem dX5_passBranch_8 : decode cX5_passBranch 8 = .ok (.if_icmp .ge 89, 3) := by decide +kernel
theorem dX5_passBranch_11 : decode cX5_passBranch 11 = .ok (.aload_n 0, 1) := by decide +kernel
theorem dX5_passBranch_12 : decode cX5_passBranch 12 = .ok (.getfield 93, 3) := by decide +kernel
theorem dX5_passBranch_15 : decode cX5_passBranch 15 = .ok (.aload_n 0, 1) := by decide +kernel
theorem dX5_passBranch_16 : decode cX5_passBranch 16 = .ok (.getfield 90, 3) := by decide +kernel
theorem dX5_passBranch_19 : decode cX5_passBranch 19 = .ok (.if_icmp .ge 78, 3) := by decide +kernel
theorem dX5_passBranch_22 : decode cX5_passBranch 22 = .ok (.aload_n 0, 1) := by decide +kernel
theorem dX5_passBranch_23 : decode cX5_passBranch 23 = .ok (.getfield 45, 3) := by decide +kernel
theorem dX5_passBranch_26 : decode cX5_passBranch 26 = .ok (.aload_n 0, 1) := by decide +kernel
theorem dX5_passBranch_27 : decode cX5_passBranch 27 = .ok (.getfield 93, 3) := by decide +kernel
theorem dX5_passBranch_30 : decode cX5_passBranch 30 = .ok (.invokevirtual 156, 3) := by decide +kernel
theorem dX5_passBranch_33 : decode cX5_passBranch 33 = .ok (.istore 4, 2) := by decide +kernel
theorem dX5_passBranch_35 : decode cX5_passBranch 35 = .ok (.aload_n 0, 1) := by decide +kernel
theorem dX5_passBranch_36 : decode cX5_passBranch 36 = .ok (.invokevirtual 330, 3) := by decide +kernel
theorem dX5_passBranch_39 : decode cX5_passBranch 39 = .ok (.ifCond .ne 6, 3) := by decide +kernel
theorem dX5_passBranch_42 : decode cX5_passBranch 42 = .ok (.goto 55, 3) := by decide +kernel
theorem dX5_passBranch_45 : decode cX5_passBranch 45 = .ok (.iload_n 2, 1) := by decide +kernel
theorem dX5_passBranch_46 : decode cX5_passBranch 46 = .ok (.ifCond .ne 22, 3) := by decide +kernel
theorem dX5_passBranch_49 : decode cX5_passBranch 49 = .ok (.iload 4, 2) := by decide +kernel
theorem dX5_passBranch_51 : decode cX5_passBranch 51 = .ok (.bipush 89, 2) := by decide +kernel
theorem dX5_passBranch_53 : decode cX5_passBranch 53 = .ok (.if_icmp .eq 14, 3) := by decide +kernel
theorem dX5_passBranch_56 : decode cX5_passBranch 56 = .ok (.iload_n 1, 1) := by decide +kernel
theorem dX5_passBranch_57 : decode cX5_passBranch 57 = .ok (.ifCond .eq 11, 3) := by decide +kernel
theorem dX5_passBranch_60 : decode cX5_passBranch 60 = .ok (.iload 4, 2) := by decide +kernel
theorem dX5_passBranch_62 : decode cX5_passBranch 62 = .ok (.bipush 27, 2) := by decide +kernel
theorem dX5_passBranch_64 : decode cX5_passBranch 64 = .ok (.if_icmp .ne 4, 3) := by decide +kernel
theorem dX5_passBranch_67 : decode cX5_passBranch 67 = .ok (.return_, 1) := by decide +kernel
theorem dX5_passBranch_68 : decode cX5_passBranch 68 = .ok (.iload 4, 2) := by decide +kernel
theorem dX5_passBranch_70 : decode cX5_passBranch 70 = .ok (.bipush 88, 2) := by decide +kernel
theorem dX5_passBranch_72 : decode cX5_passBranch 72 = .ok (.if_icmp .ne 9, 3) := by decide +kernel
theorem dX5_passBranch_75 : decode cX5_passBranch 75 = .ok (.iinc 2 1, 3) := by decide +kernel
theorem dX5_passBranch_78 : decode cX5_passBranch 78 = .ok (.goto 13, 3) := by decide +kernel
theorem dX5_passBranch_81 : decode cX5_passBranch 81 = .ok (.iload 4, 2) := by decide +kernel
theorem dX5_passBranch_83 : decode cX5_passBranch 83 = .ok (.bipush 89, 2) := by decide +kernel
theorem dX5_passBranch_85 : decode cX5_passBranch 85 = .ok (.if_icmp .ne 6, 3) := by decide +kernel
theorem dX5_passBranch_88 : decode cX5_passBranch 88 = .ok (.iinc 2 (-1), 3) := by decide +kernel
theorem dX5_passBranch_91 : decode cX5_passBranch 91 = .ok (.iinc 3 1, 3) := by decide +kernel
theorem dX5_passBranch_94 : decode cX5_passBranch 94 = .ok (.goto (-90), 3) := by decide +kernel
theorem dX5_passBranch_97 : decode cX5_passBranch 97 = .ok (.aload_n 0, 1) := by decide +kernel
theorem dX5_passBranch_98 : decode cX5_passBranch 98 = .ok (.iconst 4, 1) := by decide +kernel
theorem dX5_passBranch_99 : decode cX5_passBranch 99 = .ok (.putfield 56, 3) := by decide +kernel
theorem dX5_passBranch_102 : decode cX5_passBranch 102 = .ok (.return_, 1) := by decide +kernel
def B_X5_passBranch_91 (N : Nat) (k4 : Int32 → Int32 → Int32 → sv_V → Option sv_V) (l1 : Int32) (l2 : Int32) (l3 : Int32) (V : sv_V) : Option sv_V := sx_let (l3 + 1) (fun x1 => k4 l1 l2 x1 V)
set_option maxRecDepth 20000 in
theorem tB_X5_passBranch_91 {g : sx_G} (hG : sx_Go g) {P : Option Value → sv_V → Prop} {Vr : sv_V} (hP : P none Vr) {N : Nat} {k4 : Int32 → Int32 → Int32 → sv_V → Option sv_V} (hk4 : ∀ (l1 : Int32) (l2 : Int32) (l3 : Int32) (V : sv_V), k4 l1 l2 l3 V = some Vr → sv_N g qX5_passBranch 2 4 [(0, .ref 69), (1, .int l1), (2, .int l2), (3, .int l3)] [] V P) {l1 : Int32} {l2 : Int32} {l3 : Int32} {V : sv_V} (h : B_X5_passBranch_91 N k4 l1 l2 l3 V = some Vr) : sv_N g qX5_passBranch 2 91 [(0, .ref 69), (1, .int l1), (2, .int l2), (3, .int l3)] [] V P := by
  unfold B_X5_passBranch_91 at h
  obtain ⟨x1, hx1⟩ : ∃ z : Int32, z = l3 + 1 := ⟨_, rfl⟩
  have h := sx_letE hx1 h
  refine sx_iinc (pc := 91) (v := x1) (lo' := [(3, .int x1), (0, .ref 69), (1, .int l1), (2, .int l2)]) dX5_passBranch_91 sx_m3 (by rw [hx1]; rfl) (by decide) rfl ?_
  refine sx_goto (pc := 94) (tgt := 4) dX5_passBranch_94 (by decide) ?_
  refine sx_wk (sx_s1 sx_m1 (sx_s1 sx_m2 (sx_s1 sx_m3 (sx_s1 sx_m0 sx_s0)))) ?_
  exact hk4 _ _ _ _ h
def B_X5_passBranch_68 (N : Nat) (k4 : Int32 → Int32 → Int32 → sv_V → Option sv_V) (l1 : Int32) (l2 : Int32) (l3 : Int32) (l4 : Int32) (V : sv_V) : Option sv_V := if l4 = (88 : Int32) then (sx_let (l2 + 1) (fun x5 => B_X5_passBranch_91 N k4 l1 x5 l3 V)) else (if l4 = (89 : Int32) then (sx_let (l2 + (-1)) (fun x4 => B_X5_passBranch_91 N k4 l1 x4 l3 V)) else (B_X5_passBranch_91 N k4 l1 l2 l3 V))
set_option maxRecDepth 20000 in
theorem tB_X5_passBranch_68 {g : sx_G} (hG : sx_Go g) {P : Option Value → sv_V → Prop} {Vr : sv_V} (hP : P none Vr) {N : Nat} {k4 : Int32 → Int32 → Int32 → sv_V → Option sv_V} (hk4 : ∀ (l1 : Int32) (l2 : Int32) (l3 : Int32) (V : sv_V), k4 l1 l2 l3 V = some Vr → sv_N g qX5_passBranch 2 4 [(0, .ref 69), (1, .int l1), (2, .int l2), (3, .int l3)] [] V P) {l1 : Int32} {l2 : Int32} {l3 : Int32} {l4 : Int32} {V : sv_V} (h : B_X5_passBranch_68 N k4 l1 l2 l3 l4 V = some Vr) : sv_N g qX5_passBranch 2 68 [(0, .ref 69), (1, .int l1), (2, .int l2), (3, .int l3), (4, .int l4)] [] V P := by
  unfold B_X5_passBranch_68 at h
  refine sx_iload (pc := 68) dX5_passBranch_68 sx_m4 ?_
  refine sx_bipush (pc := 70) (v := 88) dX5_passBranch_70 (by decide) ?_
  refine sx_icmp_ne (pc := 72) (tgt := 81) dX5_passBranch_72 (by decide) (fun c2 => ?_) (fun c2 => ?_)
  · have h := sx_neg c2 h
    refine sx_iload (pc := 81) dX5_passBranch_81 sx_m4 ?_
    refine sx_bipush (pc := 83) (v := 89) dX5_passBranch_83 (by decide) ?_
    refine sx_icmp_ne (pc := 85) (tgt := 91) dX5_passBranch_85 (by decide) (fun c3 => ?_) (fun c3 => ?_)
    · have h := sx_neg c3 h
      refine sx_wk (sx_s1 sx_m0 (sx_s1 sx_m1 (sx_s1 sx_m2 (sx_s1 sx_m3 sx_s0)))) ?_
      exact tB_X5_passBranch_91 hG hP hk4 h
    · have h := sx_pos c3 h
      obtain ⟨x4, hx4⟩ : ∃ z : Int32, z = l2 + (-1) := ⟨_, rfl⟩
      have h := sx_letE hx4 h
      refine sx_iinc (pc := 88) (v := x4) (lo' := [(2, .int x4), (0, .ref 69), (1, .int l1), (3, .int l3), (4, .int l4)]) dX5_passBranch_88 sx_m2 (by rw [hx4]; rfl) (by decide) rfl ?_
      refine sx_wk (sx_s1 sx_m1 (sx_s1 sx_m2 (sx_s1 sx_m0 (sx_s1 sx_m3 sx_s0)))) ?_
      exact tB_X5_passBranch_91 hG hP hk4 h
  · have h := sx_pos c2 h
    obtain ⟨x5, hx5⟩ : ∃ z : Int32, z = l2 + 1 := ⟨_, rfl⟩
    have h := sx_letE hx5 h
    refine sx_iinc (pc := 75) (v := x5) (lo' := [(2, .int x5), (0, .ref 69), (1, .int l1), (3, .int l3), (4, .int l4)]) dX5_passBranch_75 sx_m2 (by rw [hx5]; rfl) (by decide) rfl ?_
    refine sx_goto (pc := 78) (tgt := 91) dX5_passBranch_78 (by decide) ?_
    refine sx_wk (sx_s1 sx_m1 (sx_s1 sx_m2 (sx_s1 sx_m0 (sx_s1 sx_m3 sx_s0)))) ?_
    exact tB_X5_passBranch_91 hG hP hk4 h
def B_X5_passBranch_4 (N : Nat) (k4 : Int32 → Int32 → Int32 → sv_V → Option sv_V) (l1 : Int32) (l2 : Int32) (l3 : Int32) (V : sv_V) : Option sv_V := if (12000 : Int32) ≤ l3 then (sx_let (sv_I V 69 14 (4 : Int32)) (fun V7 => some V7)) else (if (V.1 69 10) ≤ (V.1 69 11) then (sx_let (sv_I V 69 14 (4 : Int32)) (fun V9 => some V9)) else ((F_X2_u1 (V.1 69 11) V).bind (fun (x12, V10) => (F_X5_passCode  V10).bind (fun (x15, V13) => if x15 = 0 then (sx_let (sv_I V13 69 14 (4 : Int32)) (fun V21 => some V21)) else (if l2 = 0 then (if x12 = (89 : Int32) then (some V13) else (if l1 = 0 then (B_X5_passBranch_68 N k4 l1 l2 l3 x12 V13) else (if x12 = (27 : Int32) then (some V13) else (B_X5_passBranch_68 N k4 l1 l2 l3 x12 V13)))) else (B_X5_passBranch_68 N k4 l1 l2 l3 x12 V13))))))
set_option maxRecDepth 20000 in
theorem tB_X5_passBranch_4 {g : sx_G} (hG : sx_Go g) {P : Option Value → sv_V → Prop} {Vr : sv_V} (hP : P none Vr) {N : Nat} {k4 : Int32 → Int32 → Int32 → sv_V → Option sv_V} (hk4 : ∀ (l1 : Int32) (l2 : Int32) (l3 : Int32) (V : sv_V), k4 l1 l2 l3 V = some Vr → sv_N g qX5_passBranch 2 4 [(0, .ref 69), (1, .int l1), (2, .int l2), (3, .int l3)] [] V P) {l1 : Int32} {l2 : Int32} {l3 : Int32} {V : sv_V} (h : B_X5_passBranch_4 N k4 l1 l2 l3 V = some Vr) : sv_N g qX5_passBranch 2 4 [(0, .ref 69), (1, .int l1), (2, .int l2), (3, .int l3)] [] V P := by
  unfold B_X5_passBranch_4 at h
  refine sx_iload_n (pc := 4) dX5_passBranch_4 sx_m3 ?_
  refine sx_sipush (pc := 5) (v := 12000) dX5_passBranch_5 (by decide) ?_
  refine sx_icmp_ge (pc := 8) (tgt := 97) dX5_passBranch_8 (by decide) (fun c6 => ?_) (fun c6 => ?_)
  · have h := sx_pos c6 h
    refine sx_aload_n (pc := 97) dX5_passBranch_97 sx_m0 ?_
    refine sx_iconst (pc := 98) (v := 4) dX5_passBranch_98 (by decide) ?_
    obtain ⟨V7, hV7⟩ : ∃ z : sv_V, z = sv_I V 69 14 (4 : Int32) := ⟨_, rfl⟩
    have h := sx_letE hV7 h
    refine sv_putI (pc := 99) hG dX5_passBranch_99 f_5_56 lay_69 rfl hV7 ?_
    exact sv_vret (pc := 102) dX5_passBranch_102 rfl h hP
  · have h := sx_neg c6 h
    refine sx_aload_n (pc := 11) dX5_passBranch_11 sx_m0 ?_
    refine sv_getI (pc := 12) hG dX5_passBranch_12 f_5_93 lay_69 rfl ?_
    refine sx_aload_n (pc := 15) dX5_passBranch_15 sx_m0 ?_
    refine sv_getI (pc := 16) hG dX5_passBranch_16 f_5_90 lay_69 rfl ?_
    refine sx_icmp_ge (pc := 19) (tgt := 97) dX5_passBranch_19 (by decide) (fun c8 => ?_) (fun c8 => ?_)
    · have h := sx_pos c8 h
      refine sx_aload_n (pc := 97) dX5_passBranch_97 sx_m0 ?_
      refine sx_iconst (pc := 98) (v := 4) dX5_passBranch_98 (by decide) ?_
      obtain ⟨V9, hV9⟩ : ∃ z : sv_V, z = sv_I V 69 14 (4 : Int32) := ⟨_, rfl⟩
      have h := sx_letE hV9 h
      refine sv_putI (pc := 99) hG dX5_passBranch_99 f_5_56 lay_69 rfl hV9 ?_
      exact sv_vret (pc := 102) dX5_passBranch_102 rfl h hP
    · have h := sx_neg c8 h
      refine sx_aload_n (pc := 22) dX5_passBranch_22 sx_m0 ?_
      refine sv_getO (pc := 23) hG dX5_passBranch_23 f_5_45 lay_69 rfl cr_69_0 ?_
      refine sx_aload_n (pc := 26) dX5_passBranch_26 sx_m0 ?_
      refine sv_getI (pc := 27) hG dX5_passBranch_27 f_5_93 lay_69 rfl ?_
      obtain ⟨⟨x12, V10⟩, g11, h⟩ := sx_bnd h
      refine sv_cV (pc := 30) (y := qX2_u1) (o := (some (.int x12))) (as := [.int (V.1 69 11)]) (V1 := V10) hG dX5_passBranch_30 l_X5_156 y0X2_u1 yvX2_u1 rfl (Nat.le_of_ble_eq_true rfl) lay_2 kr_2 (by decide) (Nat.le_of_ble_eq_true rfl) rfl rfl rfl (t_X2_u1 hG ⟨rfl, rfl⟩ g11) ?_
      refine sx_istore (pc := 33) (lo' := [(4, .int x12), (0, .ref 69), (1, .int l1), (2, .int l2), (3, .int l3)]) dX5_passBranch_33 (by decide) rfl ?_
      refine sx_aload_n (pc := 35) dX5_passBranch_35 sx_m1 ?_
      obtain ⟨⟨x15, V13⟩, g14, h⟩ := sx_bnd h
      refine sv_cV (pc := 36) (y := qX5_passCode) (o := (some (.int x15))) (as := []) (V1 := V13) hG dX5_passBranch_36 l_X5_330 y0X5_passCode yvX5_passCode rfl (Nat.le_of_ble_eq_true rfl) lay_69 kr_5 (by decide) (Nat.le_of_ble_eq_true rfl) rfl rfl rfl (t_X5_passCode hG ⟨rfl, rfl⟩ g14) ?_
      refine sx_if_ne (pc := 39) (tgt := 45) dX5_passBranch_39 (by decide) (fun c16 => ?_) (fun c16 => ?_)
      · have h := sx_neg c16 h
        refine sx_iload_n (pc := 45) dX5_passBranch_45 sx_m3 ?_
        refine sx_if_ne (pc := 46) (tgt := 68) dX5_passBranch_46 (by decide) (fun c17 => ?_) (fun c17 => ?_)
        · have h := sx_neg c17 h
          refine sx_wk (sx_s1 sx_m1 (sx_s1 sx_m2 (sx_s1 sx_m3 (sx_s1 sx_m4 (sx_s1 sx_m0 sx_s0))))) ?_
          exact tB_X5_passBranch_68 hG hP hk4 h
        · have h := sx_pos c17 h
          refine sx_iload (pc := 49) dX5_passBranch_49 sx_m0 ?_
          refine sx_bipush (pc := 51) (v := 89) dX5_passBranch_51 (by decide) ?_
          refine sx_icmp_eq (pc := 53) (tgt := 67) dX5_passBranch_53 (by decide) (fun c18 => ?_) (fun c18 => ?_)
          · have h := sx_pos c18 h
            exact sv_vret (pc := 67) dX5_passBranch_67 rfl h hP
          · have h := sx_neg c18 h
            refine sx_iload_n (pc := 56) dX5_passBranch_56 sx_m2 ?_
            refine sx_if_eq (pc := 57) (tgt := 68) dX5_passBranch_57 (by decide) (fun c19 => ?_) (fun c19 => ?_)
            · have h := sx_pos c19 h
              refine sx_wk (sx_s1 sx_m1 (sx_s1 sx_m2 (sx_s1 sx_m3 (sx_s1 sx_m4 (sx_s1 sx_m0 sx_s0))))) ?_
              exact tB_X5_passBranch_68 hG hP hk4 h
            · have h := sx_neg c19 h
              refine sx_iload (pc := 60) dX5_passBranch_60 sx_m0 ?_
              refine sx_bipush (pc := 62) (v := 27) dX5_passBranch_62 (by decide) ?_
              refine sx_icmp_ne (pc := 64) (tgt := 68) dX5_passBranch_64 (by decide) (fun c20 => ?_) (fun c20 => ?_)
              · have h := sx_neg c20 h
                refine sx_wk (sx_s1 sx_m1 (sx_s1 sx_m2 (sx_s1 sx_m3 (sx_s1 sx_m4 (sx_s1 sx_m0 sx_s0))))) ?_
                exact tB_X5_passBranch_68 hG hP hk4 h
              · have h := sx_pos c20 h
                exact sv_vret (pc := 67) dX5_passBranch_67 rfl h hP
      · have h := sx_pos c16 h
        refine sx_goto (pc := 42) (tgt := 97) dX5_passBranch_42 (by decide) ?_
        refine sx_aload_n (pc := 97) dX5_passBranch_97 sx_m1 ?_
        refine sx_iconst (pc := 98) (v := 4) dX5_passBranch_98 (by decide) ?_
        obtain ⟨V21, hV21⟩ : ∃ z : sv_V, z = sv_I V13 69 14 (4 : Int32) := ⟨_, rfl⟩
        have h := sx_letE hV21 h
        refine sv_putI (pc := 99) hG dX5_passBranch_99 f_5_56 lay_69 rfl hV21 ?_
        exact sv_vret (pc := 102) dX5_passBranch_102 rfl h hP
theorem tL_X5_passBranch_4 {g : sx_G} (hG : sx_Go g) {P : Option Value → sv_V → Prop} {Vr : sv_V} (hP : P none Vr) {N : Nat}   : ∀ (n : Nat) (l1 : Int32) (l2 : Int32) (l3 : Int32) (V : sv_V), sx_lp4 (B_X5_passBranch_4 N ) n l1 l2 l3 V = some Vr → sv_N g qX5_passBranch 2 4 [(0, .ref 69), (1, .int l1), (2, .int l2), (3, .int l3)] [] V P :=
  sx_lp4_ind (fun k0 ih _ _ _ V h => tB_X5_passBranch_4 hG hP ih h)
def F_X5_passBranch (N : Nat) (l1 : Int32) (V : sv_V) : Option sv_V := sx_lp4 (B_X5_passBranch_4 N ) N l1 (0 : Int32) (0 : Int32) V
set_option maxRecDepth 20000 in
theorem t_X5_passBranch {g : sx_G} (hG : sx_Go g) {P : Option Value → sv_V → Prop} {Vr : sv_V} (hP : P none Vr) {N : Nat} {l1 : Int32} {V : sv_V} (h : F_X5_passBranch N l1 V = some Vr) : sv_N g qX5_passBranch 2 0 [(0, .ref 69), (1, .int l1)] [] V P := by
  unfold F_X5_passBranch at h
  refine sx_iconst (pc := 0) (v := 0) dX5_passBranch_0 (by decide) ?_
  refine sx_istore_n (pc := 1) (lo' := [(2, .int (0 : Int32)), (0, .ref 69), (1, .int l1)]) dX5_passBranch_1 (by decide) rfl ?_
  refine sx_iconst (pc := 2) (v := 0) dX5_passBranch_2 (by decide) ?_
  refine sx_istore_n (pc := 3) (lo' := [(3, .int (0 : Int32)), (2, .int (0 : Int32)), (0, .ref 69), (1, .int l1)]) dX5_passBranch_3 (by decide) rfl ?_
  refine sx_wk (sx_s1 sx_m2 (sx_s1 sx_m3 (sx_s1 sx_m1 (sx_s1 sx_m0 sx_s0)))) ?_
  exact tL_X5_passBranch_4 hG hP  N _ _ _ _ h
theorem dX5_passDefinition_0 : decode cX5_passDefinition 0 = .ok (.iconst 0, 1) := by decide +kernel
theorem dX5_passDefinition_1 : decode cX5_passDefinition 1 = .ok (.istore_n 1, 1) := by decide +kernel
theorem dX5_passDefinition_2 : decode cX5_passDefinition 2 = .ok (.iload_n 1, 1) := by decide +kernel
theorem dX5_passDefinition_3 : decode cX5_passDefinition 3 = .ok (.sipush 12000, 3) := by decide +kernel
theorem dX5_passDefinition_6 : decode cX5_passDefinition 6 = .ok (.if_icmp .ge 49, 3) := by decide +kernel
theorem dX5_passDefinition_9 : decode cX5_passDefinition 9 = .ok (.aload_n 0, 1) := by decide +kernel
theorem dX5_passDefinition_10 : decode cX5_passDefinition 10 = .ok (.getfield 93, 3) := by decide +kernel
theorem dX5_passDefinition_13 : decode cX5_passDefinition 13 = .ok (.aload_n 0, 1) := by decide +kernel
theorem dX5_passDefinition_14 : decode cX5_passDefinition 14 = .ok (.getfield 90, 3) := by decide +kernel
theorem dX5_passDefinition_17 : decode cX5_passDefinition 17 = .ok (.if_icmp .ge 38, 3) := by decide +kernel
theorem dX5_passDefinition_20 : decode cX5_passDefinition 20 = .ok (.aload_n 0, 1) := by decide +kernel
theorem dX5_passDefinition_21 : decode cX5_passDefinition 21 = .ok (.getfield 45, 3) := by decide +kernel
theorem dX5_passDefinition_24 : decode cX5_passDefinition 24 = .ok (.aload_n 0, 1) := by decide +kernel
theorem dX5_passDefinition_25 : decode cX5_passDefinition 25 = .ok (.getfield 93, 3) := by decide +kernel
theorem dX5_passDefinition_28 : decode cX5_passDefinition 28 = .ok (.invokevirtual 156, 3) := by decide +kernel
theorem dX5_passDefinition_31 : decode cX5_passDefinition 31 = .ok (.istore_n 2, 1) := by decide +kernel
theorem dX5_passDefinition_32 : decode cX5_passDefinition 32 = .ok (.aload_n 0, 1) := by decide +kernel
theorem dX5_passDefinition_33 : decode cX5_passDefinition 33 = .ok (.invokevirtual 330, 3) := by decide +kernel
theorem dX5_passDefinition_36 : decode cX5_passDefinition 36 = .ok (.ifCond .ne 6, 3) := by decide +kernel
theorem dX5_passDefinition_39 : decode cX5_passDefinition 39 = .ok (.goto 16, 3) := by decide +kernel
theorem dX5_passDefinition_42 : decode cX5_passDefinition 42 = .ok (.iload_n 2, 1) := by decide +kernel
theorem dX5_passDefinition_43 : decode cX5_passDefinition 43 = .ok (.bipush 45, 2) := by decide +kernel
theorem dX5_passDefinition_45 : decode cX5_passDefinition 45 = .ok (.if_icmp .ne 4, 3) := by decide +kernel
theorem dX5_passDefinition_48 : decode cX5_passDefinition 48 = .ok (.return_, 1) := by decide +kernel
theorem dX5_passDefinition_49 : decode cX5_passDefinition 49 = .ok (.iinc 1 1, 3) := by decide +kernel
theorem dX5_passDefinition_52 : decode cX5_passDefinition 52 = .ok (.goto (-50), 3) := by decide +kernel
theorem dX5_passDefinition_55 : decode cX5_passDefinition 55 = .ok (.aload_n 0, 1) := by decide +kernel
theorem dX5_passDefinition_56 : decode cX5_passDefinition 56 = .ok (.iconst 4, 1) := by decide +kernel
theorem dX5_passDefinition_57 : decode cX5_passDefinition 57 = .ok (.putfield 56, 3) := by decide +kernel
theorem dX5_passDefinition_60 : decode cX5_passDefinition 60 = .ok (.return_, 1) := by decide +kernel
def B_X5_passDefinition_2 (N : Nat) (k2 : Int32 → sv_V → Option sv_V) (l1 : Int32) (V : sv_V) : Option sv_V := if (12000 : Int32) ≤ l1 then (sx_let (sv_I V 69 14 (4 : Int32)) (fun V2 => some V2)) else (if (V.1 69 10) ≤ (V.1 69 11) then (sx_let (sv_I V 69 14 (4 : Int32)) (fun V4 => some V4)) else ((F_X2_u1 (V.1 69 11) V).bind (fun (x7, V5) => (F_X5_passCode  V5).bind (fun (x10, V8) => if x10 = 0 then (sx_let (sv_I V8 69 14 (4 : Int32)) (fun V14 => some V14)) else (if x7 = (45 : Int32) then (some V8) else (sx_let (l1 + 1) (fun x13 => k2 x13 V8)))))))
set_option maxRecDepth 20000 in
theorem tB_X5_passDefinition_2 {g : sx_G} (hG : sx_Go g) {P : Option Value → sv_V → Prop} {Vr : sv_V} (hP : P none Vr) {N : Nat} {k2 : Int32 → sv_V → Option sv_V} (hk2 : ∀ (l1 : Int32) (V : sv_V), k2 l1 V = some Vr → sv_N g qX5_passDefinition 2 2 [(0, .ref 69), (1, .int l1)] [] V P) {l1 : Int32} {V : sv_V} (h : B_X5_passDefinition_2 N k2 l1 V = some Vr) : sv_N g qX5_passDefinition 2 2 [(0, .ref 69), (1, .int l1)] [] V P := by
  unfold B_X5_passDefinition_2 at h
  refine sx_iload_n (pc := 2) dX5_passDefinition_2 sx_m1 ?_
  refine sx_sipush (pc := 3) (v := 12000) dX5_passDefinition_3 (by decide) ?_
  refine sx_icmp_ge (pc := 6) (tgt := 55) dX5_passDefinition_6 (by decide) (fun c1 => ?_) (fun c1 => ?_)
  · have h := sx_pos c1 h
    refine sx_aload_n (pc := 55) dX5_passDefinition_55 sx_m0 ?_
    refine sx_iconst (pc := 56) (v := 4) dX5_passDefinition_56 (by decide) ?_
    obtain ⟨V2, hV2⟩ : ∃ z : sv_V, z = sv_I V 69 14 (4 : Int32) := ⟨_, rfl⟩
    have h := sx_letE hV2 h
    refine sv_putI (pc := 57) hG dX5_passDefinition_57 f_5_56 lay_69 rfl hV2 ?_
    exact sv_vret (pc := 60) dX5_passDefinition_60 rfl h hP
  · have h := sx_neg c1 h
    refine sx_aload_n (pc := 9) dX5_passDefinition_9 sx_m0 ?_
    refine sv_getI (pc := 10) hG dX5_passDefinition_10 f_5_93 lay_69 rfl ?_
    refine sx_aload_n (pc := 13) dX5_passDefinition_13 sx_m0 ?_
    refine sv_getI (pc := 14) hG dX5_passDefinition_14 f_5_90 lay_69 rfl ?_
    refine sx_icmp_ge (pc := 17) (tgt := 55) dX5_passDefinition_17 (by decide) (fun c3 => ?_) (fun c3 => ?_)
    · have h := sx_pos c3 h
      refine sx_aload_n (pc := 55) dX5_passDefinition_55 sx_m0 ?_
      refine sx_iconst (pc := 56) (v := 4) dX5_passDefinition_56 (by decide) ?_
      obtain ⟨V4, hV4⟩ : ∃ z : sv_V, z = sv_I V 69 14 (4 : Int32) := ⟨_, rfl⟩
      have h := sx_letE hV4 h
      refine sv_putI (pc := 57) hG dX5_passDefinition_57 f_5_56 lay_69 rfl hV4 ?_
      exact sv_vret (pc := 60) dX5_passDefinition_60 rfl h hP
    · have h := sx_neg c3 h
      refine sx_aload_n (pc := 20) dX5_passDefinition_20 sx_m0 ?_
      refine sv_getO (pc := 21) hG dX5_passDefinition_21 f_5_45 lay_69 rfl cr_69_0 ?_
      refine sx_aload_n (pc := 24) dX5_passDefinition_24 sx_m0 ?_
      refine sv_getI (pc := 25) hG dX5_passDefinition_25 f_5_93 lay_69 rfl ?_
      obtain ⟨⟨x7, V5⟩, g6, h⟩ := sx_bnd h
      refine sv_cV (pc := 28) (y := qX2_u1) (o := (some (.int x7))) (as := [.int (V.1 69 11)]) (V1 := V5) hG dX5_passDefinition_28 l_X5_156 y0X2_u1 yvX2_u1 rfl (Nat.le_of_ble_eq_true rfl) lay_2 kr_2 (by decide) (Nat.le_of_ble_eq_true rfl) rfl rfl rfl (t_X2_u1 hG ⟨rfl, rfl⟩ g6) ?_
      refine sx_istore_n (pc := 31) (lo' := [(2, .int x7), (0, .ref 69), (1, .int l1)]) dX5_passDefinition_31 (by decide) rfl ?_
      refine sx_aload_n (pc := 32) dX5_passDefinition_32 sx_m1 ?_
      obtain ⟨⟨x10, V8⟩, g9, h⟩ := sx_bnd h
      refine sv_cV (pc := 33) (y := qX5_passCode) (o := (some (.int x10))) (as := []) (V1 := V8) hG dX5_passDefinition_33 l_X5_330 y0X5_passCode yvX5_passCode rfl (Nat.le_of_ble_eq_true rfl) lay_69 kr_5 (by decide) (Nat.le_of_ble_eq_true rfl) rfl rfl rfl (t_X5_passCode hG ⟨rfl, rfl⟩ g9) ?_
      refine sx_if_ne (pc := 36) (tgt := 42) dX5_passDefinition_36 (by decide) (fun c11 => ?_) (fun c11 => ?_)
      · have h := sx_neg c11 h
        refine sx_iload_n (pc := 42) dX5_passDefinition_42 sx_m0 ?_
        refine sx_bipush (pc := 43) (v := 45) dX5_passDefinition_43 (by decide) ?_
        refine sx_icmp_ne (pc := 45) (tgt := 49) dX5_passDefinition_45 (by decide) (fun c12 => ?_) (fun c12 => ?_)
        · have h := sx_neg c12 h
          obtain ⟨x13, hx13⟩ : ∃ z : Int32, z = l1 + 1 := ⟨_, rfl⟩
          have h := sx_letE hx13 h
          refine sx_iinc (pc := 49) (v := x13) (lo' := [(1, .int x13), (2, .int x7), (0, .ref 69)]) dX5_passDefinition_49 sx_m2 (by rw [hx13]; rfl) (by decide) rfl ?_
          refine sx_goto (pc := 52) (tgt := 2) dX5_passDefinition_52 (by decide) ?_
          refine sx_wk (sx_s1 sx_m2 (sx_s1 sx_m0 sx_s0)) ?_
          exact hk2 _ _ h
        · have h := sx_pos c12 h
          exact sv_vret (pc := 48) dX5_passDefinition_48 rfl h hP
      · have h := sx_pos c11 h
        refine sx_goto (pc := 39) (tgt := 55) dX5_passDefinition_39 (by decide) ?_
        refine sx_aload_n (pc := 55) dX5_passDefinition_55 sx_m1 ?_
        refine sx_iconst (pc := 56) (v := 4) dX5_passDefinition_56 (by decide) ?_
        obtain ⟨V14, hV14⟩ : ∃ z : sv_V, z = sv_I V8 69 14 (4 : Int32) := ⟨_, rfl⟩
        have h := sx_letE hV14 h
        refine sv_putI (pc := 57) hG dX5_passDefinition_57 f_5_56 lay_69 rfl hV14 ?_
        exact sv_vret (pc := 60) dX5_passDefinition_60 rfl h hP
theorem tL_X5_passDefinition_2 {g : sx_G} (hG : sx_Go g) {P : Option Value → sv_V → Prop} {Vr : sv_V} (hP : P none Vr) {N : Nat}   : ∀ (n : Nat) (l1 : Int32) (V : sv_V), sx_lp2 (B_X5_passDefinition_2 N ) n l1 V = some Vr → sv_N g qX5_passDefinition 2 2 [(0, .ref 69), (1, .int l1)] [] V P :=
  sx_lp2_ind (fun k0 ih _ V h => tB_X5_passDefinition_2 hG hP ih h)
def F_X5_passDefinition (N : Nat)  (V : sv_V) : Option sv_V := sx_lp2 (B_X5_passDefinition_2 N ) N (0 : Int32) V
set_option maxRecDepth 20000 in
theorem t_X5_passDefinition {g : sx_G} (hG : sx_Go g) {P : Option Value → sv_V → Prop} {Vr : sv_V} (hP : P none Vr) {N : Nat}  {V : sv_V} (h : F_X5_passDefinition N  V = some Vr) : sv_N g qX5_passDefinition 2 0 [(0, .ref 69)] [] V P := by
  unfold F_X5_passDefinition at h
  refine sx_iconst (pc := 0) (v := 0) dX5_passDefinition_0 (by decide) ?_
  refine sx_istore_n (pc := 1) (lo' := [(1, .int (0 : Int32)), (0, .ref 69)]) dX5_passDefinition_1 (by decide) rfl ?_
  refine sx_wk (sx_s1 sx_m1 (sx_s1 sx_m0 sx_s0)) ?_
  exact tL_X5_passDefinition_2 hG hP  N _ _ h
theorem dX5_isDefining_0 : decode cX5_isDefining 0 = .ok (.aload_n 0, 1) := by decide +kernel
theorem dX5_isDefining_1 : decode cX5_isDefining 1 = .ok (.getfield 83, 3) := by decide +kernel
theorem dX5_isDefining_4 : decode cX5_isDefining 4 = .ok (.ifCond .eq 17, 3) := by decide +kernel
theorem dX5_isDefining_7 : decode cX5_isDefining 7 = .ok (.aload_n 0, 1) := by decide +kernel
theorem dX5_isDefining_8 : decode cX5_isDefining 8 = .ok (.getfield 21, 3) := by decide +kernel
theorem dX5_isDefining_11 : decode cX5_isDefining 11 = .ok (.getfield 99, 3) := by decide +kernel
theorem dX5_isDefining_14 : decode cX5_isDefining 14 = .ok (.ifCond .ne 7, 3) := by decide +kernel
theorem dX5_isDefining_17 : decode cX5_isDefining 17 = .ok (.iconst 1, 1) := by decide +kernel
theorem dX5_isDefining_18 : decode cX5_isDefining 18 = .ok (.goto 4, 3) := by decide +kernel
theorem dX5_isDefining_21 : decode cX5_isDefining 21 = .ok (.iconst 0, 1) := by decide +kernel
theorem dX5_isDefining_22 : decode cX5_isDefining 22 = .ok (.ireturn, 1) := by decide +kernel
def F_X5_isDefining  (V : sv_V) : Option (Int32 × sv_V) := if (V.1 69 8) = 0 then (some ((0 : Int32), V)) else (if (V.1 73 9) = 0 then (some ((1 : Int32), V)) else (some ((0 : Int32), V)))
set_option maxRecDepth 20000 in
theorem t_X5_isDefining {g : sx_G} (hG : sx_Go g) {P : Option Value → sv_V → Prop} {r : Int32} {Vr : sv_V} (hP : P (some (.int r)) Vr)  {V : sv_V} (h : F_X5_isDefining  V = some (r, Vr)) : sv_N g qX5_isDefining 0 0 [(0, .ref 69)] [] V P := by
  unfold F_X5_isDefining at h
  refine sx_aload_n (pc := 0) dX5_isDefining_0 sx_m0 ?_
  refine sv_getZ (pc := 1) hG dX5_isDefining_1 f_5_83 lay_69 rfl ?_
  refine sx_if_eq (pc := 4) (tgt := 21) dX5_isDefining_4 (by decide) (fun c1 => ?_) (fun c1 => ?_)
  · have h := sx_pos c1 h
    refine sx_iconst (pc := 21) (v := 0) dX5_isDefining_21 (by decide) ?_
    exact sv_zret (pc := 22) dX5_isDefining_22 rfl rfl h hP
  · have h := sx_neg c1 h
    refine sx_aload_n (pc := 7) dX5_isDefining_7 sx_m0 ?_
    refine sv_getO (pc := 8) hG dX5_isDefining_8 f_5_21 lay_69 rfl cr_69_2 ?_
    refine sv_getI (pc := 11) hG dX5_isDefining_11 f_5_99 lay_73 rfl ?_
    refine sx_if_ne (pc := 14) (tgt := 21) dX5_isDefining_14 (by decide) (fun c2 => ?_) (fun c2 => ?_)
    · have h := sx_neg c2 h
      refine sx_iconst (pc := 21) (v := 0) dX5_isDefining_21 (by decide) ?_
      exact sv_zret (pc := 22) dX5_isDefining_22 rfl rfl h hP
    · have h := sx_pos c2 h
      refine sx_iconst (pc := 17) (v := 1) dX5_isDefining_17 (by decide) ?_
      refine sx_goto (pc := 18) (tgt := 22) dX5_isDefining_18 (by decide) ?_
      exact sv_zret (pc := 22) dX5_isDefining_22 rfl rfl h hP
theorem dX5_noteRoutine_0 : decode cX5_noteRoutine 0 = .ok (.aload_n 0, 1) := by decide +kernel
theorem dX5_noteRoutine_1 : decode cX5_noteRoutine 1 = .ok (.getfield 21, 3) := by decide +kernel
theorem dX5_noteRoutine_4 : decode cX5_noteRoutine 4 = .ok (.getfield 346, 3) := by decide +kernel
theorem dX5_noteRoutine_7 : decode cX5_noteRoutine 7 = .ok (.iload_n 1, 1) := by decide +kernel
theorem dX5_noteRoutine_8 : decode cX5_noteRoutine 8 = .ok (.aload_n 0, 1) := by decide +kernel
theorem dX5_noteRoutine_9 : decode cX5_noteRoutine 9 = .ok (.getfield 87, 3) := by decide +kernel
theorem dX5_noteRoutine_12 : decode cX5_noteRoutine 12 = .ok (.iastore, 1) := by decide +kernel
theorem dX5_noteRoutine_13 : decode cX5_noteRoutine 13 = .ok (.aload_n 0, 1) := by decide +kernel
theorem dX5_noteRoutine_14 : decode cX5_noteRoutine 14 = .ok (.getfield 21, 3) := by decide +kernel
theorem dX5_noteRoutine_17 : decode cX5_noteRoutine 17 = .ok (.getfield 349, 3) := by decide +kernel
theorem dX5_noteRoutine_20 : decode cX5_noteRoutine 20 = .ok (.iload_n 1, 1) := by decide +kernel
theorem dX5_noteRoutine_21 : decode cX5_noteRoutine 21 = .ok (.aload_n 0, 1) := by decide +kernel
theorem dX5_noteRoutine_22 : decode cX5_noteRoutine 22 = .ok (.getfield 90, 3) := by decide +kernel
theorem dX5_noteRoutine_25 : decode cX5_noteRoutine 25 = .ok (.iastore, 1) := by decide +kernel
theorem dX5_noteRoutine_26 : decode cX5_noteRoutine 26 = .ok (.aload_n 0, 1) := by decide +kernel
theorem dX5_noteRoutine_27 : decode cX5_noteRoutine 27 = .ok (.getfield 21, 3) := by decide +kernel
theorem dX5_noteRoutine_30 : decode cX5_noteRoutine 30 = .ok (.getfield 352, 3) := by decide +kernel
theorem dX5_noteRoutine_33 : decode cX5_noteRoutine 33 = .ok (.iload_n 1, 1) := by decide +kernel
theorem dX5_noteRoutine_34 : decode cX5_noteRoutine 34 = .ok (.aload_n 0, 1) := by decide +kernel
theorem dX5_noteRoutine_35 : decode cX5_noteRoutine 35 = .ok (.getfield 93, 3) := by decide +kernel
theorem dX5_noteRoutine_38 : decode cX5_noteRoutine 38 = .ok (.iastore, 1) := by decide +kernel
theorem dX5_noteRoutine_39 : decode cX5_noteRoutine 39 = .ok (.return_, 1) := by decide +kernel
def F_X5_noteRoutine (l1 : Int32) (V : sv_V) : Option sv_V := if sx_in l1 320 = true then sx_let (sv_I V 74 l1.toNatClampNeg (V.1 69 9)) (fun V2 => if sx_in l1 320 = true then sx_let (sv_I V2 75 l1.toNatClampNeg (V2.1 69 10)) (fun V4 => if sx_in l1 320 = true then sx_let (sv_I V4 76 l1.toNatClampNeg (V4.1 69 11)) (fun V6 => some V6) else none) else none) else none
set_option maxRecDepth 20000 in
theorem t_X5_noteRoutine {g : sx_G} (hG : sx_Go g) {P : Option Value → sv_V → Prop} {Vr : sv_V} (hP : P none Vr) {l1 : Int32} {V : sv_V} (h : F_X5_noteRoutine l1 V = some Vr) : sv_N g qX5_noteRoutine 0 0 [(0, .ref 69), (1, .int l1)] [] V P := by
  unfold F_X5_noteRoutine at h
  refine sx_aload_n (pc := 0) dX5_noteRoutine_0 sx_m0 ?_
  refine sv_getO (pc := 1) hG dX5_noteRoutine_1 f_5_21 lay_69 rfl cr_69_2 ?_
  refine sv_getA (pc := 4) hG dX5_noteRoutine_4 f_5_346 lay_73 rfl cr_73_0 ?_
  refine sx_iload_n (pc := 7) dX5_noteRoutine_7 sx_m1 ?_
  refine sx_aload_n (pc := 8) dX5_noteRoutine_8 sx_m0 ?_
  refine sv_getI (pc := 9) hG dX5_noteRoutine_9 f_5_87 lay_69 rfl ?_
  obtain ⟨g1, h⟩ := sx_grd h
  obtain ⟨V2, hV2⟩ : ∃ z : sv_V, z = sv_I V 74 l1.toNatClampNeg (V.1 69 9) := ⟨_, rfl⟩
  have h := sx_letE hV2 h
  refine sv_iast (pc := 12) hG dX5_noteRoutine_12 lay_74 g1 hV2 ?_
  refine sx_aload_n (pc := 13) dX5_noteRoutine_13 sx_m0 ?_
  refine sv_getO (pc := 14) hG dX5_noteRoutine_14 f_5_21 lay_69 rfl cr_69_2 ?_
  refine sv_getA (pc := 17) hG dX5_noteRoutine_17 f_5_349 lay_73 rfl cr_73_1 ?_
  refine sx_iload_n (pc := 20) dX5_noteRoutine_20 sx_m1 ?_
  refine sx_aload_n (pc := 21) dX5_noteRoutine_21 sx_m0 ?_
  refine sv_getI (pc := 22) hG dX5_noteRoutine_22 f_5_90 lay_69 rfl ?_
  obtain ⟨g3, h⟩ := sx_grd h
  obtain ⟨V4, hV4⟩ : ∃ z : sv_V, z = sv_I V2 75 l1.toNatClampNeg (V2.1 69 10) := ⟨_, rfl⟩
  have h := sx_letE hV4 h
  refine sv_iast (pc := 25) hG dX5_noteRoutine_25 lay_75 g3 hV4 ?_
  refine sx_aload_n (pc := 26) dX5_noteRoutine_26 sx_m0 ?_
  refine sv_getO (pc := 27) hG dX5_noteRoutine_27 f_5_21 lay_69 rfl cr_69_2 ?_
  refine sv_getA (pc := 30) hG dX5_noteRoutine_30 f_5_352 lay_73 rfl cr_73_2 ?_
  refine sx_iload_n (pc := 33) dX5_noteRoutine_33 sx_m1 ?_
  refine sx_aload_n (pc := 34) dX5_noteRoutine_34 sx_m0 ?_
  refine sv_getI (pc := 35) hG dX5_noteRoutine_35 f_5_93 lay_69 rfl ?_
  obtain ⟨g5, h⟩ := sx_grd h
  obtain ⟨V6, hV6⟩ : ∃ z : sv_V, z = sv_I V4 76 l1.toNatClampNeg (V4.1 69 11) := ⟨_, rfl⟩
  have h := sx_letE hV6 h
  refine sv_iast (pc := 38) hG dX5_noteRoutine_38 lay_76 g5 hV6 ?_
  exact sv_vret (pc := 39) dX5_noteRoutine_39 rfl h hP
theorem dX5_enter_0 : decode cX5_enter 0 = .ok (.aload_n 0, 1) := by decide +kernel
theorem dX5_enter_1 : decode cX5_enter 1 = .ok (.getfield 21, 3) := by decide +kernel
theorem dX5_enter_4 : decode cX5_enter 4 = .ok (.getfield 99, 3) := by decide +kernel
theorem dX5_enter_7 : decode cX5_enter 7 = .ok (.istore_n 3, 1) := by decide +kernel
theorem dX5_enter_8 : decode cX5_enter 8 = .ok (.iload_n 3, 1) := by decide +kernel
theorem dX5_enter_9 : decode cX5_enter 9 = .ok (.bipush 32, 2) := by decide +kernel
theorem dX5_enter_11 : decode cX5_enter 11 = .ok (.if_icmp .lt 10, 3) := by decide +kernel
theorem dX5_enter_14 : decode cX5_enter 14 = .ok (.aload_n 0, 1) := by decide +kernel
theorem dX5_enter_15 : decode cX5_enter 15 = .ok (.bipush 9, 2) := by decide +kernel
theorem dX5_enter_17 : decode cX5_enter 17 = .ok (.putfield 56, 3) := by decide +kernel
theorem dX5_enter_20 : decode cX5_enter 20 = .ok (.return_, 1) := by decide +kernel
theorem dX5_enter_21 : decode cX5_enter 21 = .ok (.aload_n 0, 1) := by decide +kernel
theorem dX5_enter_22 : decode cX5_enter 22 = .ok (.getfield 21, 3) := by decide +kernel
theorem dX5_enter_25 : decode cX5_enter 25 = .ok (.getfield 361, 3) := by decide +kernel
theorem dX5_enter_28 : decode cX5_enter 28 = .ok (.iload_n 3, 1) := by decide +kernel
theorem dX5_enter_29 : decode cX5_enter 29 = .ok (.iload_n 1, 1) := by decide +kernel
theorem dX5_enter_30 : decode cX5_enter 30 = .ok (.iastore, 1) := by decide +kernel
theorem dX5_enter_31 : decode cX5_enter 31 = .ok (.aload_n 0, 1) := by decide +kernel
theorem dX5_enter_32 : decode cX5_enter 32 = .ok (.getfield 21, 3) := by decide +kernel
theorem dX5_enter_35 : decode cX5_enter 35 = .ok (.getfield 364, 3) := by decide +kernel
theorem dX5_enter_38 : decode cX5_enter 38 = .ok (.iload_n 3, 1) := by decide +kernel
theorem dX5_enter_39 : decode cX5_enter 39 = .ok (.iload_n 2, 1) := by decide +kernel
theorem dX5_enter_40 : decode cX5_enter 40 = .ok (.iastore, 1) := by decide +kernel
theorem dX5_enter_41 : decode cX5_enter 41 = .ok (.aload_n 0, 1) := by decide +kernel
theorem dX5_enter_42 : decode cX5_enter 42 = .ok (.getfield 21, 3) := by decide +kernel
theorem dX5_enter_45 : decode cX5_enter 45 = .ok (.getfield 367, 3) := by decide +kernel
theorem dX5_enter_48 : decode cX5_enter 48 = .ok (.iload_n 3, 1) := by decide +kernel
theorem dX5_enter_49 : decode cX5_enter 49 = .ok (.aload_n 0, 1) := by decide +kernel
theorem dX5_enter_50 : decode cX5_enter 50 = .ok (.getfield 87, 3) := by decide +kernel
theorem dX5_enter_53 : decode cX5_enter 53 = .ok (.iastore, 1) := by decide +kernel
theorem dX5_enter_54 : decode cX5_enter 54 = .ok (.aload_n 0, 1) := by decide +kernel
theorem dX5_enter_55 : decode cX5_enter 55 = .ok (.getfield 21, 3) := by decide +kernel
theorem dX5_enter_58 : decode cX5_enter 58 = .ok (.getfield 370, 3) := by decide +kernel
theorem dX5_enter_61 : decode cX5_enter 61 = .ok (.iload_n 3, 1) := by decide +kernel
theorem dX5_enter_62 : decode cX5_enter 62 = .ok (.aload_n 0, 1) := by decide +kernel
theorem dX5_enter_63 : decode cX5_enter 63 = .ok (.getfield 90, 3) := by decide +kernel
theorem dX5_enter_66 : decode cX5_enter 66 = .ok (.iastore, 1) := by decide +kernel
theorem dX5_enter_67 : decode cX5_enter 67 = .ok (.aload_n 0, 1) := by decide +kernel
theorem dX5_enter_68 : decode cX5_enter 68 = .ok (.getfield 21, 3) := by decide +kernel
theorem dX5_enter_71 : decode cX5_enter 71 = .ok (.getfield 373, 3) := by decide +kernel
theorem dX5_enter_74 : decode cX5_enter 74 = .ok (.iload_n 3, 1) := by decide +kernel
theorem dX5_enter_75 : decode cX5_enter 75 = .ok (.aload_n 0, 1) := by decide +kernel
theorem dX5_enter_76 : decode cX5_enter 76 = .ok (.getfield 93, 3) := by decide +kernel
theorem dX5_enter_79 : decode cX5_enter 79 = .ok (.iastore, 1) := by decide +kernel
theorem dX5_enter_80 : decode cX5_enter 80 = .ok (.aload_n 0, 1) := by decide +kernel
theorem dX5_enter_81 : decode cX5_enter 81 = .ok (.getfield 21, 3) := by decide +kernel
theorem dX5_enter_84 : decode cX5_enter 84 = .ok (.iload_n 3, 1) := by decide +kernel
theorem dX5_enter_85 : decode cX5_enter 85 = .ok (.iconst 1, 1) := by decide +kernel
theorem dX5_enter_86 : decode cX5_enter 86 = .ok (.iadd, 1) := by decide +kernel
theorem dX5_enter_87 : decode cX5_enter 87 = .ok (.putfield 99, 3) := by decide +kernel
theorem dX5_enter_90 : decode cX5_enter 90 = .ok (.aload_n 0, 1) := by decide +kernel
theorem dX5_enter_91 : decode cX5_enter 91 = .ok (.aload_n 0, 1) := by decide +kernel
theorem dX5_enter_92 : decode cX5_enter 92 = .ok (.getfield 21, 3) := by decide +kernel
theorem dX5_enter_95 : decode cX5_enter 95 = .ok (.getfield 346, 3) := by decide +kernel
theorem dX5_enter_98 : decode cX5_enter 98 = .ok (.iload_n 1, 1) := by decide +kernel
theorem dX5_enter_99 : decode cX5_enter 99 = .ok (.iaload, 1) := by decide +kernel
theorem dX5_enter_100 : decode cX5_enter 100 = .ok (.putfield 87, 3) := by decide +kernel
theorem dX5_enter_103 : decode cX5_enter 103 = .ok (.aload_n 0, 1) := by decide +kernel
theorem dX5_enter_104 : decode cX5_enter 104 = .ok (.aload_n 0, 1) := by decide +kernel
theorem dX5_enter_105 : decode cX5_enter 105 = .ok (.getfield 21, 3) := by decide +kernel
theorem dX5_enter_108 : decode cX5_enter 108 = .ok (.getfield 349, 3) := by decide +kernel
theorem dX5_enter_111 : decode cX5_enter 111 = .ok (.iload_n 1, 1) := by decide +kernel
theorem dX5_enter_112 : decode cX5_enter 112 = .ok (.iaload, 1) := by decide +kernel
theorem dX5_enter_113 : decode cX5_enter 113 = .ok (.putfield 90, 3) := by decide +kernel
theorem dX5_enter_116 : decode cX5_enter 116 = .ok (.aload_n 0, 1) := by decide +kernel
theorem dX5_enter_117 : decode cX5_enter 117 = .ok (.aload_n 0, 1) := by decide +kernel
theorem dX5_enter_118 : decode cX5_enter 118 = .ok (.getfield 21, 3) := by decide +kernel
theorem dX5_enter_121 : decode cX5_enter 121 = .ok (.getfield 352, 3) := by decide +kernel
theorem dX5_enter_124 : decode cX5_enter 124 = .ok (.iload_n 1, 1) := by decide +kernel
theorem dX5_enter_125 : decode cX5_enter 125 = .ok (.iaload, 1) := by decide +kernel
theorem dX5_enter_126 : decode cX5_enter 126 = .ok (.putfield 93, 3) := by decide +kernel
theorem dX5_enter_129 : decode cX5_enter 129 = .ok (.return_, 1) := by decide +kernel
def F_X5_enter (l1 : Int32) (l2 : Int32) (V : sv_V) : Option sv_V := sx_let (V.1 73 9) (fun x1 => if x1 < (32 : Int32) then (if sx_in x1 32 = true then sx_let (sv_I V 77 x1.toNatClampNeg l1) (fun V4 => if sx_in x1 32 = true then sx_let (sv_I V4 78 x1.toNatClampNeg l2) (fun V6 => if sx_in x1 32 = true then sx_let (sv_I V6 79 x1.toNatClampNeg (V6.1 69 9)) (fun V8 => if sx_in x1 32 = true then sx_let (sv_I V8 80 x1.toNatClampNeg (V8.1 69 10)) (fun V10 => if sx_in x1 32 = true then sx_let (sv_I V10 81 x1.toNatClampNeg (V10.1 69 11)) (fun V12 => sx_let (sv_I V12 73 9 (x1 + (1 : Int32))) (fun V13 => if sx_in l1 320 = true then sx_let (sv_I V13 69 9 (V13.1 74 l1.toNatClampNeg)) (fun V15 => if sx_in l1 320 = true then sx_let (sv_I V15 69 10 (V15.1 75 l1.toNatClampNeg)) (fun V17 => if sx_in l1 320 = true then sx_let (sv_I V17 69 11 (V17.1 76 l1.toNatClampNeg)) (fun V19 => some V19) else none) else none) else none)) else none) else none) else none) else none) else none) else (sx_let (sv_I V 69 14 (9 : Int32)) (fun V20 => some V20)))
set_option maxRecDepth 20000 in
theorem t_X5_enter {g : sx_G} (hG : sx_Go g) {P : Option Value → sv_V → Prop} {Vr : sv_V} (hP : P none Vr) {l1 : Int32} {l2 : Int32} {V : sv_V} (h : F_X5_enter l1 l2 V = some Vr) : sv_N g qX5_enter 0 0 [(0, .ref 69), (1, .int l1), (2, .int l2)] [] V P := by
  unfold F_X5_enter at h
  refine sx_aload_n (pc := 0) dX5_enter_0 sx_m0 ?_
  refine sv_getO (pc := 1) hG dX5_enter_1 f_5_21 lay_69 rfl cr_69_2 ?_
  refine sv_getI (pc := 4) hG dX5_enter_4 f_5_99 lay_73 rfl ?_
  refine sv_tI (fun x1 hx1 => ?_)
  have h := sx_letE hx1 h
  refine sx_istore_n (pc := 7) (lo' := [(3, .int x1), (0, .ref 69), (1, .int l1), (2, .int l2)]) dX5_enter_7 (by decide) rfl ?_
  refine sx_iload_n (pc := 8) dX5_enter_8 sx_m0 ?_
  refine sx_bipush (pc := 9) (v := 32) dX5_enter_9 (by decide) ?_
  refine sx_icmp_lt (pc := 11) (tgt := 21) dX5_enter_11 (by decide) (fun c2 => ?_) (fun c2 => ?_)
  · have h := sx_pos c2 h
    refine sx_aload_n (pc := 21) dX5_enter_21 sx_m1 ?_
    refine sv_getO (pc := 22) hG dX5_enter_22 f_5_21 lay_69 rfl cr_69_2 ?_
    refine sv_getA (pc := 25) hG dX5_enter_25 f_5_361 lay_73 rfl cr_73_4 ?_
    refine sx_iload_n (pc := 28) dX5_enter_28 sx_m0 ?_
    refine sx_iload_n (pc := 29) dX5_enter_29 sx_m2 ?_
    obtain ⟨g3, h⟩ := sx_grd h
    obtain ⟨V4, hV4⟩ : ∃ z : sv_V, z = sv_I V 77 x1.toNatClampNeg l1 := ⟨_, rfl⟩
    have h := sx_letE hV4 h
    refine sv_iast (pc := 30) hG dX5_enter_30 lay_77 g3 hV4 ?_
    refine sx_aload_n (pc := 31) dX5_enter_31 sx_m1 ?_
    refine sv_getO (pc := 32) hG dX5_enter_32 f_5_21 lay_69 rfl cr_69_2 ?_
    refine sv_getA (pc := 35) hG dX5_enter_35 f_5_364 lay_73 rfl cr_73_5 ?_
    refine sx_iload_n (pc := 38) dX5_enter_38 sx_m0 ?_
    refine sx_iload_n (pc := 39) dX5_enter_39 sx_m3 ?_
    obtain ⟨g5, h⟩ := sx_grd h
    obtain ⟨V6, hV6⟩ : ∃ z : sv_V, z = sv_I V4 78 x1.toNatClampNeg l2 := ⟨_, rfl⟩
    have h := sx_letE hV6 h
    refine sv_iast (pc := 40) hG dX5_enter_40 lay_78 g5 hV6 ?_
    refine sx_aload_n (pc := 41) dX5_enter_41 sx_m1 ?_
    refine sv_getO (pc := 42) hG dX5_enter_42 f_5_21 lay_69 rfl cr_69_2 ?_
    refine sv_getA (pc := 45) hG dX5_enter_45 f_5_367 lay_73 rfl cr_73_6 ?_
    refine sx_iload_n (pc := 48) dX5_enter_48 sx_m0 ?_
    refine sx_aload_n (pc := 49) dX5_enter_49 sx_m1 ?_
    refine sv_getI (pc := 50) hG dX5_enter_50 f_5_87 lay_69 rfl ?_
    obtain ⟨g7, h⟩ := sx_grd h
    obtain ⟨V8, hV8⟩ : ∃ z : sv_V, z = sv_I V6 79 x1.toNatClampNeg (V6.1 69 9) := ⟨_, rfl⟩
    have h := sx_letE hV8 h
    refine sv_iast (pc := 53) hG dX5_enter_53 lay_79 g7 hV8 ?_
    refine sx_aload_n (pc := 54) dX5_enter_54 sx_m1 ?_
    refine sv_getO (pc := 55) hG dX5_enter_55 f_5_21 lay_69 rfl cr_69_2 ?_
    refine sv_getA (pc := 58) hG dX5_enter_58 f_5_370 lay_73 rfl cr_73_7 ?_
    refine sx_iload_n (pc := 61) dX5_enter_61 sx_m0 ?_
    refine sx_aload_n (pc := 62) dX5_enter_62 sx_m1 ?_
    refine sv_getI (pc := 63) hG dX5_enter_63 f_5_90 lay_69 rfl ?_
    obtain ⟨g9, h⟩ := sx_grd h
    obtain ⟨V10, hV10⟩ : ∃ z : sv_V, z = sv_I V8 80 x1.toNatClampNeg (V8.1 69 10) := ⟨_, rfl⟩
    have h := sx_letE hV10 h
    refine sv_iast (pc := 66) hG dX5_enter_66 lay_80 g9 hV10 ?_
    refine sx_aload_n (pc := 67) dX5_enter_67 sx_m1 ?_
    refine sv_getO (pc := 68) hG dX5_enter_68 f_5_21 lay_69 rfl cr_69_2 ?_
    refine sv_getA (pc := 71) hG dX5_enter_71 f_5_373 lay_73 rfl cr_73_8 ?_
    refine sx_iload_n (pc := 74) dX5_enter_74 sx_m0 ?_
    refine sx_aload_n (pc := 75) dX5_enter_75 sx_m1 ?_
    refine sv_getI (pc := 76) hG dX5_enter_76 f_5_93 lay_69 rfl ?_
    obtain ⟨g11, h⟩ := sx_grd h
    obtain ⟨V12, hV12⟩ : ∃ z : sv_V, z = sv_I V10 81 x1.toNatClampNeg (V10.1 69 11) := ⟨_, rfl⟩
    have h := sx_letE hV12 h
    refine sv_iast (pc := 79) hG dX5_enter_79 lay_81 g11 hV12 ?_
    refine sx_aload_n (pc := 80) dX5_enter_80 sx_m1 ?_
    refine sv_getO (pc := 81) hG dX5_enter_81 f_5_21 lay_69 rfl cr_69_2 ?_
    refine sx_iload_n (pc := 84) dX5_enter_84 sx_m0 ?_
    refine sx_iconst (pc := 85) (v := 1) dX5_enter_85 (by decide) ?_
    refine sx_iadd (pc := 86) dX5_enter_86 ?_
    obtain ⟨V13, hV13⟩ : ∃ z : sv_V, z = sv_I V12 73 9 (x1 + (1 : Int32)) := ⟨_, rfl⟩
    have h := sx_letE hV13 h
    refine sv_putI (pc := 87) hG dX5_enter_87 f_5_99 lay_73 rfl hV13 ?_
    refine sx_aload_n (pc := 90) dX5_enter_90 sx_m1 ?_
    refine sx_aload_n (pc := 91) dX5_enter_91 sx_m1 ?_
    refine sv_getO (pc := 92) hG dX5_enter_92 f_5_21 lay_69 rfl cr_69_2 ?_
    refine sv_getA (pc := 95) hG dX5_enter_95 f_5_346 lay_73 rfl cr_73_0 ?_
    refine sx_iload_n (pc := 98) dX5_enter_98 sx_m2 ?_
    obtain ⟨g14, h⟩ := sx_grd h
    refine sv_iald (pc := 99) hG dX5_enter_99 lay_74 g14 ?_
    obtain ⟨V15, hV15⟩ : ∃ z : sv_V, z = sv_I V13 69 9 (V13.1 74 l1.toNatClampNeg) := ⟨_, rfl⟩
    have h := sx_letE hV15 h
    refine sv_putI (pc := 100) hG dX5_enter_100 f_5_87 lay_69 rfl hV15 ?_
    refine sx_aload_n (pc := 103) dX5_enter_103 sx_m1 ?_
    refine sx_aload_n (pc := 104) dX5_enter_104 sx_m1 ?_
    refine sv_getO (pc := 105) hG dX5_enter_105 f_5_21 lay_69 rfl cr_69_2 ?_
    refine sv_getA (pc := 108) hG dX5_enter_108 f_5_349 lay_73 rfl cr_73_1 ?_
    refine sx_iload_n (pc := 111) dX5_enter_111 sx_m2 ?_
    obtain ⟨g16, h⟩ := sx_grd h
    refine sv_iald (pc := 112) hG dX5_enter_112 lay_75 g16 ?_
    obtain ⟨V17, hV17⟩ : ∃ z : sv_V, z = sv_I V15 69 10 (V15.1 75 l1.toNatClampNeg) := ⟨_, rfl⟩
    have h := sx_letE hV17 h
    refine sv_putI (pc := 113) hG dX5_enter_113 f_5_90 lay_69 rfl hV17 ?_
    refine sx_aload_n (pc := 116) dX5_enter_116 sx_m1 ?_
    refine sx_aload_n (pc := 117) dX5_enter_117 sx_m1 ?_
    refine sv_getO (pc := 118) hG dX5_enter_118 f_5_21 lay_69 rfl cr_69_2 ?_
    refine sv_getA (pc := 121) hG dX5_enter_121 f_5_352 lay_73 rfl cr_73_2 ?_
    refine sx_iload_n (pc := 124) dX5_enter_124 sx_m2 ?_
    obtain ⟨g18, h⟩ := sx_grd h
    refine sv_iald (pc := 125) hG dX5_enter_125 lay_76 g18 ?_
    obtain ⟨V19, hV19⟩ : ∃ z : sv_V, z = sv_I V17 69 11 (V17.1 76 l1.toNatClampNeg) := ⟨_, rfl⟩
    have h := sx_letE hV19 h
    refine sv_putI (pc := 126) hG dX5_enter_126 f_5_93 lay_69 rfl hV19 ?_
    exact sv_vret (pc := 129) dX5_enter_129 rfl h hP
  · have h := sx_neg c2 h
    refine sx_aload_n (pc := 14) dX5_enter_14 sx_m1 ?_
    refine sx_bipush (pc := 15) (v := 9) dX5_enter_15 (by decide) ?_
    obtain ⟨V20, hV20⟩ : ∃ z : sv_V, z = sv_I V 69 14 (9 : Int32) := ⟨_, rfl⟩
    have h := sx_letE hV20 h
    refine sv_putI (pc := 17) hG dX5_enter_17 f_5_56 lay_69 rfl hV20 ?_
    exact sv_vret (pc := 20) dX5_enter_20 rfl h hP
theorem dX5_endRoutine_0 : decode cX5_endRoutine 0 = .ok (.aload_n 0, 1) := by decide +kernel
theorem dX5_endRoutine_1 : decode cX5_endRoutine 1 = .ok (.getfield 21, 3) := by decide +kernel
theorem dX5_endRoutine_4 : decode cX5_endRoutine 4 = .ok (.getfield 99, 3) := by decide +kernel
theorem dX5_endRoutine_7 : decode cX5_endRoutine 7 = .ok (.iconst 1, 1) := by decide +kernel
theorem dX5_endRoutine_8 : decode cX5_endRoutine 8 = .ok (.isub, 1) := by decide +kernel
theorem dX5_endRoutine_9 : decode cX5_endRoutine 9 = .ok (.istore_n 1, 1) := by decide +kernel
theorem dX5_endRoutine_10 : decode cX5_endRoutine 10 = .ok (.iload_n 1, 1) := by decide +kernel
theorem dX5_endRoutine_11 : decode cX5_endRoutine 11 = .ok (.ifCond .ge 9, 3) := by decide +kernel
theorem dX5_endRoutine_14 : decode cX5_endRoutine 14 = .ok (.aload_n 0, 1) := by decide +kernel
theorem dX5_endRoutine_15 : decode cX5_endRoutine 15 = .ok (.iconst 4, 1) := by decide +kernel
theorem dX5_endRoutine_16 : decode cX5_endRoutine 16 = .ok (.putfield 56, 3) := by decide +kernel
theorem dX5_endRoutine_19 : decode cX5_endRoutine 19 = .ok (.return_, 1) := by decide +kernel
theorem dX5_endRoutine_20 : decode cX5_endRoutine 20 = .ok (.aload_n 0, 1) := by decide +kernel
theorem dX5_endRoutine_21 : decode cX5_endRoutine 21 = .ok (.getfield 21, 3) := by decide +kernel
theorem dX5_endRoutine_24 : decode cX5_endRoutine 24 = .ok (.getfield 364, 3) := by decide +kernel
theorem dX5_endRoutine_27 : decode cX5_endRoutine 27 = .ok (.iload_n 1, 1) := by decide +kernel
theorem dX5_endRoutine_28 : decode cX5_endRoutine 28 = .ok (.dup2, 1) := by decide +kernel
theorem dX5_endRoutine_29 : decode cX5_endRoutine 29 = .ok (.iaload, 1) := by decide +kernel
theorem dX5_endRoutine_30 : decode cX5_endRoutine 30 = .ok (.iconst 1, 1) := by decide +kernel
theorem dX5_endRoutine_31 : decode cX5_endRoutine 31 = .ok (.isub, 1) := by decide +kernel
theorem dX5_endRoutine_32 : decode cX5_endRoutine 32 = .ok (.iastore, 1) := by decide +kernel
theorem dX5_endRoutine_33 : decode cX5_endRoutine 33 = .ok (.aload_n 0, 1) := by decide +kernel
theorem dX5_endRoutine_34 : decode cX5_endRoutine 34 = .ok (.getfield 21, 3) := by decide +kernel
theorem dX5_endRoutine_37 : decode cX5_endRoutine 37 = .ok (.getfield 364, 3) := by decide +kernel
theorem dX5_endRoutine_40 : decode cX5_endRoutine 40 = .ok (.iload_n 1, 1) := by decide +kernel
theorem dX5_endRoutine_41 : decode cX5_endRoutine 41 = .ok (.iaload, 1) := by decide +kernel
theorem dX5_endRoutine_42 : decode cX5_endRoutine 42 = .ok (.ifCond .le 25, 3) := by decide +kernel
theorem dX5_endRoutine_45 : decode cX5_endRoutine 45 = .ok (.aload_n 0, 1) := by decide +kernel
theorem dX5_endRoutine_46 : decode cX5_endRoutine 46 = .ok (.aload_n 0, 1) := by decide +kernel
theorem dX5_endRoutine_47 : decode cX5_endRoutine 47 = .ok (.getfield 21, 3) := by decide +kernel
theorem dX5_endRoutine_50 : decode cX5_endRoutine 50 = .ok (.getfield 352, 3) := by decide +kernel
theorem dX5_endRoutine_53 : decode cX5_endRoutine 53 = .ok (.aload_n 0, 1) := by decide +kernel
theorem dX5_endRoutine_54 : decode cX5_endRoutine 54 = .ok (.getfield 21, 3) := by decide +kernel
theorem dX5_endRoutine_57 : decode cX5_endRoutine 57 = .ok (.getfield 361, 3) := by decide +kernel
theorem dX5_endRoutine_60 : decode cX5_endRoutine 60 = .ok (.iload_n 1, 1) := by decide +kernel
theorem dX5_endRoutine_61 : decode cX5_endRoutine 61 = .ok (.iaload, 1) := by decide +kernel
theorem dX5_endRoutine_62 : decode cX5_endRoutine 62 = .ok (.iaload, 1) := by decide +kernel
theorem dX5_endRoutine_63 : decode cX5_endRoutine 63 = .ok (.putfield 93, 3) := by decide +kernel
theorem dX5_endRoutine_66 : decode cX5_endRoutine 66 = .ok (.return_, 1) := by decide +kernel
theorem dX5_endRoutine_67 : decode cX5_endRoutine 67 = .ok (.aload_n 0, 1) := by decide +kernel
theorem dX5_endRoutine_68 : decode cX5_endRoutine 68 = .ok (.aload_n 0, 1) := by decide +kernel
theorem dX5_endRoutine_69 : decode cX5_endRoutine 69 = .ok (.getfield 21, 3) := by decide +kernel
theorem dX5_endRoutine_72 : decode cX5_endRoutine 72 = .ok (.getfield 367, 3) := by decide +kernel
theorem dX5_endRoutine_75 : decode cX5_endRoutine 75 = .ok (.iload_n 1, 1) := by decide +kernel
theorem dX5_endRoutine_76 : decode cX5_endRoutine 76 = .ok (.iaload, 1) := by decide +kernel
theorem dX5_endRoutine_77 : decode cX5_endRoutine 77 = .ok (.putfield 87, 3) := by decide +kernel
theorem dX5_endRoutine_80 : decode cX5_endRoutine 80 = .ok (.aload_n 0, 1) := by decide +kernel
theorem dX5_endRoutine_81 : decode cX5_endRoutine 81 = .ok (.aload_n 0, 1) := by decide +kernel
theorem dX5_endRoutine_82 : decode cX5_endRoutine 82 = .ok (.getfield 21, 3) := by decide +kernel
theorem dX5_endRoutine_85 : decode cX5_endRoutine 85 = .ok (.getfield 370, 3) := by decide +kernel
theorem dX5_endRoutine_88 : decode cX5_endRoutine 88 = .ok (.iload_n 1, 1) := by decide +kernel
theorem dX5_endRoutine_89 : decode cX5_endRoutine 89 = .ok (.iaload, 1) := by decide +kernel
theorem dX5_endRoutine_90 : decode cX5_endRoutine 90 = .ok (.putfield 90, 3) := by decide +kernel
theorem dX5_endRoutine_93 : decode cX5_endRoutine 93 = .ok (.aload_n 0, 1) := by decide +kernel
theorem dX5_endRoutine_94 : decode cX5_endRoutine 94 = .ok (.aload_n 0, 1) := by decide +kernel
theorem dX5_endRoutine_95 : decode cX5_endRoutine 95 = .ok (.getfield 21, 3) := by decide +kernel
theorem dX5_endRoutine_98 : decode cX5_endRoutine 98 = .ok (.getfield 373, 3) := by decide +kernel
theorem dX5_endRoutine_101 : decode cX5_endRoutine 101 = .ok (.iload_n 1, 1) := by decide +kernel
theorem dX5_endRoutine_102 : decode cX5_endRoutine 102 = .ok (.iaload, 1) := by decide +kernel
theorem dX5_endRoutine_103 : decode cX5_endRoutine 103 = .ok (.putfield 93, 3) := by decide +kernel
theorem dX5_endRoutine_106 : decode cX5_endRoutine 106 = .ok (.aload_n 0, 1) := by decide +kernel
theorem dX5_endRoutine_107 : decode cX5_endRoutine 107 = .ok (.getfield 21, 3) := by decide +kernel
theorem dX5_endRoutine_110 : decode cX5_endRoutine 110 = .ok (.iload_n 1, 1) := by decide +kernel
theorem dX5_endRoutine_111 : decode cX5_endRoutine 111 = .ok (.putfield 99, 3) := by decide +kernel
theorem dX5_endRoutine_114 : decode cX5_endRoutine 114 = .ok (.return_, 1) := by decide +kernel
def F_X5_endRoutine  (V : sv_V) : Option sv_V := sx_let ((V.1 73 9) - (1 : Int32)) (fun x1 => if 0 ≤ x1 then (if sx_in x1 32 = true then if sx_in x1 32 = true then sx_let (sv_I V 78 x1.toNatClampNeg ((V.1 78 x1.toNatClampNeg) - (1 : Int32))) (fun V5 => if sx_in x1 32 = true then if (V5.1 78 x1.toNatClampNeg) ≤ 0 then (if sx_in x1 32 = true then sx_let (sv_I V5 69 9 (V5.1 79 x1.toNatClampNeg)) (fun V9 => if sx_in x1 32 = true then sx_let (sv_I V9 69 10 (V9.1 80 x1.toNatClampNeg)) (fun V11 => if sx_in x1 32 = true then sx_let (sv_I V11 69 11 (V11.1 81 x1.toNatClampNeg)) (fun V13 => sx_let (sv_I V13 73 9 x1) (fun V14 => some V14)) else none) else none) else none) else (if sx_in x1 32 = true then if sx_in (V5.1 77 x1.toNatClampNeg) 320 = true then sx_let (sv_I V5 69 11 (V5.1 76 (V5.1 77 x1.toNatClampNeg).toNatClampNeg)) (fun V17 => some V17) else none else none) else none) else none else none) else (sx_let (sv_I V 69 14 (4 : Int32)) (fun V18 => some V18)))
set_option maxRecDepth 20000 in
theorem t_X5_endRoutine {g : sx_G} (hG : sx_Go g) {P : Option Value → sv_V → Prop} {Vr : sv_V} (hP : P none Vr)  {V : sv_V} (h : F_X5_endRoutine  V = some Vr) : sv_N g qX5_endRoutine 0 0 [(0, .ref 69)] [] V P := by
  unfold F_X5_endRoutine at h
  refine sx_aload_n (pc := 0) dX5_endRoutine_0 sx_m0 ?_
  refine sv_getO (pc := 1) hG dX5_endRoutine_1 f_5_21 lay_69 rfl cr_69_2 ?_
  refine sv_getI (pc := 4) hG dX5_endRoutine_4 f_5_99 lay_73 rfl ?_
  refine sx_iconst (pc := 7) (v := 1) dX5_endRoutine_7 (by decide) ?_
  refine sx_isub (pc := 8) dX5_endRoutine_8 ?_
  refine sv_tI (fun x1 hx1 => ?_)
  have h := sx_letE hx1 h
  refine sx_istore_n (pc := 9) (lo' := [(1, .int x1), (0, .ref 69)]) dX5_endRoutine_9 (by decide) rfl ?_
  refine sx_iload_n (pc := 10) dX5_endRoutine_10 sx_m0 ?_
  refine sx_if_ge (pc := 11) (tgt := 20) dX5_endRoutine_11 (by decide) (fun c2 => ?_) (fun c2 => ?_)
  · have h := sx_pos c2 h
    refine sx_aload_n (pc := 20) dX5_endRoutine_20 sx_m1 ?_
    refine sv_getO (pc := 21) hG dX5_endRoutine_21 f_5_21 lay_69 rfl cr_69_2 ?_
    refine sv_getA (pc := 24) hG dX5_endRoutine_24 f_5_364 lay_73 rfl cr_73_5 ?_
    refine sx_iload_n (pc := 27) dX5_endRoutine_27 sx_m0 ?_
    refine sx_dup2 (pc := 28) dX5_endRoutine_28 rfl rfl ?_
    obtain ⟨g3, h⟩ := sx_grd h
    refine sv_iald (pc := 29) hG dX5_endRoutine_29 lay_78 g3 ?_
    refine sx_iconst (pc := 30) (v := 1) dX5_endRoutine_30 (by decide) ?_
    refine sx_isub (pc := 31) dX5_endRoutine_31 ?_
    obtain ⟨g4, h⟩ := sx_grd h
    obtain ⟨V5, hV5⟩ : ∃ z : sv_V, z = sv_I V 78 x1.toNatClampNeg ((V.1 78 x1.toNatClampNeg) - (1 : Int32)) := ⟨_, rfl⟩
    have h := sx_letE hV5 h
    refine sv_iast (pc := 32) hG dX5_endRoutine_32 lay_78 g4 hV5 ?_
    refine sx_aload_n (pc := 33) dX5_endRoutine_33 sx_m1 ?_
    refine sv_getO (pc := 34) hG dX5_endRoutine_34 f_5_21 lay_69 rfl cr_69_2 ?_
    refine sv_getA (pc := 37) hG dX5_endRoutine_37 f_5_364 lay_73 rfl cr_73_5 ?_
    refine sx_iload_n (pc := 40) dX5_endRoutine_40 sx_m0 ?_
    obtain ⟨g6, h⟩ := sx_grd h
    refine sv_iald (pc := 41) hG dX5_endRoutine_41 lay_78 g6 ?_
    refine sx_if_le (pc := 42) (tgt := 67) dX5_endRoutine_42 (by decide) (fun c7 => ?_) (fun c7 => ?_)
    · have h := sx_pos c7 h
      refine sx_aload_n (pc := 67) dX5_endRoutine_67 sx_m1 ?_
      refine sx_aload_n (pc := 68) dX5_endRoutine_68 sx_m1 ?_
      refine sv_getO (pc := 69) hG dX5_endRoutine_69 f_5_21 lay_69 rfl cr_69_2 ?_
      refine sv_getA (pc := 72) hG dX5_endRoutine_72 f_5_367 lay_73 rfl cr_73_6 ?_
      refine sx_iload_n (pc := 75) dX5_endRoutine_75 sx_m0 ?_
      obtain ⟨g8, h⟩ := sx_grd h
      refine sv_iald (pc := 76) hG dX5_endRoutine_76 lay_79 g8 ?_
      obtain ⟨V9, hV9⟩ : ∃ z : sv_V, z = sv_I V5 69 9 (V5.1 79 x1.toNatClampNeg) := ⟨_, rfl⟩
      have h := sx_letE hV9 h
      refine sv_putI (pc := 77) hG dX5_endRoutine_77 f_5_87 lay_69 rfl hV9 ?_
      refine sx_aload_n (pc := 80) dX5_endRoutine_80 sx_m1 ?_
      refine sx_aload_n (pc := 81) dX5_endRoutine_81 sx_m1 ?_
      refine sv_getO (pc := 82) hG dX5_endRoutine_82 f_5_21 lay_69 rfl cr_69_2 ?_
      refine sv_getA (pc := 85) hG dX5_endRoutine_85 f_5_370 lay_73 rfl cr_73_7 ?_
      refine sx_iload_n (pc := 88) dX5_endRoutine_88 sx_m0 ?_
      obtain ⟨g10, h⟩ := sx_grd h
      refine sv_iald (pc := 89) hG dX5_endRoutine_89 lay_80 g10 ?_
      obtain ⟨V11, hV11⟩ : ∃ z : sv_V, z = sv_I V9 69 10 (V9.1 80 x1.toNatClampNeg) := ⟨_, rfl⟩
      have h := sx_letE hV11 h
      refine sv_putI (pc := 90) hG dX5_endRoutine_90 f_5_90 lay_69 rfl hV11 ?_
      refine sx_aload_n (pc := 93) dX5_endRoutine_93 sx_m1 ?_
      refine sx_aload_n (pc := 94) dX5_endRoutine_94 sx_m1 ?_
      refine sv_getO (pc := 95) hG dX5_endRoutine_95 f_5_21 lay_69 rfl cr_69_2 ?_
      refine sv_getA (pc := 98) hG dX5_endRoutine_98 f_5_373 lay_73 rfl cr_73_8 ?_
      refine sx_iload_n (pc := 101) dX5_endRoutine_101 sx_m0 ?_
      obtain ⟨g12, h⟩ := sx_grd h
      refine sv_iald (pc := 102) hG dX5_endRoutine_102 lay_81 g12 ?_
      obtain ⟨V13, hV13⟩ : ∃ z : sv_V, z = sv_I V11 69 11 (V11.1 81 x1.toNatClampNeg) := ⟨_, rfl⟩
      have h := sx_letE hV13 h
      refine sv_putI (pc := 103) hG dX5_endRoutine_103 f_5_93 lay_69 rfl hV13 ?_
      refine sx_aload_n (pc := 106) dX5_endRoutine_106 sx_m1 ?_
      refine sv_getO (pc := 107) hG dX5_endRoutine_107 f_5_21 lay_69 rfl cr_69_2 ?_
      refine sx_iload_n (pc := 110) dX5_endRoutine_110 sx_m0 ?_
      obtain ⟨V14, hV14⟩ : ∃ z : sv_V, z = sv_I V13 73 9 x1 := ⟨_, rfl⟩
      have h := sx_letE hV14 h
      refine sv_putI (pc := 111) hG dX5_endRoutine_111 f_5_99 lay_73 rfl hV14 ?_
      exact sv_vret (pc := 114) dX5_endRoutine_114 rfl h hP
    · have h := sx_neg c7 h
      refine sx_aload_n (pc := 45) dX5_endRoutine_45 sx_m1 ?_
      refine sx_aload_n (pc := 46) dX5_endRoutine_46 sx_m1 ?_
      refine sv_getO (pc := 47) hG dX5_endRoutine_47 f_5_21 lay_69 rfl cr_69_2 ?_
      refine sv_getA (pc := 50) hG dX5_endRoutine_50 f_5_352 lay_73 rfl cr_73_2 ?_
      refine sx_aload_n (pc := 53) dX5_endRoutine_53 sx_m1 ?_
      refine sv_getO (pc := 54) hG dX5_endRoutine_54 f_5_21 lay_69 rfl cr_69_2 ?_
      refine sv_getA (pc := 57) hG dX5_endRoutine_57 f_5_361 lay_73 rfl cr_73_4 ?_
      refine sx_iload_n (pc := 60) dX5_endRoutine_60 sx_m0 ?_
      obtain ⟨g15, h⟩ := sx_grd h
      refine sv_iald (pc := 61) hG dX5_endRoutine_61 lay_77 g15 ?_
      obtain ⟨g16, h⟩ := sx_grd h
      refine sv_iald (pc := 62) hG dX5_endRoutine_62 lay_76 g16 ?_
      obtain ⟨V17, hV17⟩ : ∃ z : sv_V, z = sv_I V5 69 11 (V5.1 76 (V5.1 77 x1.toNatClampNeg).toNatClampNeg) := ⟨_, rfl⟩
      have h := sx_letE hV17 h
      refine sv_putI (pc := 63) hG dX5_endRoutine_63 f_5_93 lay_69 rfl hV17 ?_
      exact sv_vret (pc := 66) dX5_endRoutine_66 rfl h hP
  · have h := sx_neg c2 h
    refine sx_aload_n (pc := 14) dX5_endRoutine_14 sx_m1 ?_
    refine sx_iconst (pc := 15) (v := 4) dX5_endRoutine_15 (by decide) ?_
    obtain ⟨V18, hV18⟩ : ∃ z : sv_V, z = sv_I V 69 14 (4 : Int32) := ⟨_, rfl⟩
    have h := sx_letE hV18 h
    refine sv_putI (pc := 16) hG dX5_endRoutine_16 f_5_56 lay_69 rfl hV18 ?_
    exact sv_vret (pc := 19) dX5_endRoutine_19 rfl h hP
theorem dX5_doubleTop_0 : decode cX5_doubleTop 0 = .ok (.aload_n 0, 1) := by decide +kernel
theorem dX5_doubleTop_1 : decode cX5_doubleTop 1 = .ok (.invokevirtual 242, 3) := by decide +kernel
theorem dX5_doubleTop_4 : decode cX5_doubleTop 4 = .ok (.istore_n 1, 1) := by decide +kernel
theorem dX5_doubleTop_5 : decode cX5_doubleTop 5 = .ok (.aload_n 0, 1) := by decide +kernel
theorem dX5_doubleTop_6 : decode cX5_doubleTop 6 = .ok (.iload_n 1, 1) := by decide +kernel
theorem dX5_doubleTop_7 : decode cX5_doubleTop 7 = .ok (.i2l, 1) := by decide +kernel
theorem dX5_doubleTop_8 : decode cX5_doubleTop 8 = .ok (.invokevirtual 232, 3) := by decide +kernel
theorem dX5_doubleTop_11 : decode cX5_doubleTop 11 = .ok (.aload_n 0, 1) := by decide +kernel
theorem dX5_doubleTop_12 : decode cX5_doubleTop 12 = .ok (.iload_n 1, 1) := by decide +kernel
theorem dX5_doubleTop_13 : decode cX5_doubleTop 13 = .ok (.i2l, 1) := by decide +kernel
theorem dX5_doubleTop_14 : decode cX5_doubleTop 14 = .ok (.invokevirtual 232, 3) := by decide +kernel
theorem dX5_doubleTop_17 : decode cX5_doubleTop 17 = .ok (.return_, 1) := by decide +kernel
def F_X5_doubleTop  (V : sv_V) : Option sv_V := (F_X5_pop  V).bind (fun (x3, V1) => (F_X5_push x3.toInt64 V1).bind (fun V4 => (F_X5_push x3.toInt64 V4).bind (fun V6 => some V6)))
set_option maxRecDepth 20000 in
theorem t_X5_doubleTop {g : sx_G} (hG : sx_Go g) {P : Option Value → sv_V → Prop} {Vr : sv_V} (hP : P none Vr)  {V : sv_V} (h : F_X5_doubleTop  V = some Vr) : sv_N g qX5_doubleTop 1 0 [(0, .ref 69)] [] V P := by
  unfold F_X5_doubleTop at h
  refine sx_aload_n (pc := 0) dX5_doubleTop_0 sx_m0 ?_
  obtain ⟨⟨x3, V1⟩, g2, h⟩ := sx_bnd h
  refine sv_cV (pc := 1) (y := qX5_pop) (o := (some (.int x3))) (as := []) (V1 := V1) hG dX5_doubleTop_1 l_X5_242 y0X5_pop yvX5_pop rfl (Nat.le_of_ble_eq_true rfl) lay_69 kr_5 (by decide) (Nat.le_of_ble_eq_true rfl) rfl rfl rfl (t_X5_pop hG ⟨rfl, rfl⟩ g2) ?_
  refine sx_istore_n (pc := 4) (lo' := [(1, .int x3), (0, .ref 69)]) dX5_doubleTop_4 (by decide) rfl ?_
  refine sx_aload_n (pc := 5) dX5_doubleTop_5 sx_m1 ?_
  refine sx_iload_n (pc := 6) dX5_doubleTop_6 sx_m0 ?_
  refine sx_i2l (pc := 7) dX5_doubleTop_7 ?_
  obtain ⟨V4, g5, h⟩ := sx_bnd h
  refine sv_cV (pc := 8) (y := qX5_push) (o := none) (as := [.long x3.toInt64]) (V1 := V4) hG dX5_doubleTop_8 l_X5_232 y0X5_push yvX5_push rfl (Nat.le_of_ble_eq_true rfl) lay_69 kr_5 (by decide) (Nat.le_of_ble_eq_true rfl) rfl rfl rfl (t_X5_push hG ⟨rfl, rfl⟩ g5) ?_
  refine sx_aload_n (pc := 11) dX5_doubleTop_11 sx_m1 ?_
  refine sx_iload_n (pc := 12) dX5_doubleTop_12 sx_m0 ?_
  refine sx_i2l (pc := 13) dX5_doubleTop_13 ?_
  obtain ⟨V6, g7, h⟩ := sx_bnd h
  refine sv_cV (pc := 14) (y := qX5_push) (o := none) (as := [.long x3.toInt64]) (V1 := V6) hG dX5_doubleTop_14 l_X5_232 y0X5_push yvX5_push rfl (Nat.le_of_ble_eq_true rfl) lay_69 kr_5 (by decide) (Nat.le_of_ble_eq_true rfl) rfl rfl rfl (t_X5_push hG ⟨rfl, rfl⟩ g7) ?_
  exact sv_vret (pc := 17) dX5_doubleTop_17 rfl h hP
theorem dX5_rollTop_0 : decode cX5_rollTop 0 = .ok (.iload_n 1, 1) := by decide +kernel
theorem dX5_rollTop_1 : decode cX5_rollTop 1 = .ok (.iconst 1, 1) := by decide +kernel
theorem dX5_rollTop_2 : decode cX5_rollTop 2 = .ok (.if_icmp .lt 11, 3) := by decide +kernel
theorem dX5_rollTop_5 : decode cX5_rollTop 5 = .ok (.aload_n 0, 1) := by decide +kernel
theorem dX5_rollTop_6 : decode cX5_rollTop 6 = .ok (.getfield 96, 3) := by decide +kernel
theorem dX5_rollTop_9 : decode cX5_rollTop 9 = .ok (.iload_n 1, 1) := by decide +kernel
theorem dX5_rollTop_10 : decode cX5_rollTop 10 = .ok (.if_icmp .ge 9, 3) := by decide +kernel
theorem dX5_rollTop_13 : decode cX5_rollTop 13 = .ok (.aload_n 0, 1) := by decide +kernel
theorem dX5_rollTop_14 : decode cX5_rollTop 14 = .ok (.iconst 1, 1) := by decide +kernel
theorem dX5_rollTop_15 : decode cX5_rollTop 15 = .ok (.putfield 56, 3) := by decide +kernel
theorem dX5_rollTop_18 : decode cX5_rollTop 18 = .ok (.return_, 1) := by decide +kernel
theorem dX5_rollTop_19 : decode cX5_rollTop 19 = .ok (.aload_n 0, 1) := by decide +kernel
theorem dX5_rollTop_20 : decode cX5_rollTop 20 = .ok (.getfield 34, 3) := by decide +kernel
theorem dX5_rollTop_23 : decode cX5_rollTop 23 = .ok (.aload_n 0, 1) := by decide +kernel
theorem dX5_rollTop_24 : decode cX5_rollTop 24 = .ok (.getfield 96, 3) := by decide +kernel
theorem dX5_rollTop_27 : decode cX5_rollTop 27 = .ok (.iload_n 1, 1) := by decide +kernel
theorem dX5_rollTop_28 : decode cX5_rollTop 28 = .ok (.isub, 1) := by decide +kernel
theorem dX5_rollTop_29 : decode cX5_rollTop 29 = .ok (.iaload, 1) := by decide +kernel
theorem dX5_rollTop_30 : decode cX5_rollTop 30 = .ok (.istore_n 2, 1) := by decide +kernel
theorem dX5_rollTop_31 : decode cX5_rollTop 31 = .ok (.aload_n 0, 1) := by decide +kernel
theorem dX5_rollTop_32 : decode cX5_rollTop 32 = .ok (.getfield 96, 3) := by decide +kernel
theorem dX5_rollTop_35 : decode cX5_rollTop 35 = .ok (.iload_n 1, 1) := by decide +kernel
theorem dX5_rollTop_36 : decode cX5_rollTop 36 = .ok (.isub, 1) := by decide +kernel
theorem dX5_rollTop_37 : decode cX5_rollTop 37 = .ok (.istore_n 3, 1) := by decide +kernel
theorem dX5_rollTop_38 : decode cX5_rollTop 38 = .ok (.iload_n 3, 1) := by decide +kernel
theorem dX5_rollTop_39 : decode cX5_rollTop 39 = .ok (.aload_n 0, 1) := by decide +kernel
theorem dX5_rollTop_40 : decode cX5_rollTop 40 = .ok (.getfield 96, 3) := by decide +kernel
theorem dX5_rollTop_43 : decode cX5_rollTop 43 = .ok (.iconst 1, 1) := by decide +kernel
theorem dX5_rollTop_44 : decode cX5_rollTop 44 = .ok (.isub, 1) := by decide +kernel
theorem dX5_rollTop_45 : decode cX5_rollTop 45 = .ok (.if_icmp .ge 23, 3) := by decide +kernel
theorem dX5_rollTop_48 : decode cX5_rollTop 48 = .ok (.aload_n 0, 1) := by decide +kernel
theorem dX5_rollTop_49 : decode cX5_rollTop 49 = .ok (.getfield 34, 3) := by decide +kernel
theorem dX5_rollTop_52 : decode cX5_rollTop 52 = .ok (.iload_n 3, 1) := by decide +kernel
theorem dX5_rollTop_53 : decode cX5_rollTop 53 = .ok (.aload_n 0, 1) := by decide +kernel
theorem dX5_rollTop_54 : decode cX5_rollTop 54 = .ok (.getfield 34, 3) := by decide +kernel
theorem dX5_rollTop_57 : decode cX5_rollTop 57 = .ok (.iload_n 3, 1) := by decide +kernel
theorem dX5_rollTop_58 : decode cX5_rollTop 58 = .ok (.iconst 1, 1) := by decide +kernel
theorem dX5_rollTop_59 : decode cX5_rollTop 59 = .ok (.iadd, 1) := by decide +kernel
theorem dX5_rollTop_60 : decode cX5_rollTop 60 = .ok (.iaload, 1) := by decide +kernel
theorem dX5_rollTop_61 : decode cX5_rollTop 61 = .ok (.iastore, 1) := by decide +kernel
theorem dX5_rollTop_62 : decode cX5_rollTop 62 = .ok (.iinc 3 1, 3) := by decide +kernel
theorem dX5_rollTop_65 : decode cX5_rollTop 65 = .ok (.goto (-27), 3) := by decide +kernel
theorem dX5_rollTop_68 : decode cX5_rollTop 68 = .ok (.aload_n 0, 1) := by decide +kernel
theorem dX5_rollTop_69 : decode cX5_rollTop 69 = .ok (.getfield 34, 3) := by decide +kernel
theorem dX5_rollTop_72 : decode cX5_rollTop 72 = .ok (.aload_n 0, 1) := by decide +kernel
theorem dX5_rollTop_73 : decode cX5_rollTop 73 = .ok (.getfield 96, 3) := by decide +kernel
theorem dX5_rollTop_76 : decode cX5_rollTop 76 = .ok (.iconst 1, 1) := by decide +kernel
theorem dX5_rollTop_77 : decode cX5_rollTop 77 = .ok (.isub, 1) := by decide +kernel
theorem dX5_rollTop_78 : decode cX5_rollTop 78 = .ok (.iload_n 2, 1) := by decide +kernel
theorem dX5_rollTop_79 : decode cX5_rollTop 79 = .ok (.iastore, 1) := by decide +kernel
theorem dX5_rollTop_80 : decode cX5_rollTop 80 = .ok (.return_, 1) := by decide +kernel
def B_X5_rollTop_38 (N : Nat) (k38 : Int32 → Int32 → sv_V → Option sv_V) (l2 : Int32) (l3 : Int32) (V : sv_V) : Option sv_V := if ((V.1 69 5) - (1 : Int32)) ≤ l3 then (if sx_in ((V.1 69 5) - (1 : Int32)) 256 = true then sx_let (sv_I V 92 ((V.1 69 5) - (1 : Int32)).toNatClampNeg l2) (fun V3 => some V3) else none) else (if sx_in (l3 + (1 : Int32)) 256 = true then if sx_in l3 256 = true then sx_let (sv_I V 92 l3.toNatClampNeg (V.1 92 (l3 + (1 : Int32)).toNatClampNeg)) (fun V6 => sx_let (l3 + 1) (fun x7 => k38 l2 x7 V6)) else none else none)
set_option maxRecDepth 20000 in
theorem tB_X5_rollTop_38 {g : sx_G} (hG : sx_Go g) {P : Option Value → sv_V → Prop} {Vr : sv_V} (hP : P none Vr) {N : Nat} {k38 : Int32 → Int32 → sv_V → Option sv_V} (hk38 : ∀ (l2 : Int32) (l3 : Int32) (V : sv_V), k38 l2 l3 V = some Vr → sv_N g qX5_rollTop 0 38 [(0, .ref 69), (2, .int l2), (3, .int l3)] [] V P) {l2 : Int32} {l3 : Int32} {V : sv_V} (h : B_X5_rollTop_38 N k38 l2 l3 V = some Vr) : sv_N g qX5_rollTop 0 38 [(0, .ref 69), (2, .int l2), (3, .int l3)] [] V P := by
  unfold B_X5_rollTop_38 at h
  refine sx_iload_n (pc := 38) dX5_rollTop_38 sx_m2 ?_
  refine sx_aload_n (pc := 39) dX5_rollTop_39 sx_m0 ?_
  refine sv_getI (pc := 40) hG dX5_rollTop_40 f_5_96 lay_69 rfl ?_
  refine sx_iconst (pc := 43) (v := 1) dX5_rollTop_43 (by decide) ?_
  refine sx_isub (pc := 44) dX5_rollTop_44 ?_
  refine sx_icmp_ge (pc := 45) (tgt := 68) dX5_rollTop_45 (by decide) (fun c1 => ?_) (fun c1 => ?_)
  · have h := sx_pos c1 h
    refine sx_aload_n (pc := 68) dX5_rollTop_68 sx_m0 ?_
    refine sv_getA (pc := 69) hG dX5_rollTop_69 f_5_34 lay_69 rfl cr_69_4 ?_
    refine sx_aload_n (pc := 72) dX5_rollTop_72 sx_m0 ?_
    refine sv_getI (pc := 73) hG dX5_rollTop_73 f_5_96 lay_69 rfl ?_
    refine sx_iconst (pc := 76) (v := 1) dX5_rollTop_76 (by decide) ?_
    refine sx_isub (pc := 77) dX5_rollTop_77 ?_
    refine sx_iload_n (pc := 78) dX5_rollTop_78 sx_m1 ?_
    obtain ⟨g2, h⟩ := sx_grd h
    obtain ⟨V3, hV3⟩ : ∃ z : sv_V, z = sv_I V 92 ((V.1 69 5) - (1 : Int32)).toNatClampNeg l2 := ⟨_, rfl⟩
    have h := sx_letE hV3 h
    refine sv_iast (pc := 79) hG dX5_rollTop_79 lay_92 g2 hV3 ?_
    exact sv_vret (pc := 80) dX5_rollTop_80 rfl h hP
  · have h := sx_neg c1 h
    refine sx_aload_n (pc := 48) dX5_rollTop_48 sx_m0 ?_
    refine sv_getA (pc := 49) hG dX5_rollTop_49 f_5_34 lay_69 rfl cr_69_4 ?_
    refine sx_iload_n (pc := 52) dX5_rollTop_52 sx_m2 ?_
    refine sx_aload_n (pc := 53) dX5_rollTop_53 sx_m0 ?_
    refine sv_getA (pc := 54) hG dX5_rollTop_54 f_5_34 lay_69 rfl cr_69_4 ?_
    refine sx_iload_n (pc := 57) dX5_rollTop_57 sx_m2 ?_
    refine sx_iconst (pc := 58) (v := 1) dX5_rollTop_58 (by decide) ?_
    refine sx_iadd (pc := 59) dX5_rollTop_59 ?_
    obtain ⟨g4, h⟩ := sx_grd h
    refine sv_iald (pc := 60) hG dX5_rollTop_60 lay_92 g4 ?_
    obtain ⟨g5, h⟩ := sx_grd h
    obtain ⟨V6, hV6⟩ : ∃ z : sv_V, z = sv_I V 92 l3.toNatClampNeg (V.1 92 (l3 + (1 : Int32)).toNatClampNeg) := ⟨_, rfl⟩
    have h := sx_letE hV6 h
    refine sv_iast (pc := 61) hG dX5_rollTop_61 lay_92 g5 hV6 ?_
    obtain ⟨x7, hx7⟩ : ∃ z : Int32, z = l3 + 1 := ⟨_, rfl⟩
    have h := sx_letE hx7 h
    refine sx_iinc (pc := 62) (v := x7) (lo' := [(3, .int x7), (0, .ref 69), (2, .int l2)]) dX5_rollTop_62 sx_m2 (by rw [hx7]; rfl) (by decide) rfl ?_
    refine sx_goto (pc := 65) (tgt := 38) dX5_rollTop_65 (by decide) ?_
    refine sx_wk (sx_s1 sx_m1 (sx_s1 sx_m2 (sx_s1 sx_m0 sx_s0))) ?_
    exact hk38 _ _ _ h
theorem tL_X5_rollTop_38 {g : sx_G} (hG : sx_Go g) {P : Option Value → sv_V → Prop} {Vr : sv_V} (hP : P none Vr) {N : Nat}   : ∀ (n : Nat) (l2 : Int32) (l3 : Int32) (V : sv_V), sx_lp3 (B_X5_rollTop_38 N ) n l2 l3 V = some Vr → sv_N g qX5_rollTop 0 38 [(0, .ref 69), (2, .int l2), (3, .int l3)] [] V P :=
  sx_lp3_ind (fun k0 ih _ _ V h => tB_X5_rollTop_38 hG hP ih h)
def F_X5_rollTop (N : Nat) (l1 : Int32) (V : sv_V) : Option sv_V := if l1 < (1 : Int32) then (sx_let (sv_I V 69 14 (1 : Int32)) (fun V9 => some V9)) else (if l1 ≤ (V.1 69 5) then (if sx_in ((V.1 69 5) - l1) 256 = true then sx_let (V.1 92 ((V.1 69 5) - l1).toNatClampNeg) (fun x12 => sx_let ((V.1 69 5) - l1) (fun x13 => sx_lp3 (B_X5_rollTop_38 N ) N x12 x13 V)) else none) else (sx_let (sv_I V 69 14 (1 : Int32)) (fun V14 => some V14)))
set_option maxRecDepth 20000 in
theorem t_X5_rollTop {g : sx_G} (hG : sx_Go g) {P : Option Value → sv_V → Prop} {Vr : sv_V} (hP : P none Vr) {N : Nat} {l1 : Int32} {V : sv_V} (h : F_X5_rollTop N l1 V = some Vr) : sv_N g qX5_rollTop 0 0 [(0, .ref 69), (1, .int l1)] [] V P := by
  unfold F_X5_rollTop at h
  refine sx_iload_n (pc := 0) dX5_rollTop_0 sx_m1 ?_
  refine sx_iconst (pc := 1) (v := 1) dX5_rollTop_1 (by decide) ?_
  refine sx_icmp_lt (pc := 2) (tgt := 13) dX5_rollTop_2 (by decide) (fun c8 => ?_) (fun c8 => ?_)
  · have h := sx_pos c8 h
    refine sx_aload_n (pc := 13) dX5_rollTop_13 sx_m0 ?_
    refine sx_iconst (pc := 14) (v := 1) dX5_rollTop_14 (by decide) ?_
    obtain ⟨V9, hV9⟩ : ∃ z : sv_V, z = sv_I V 69 14 (1 : Int32) := ⟨_, rfl⟩
    have h := sx_letE hV9 h
    refine sv_putI (pc := 15) hG dX5_rollTop_15 f_5_56 lay_69 rfl hV9 ?_
    exact sv_vret (pc := 18) dX5_rollTop_18 rfl h hP
  · have h := sx_neg c8 h
    refine sx_aload_n (pc := 5) dX5_rollTop_5 sx_m0 ?_
    refine sv_getI (pc := 6) hG dX5_rollTop_6 f_5_96 lay_69 rfl ?_
    refine sx_iload_n (pc := 9) dX5_rollTop_9 sx_m1 ?_
    refine sx_icmp_ge (pc := 10) (tgt := 19) dX5_rollTop_10 (by decide) (fun c10 => ?_) (fun c10 => ?_)
    · have h := sx_pos c10 h
      refine sx_aload_n (pc := 19) dX5_rollTop_19 sx_m0 ?_
      refine sv_getA (pc := 20) hG dX5_rollTop_20 f_5_34 lay_69 rfl cr_69_4 ?_
      refine sx_aload_n (pc := 23) dX5_rollTop_23 sx_m0 ?_
      refine sv_getI (pc := 24) hG dX5_rollTop_24 f_5_96 lay_69 rfl ?_
      refine sx_iload_n (pc := 27) dX5_rollTop_27 sx_m1 ?_
      refine sx_isub (pc := 28) dX5_rollTop_28 ?_
      obtain ⟨g11, h⟩ := sx_grd h
      refine sv_iald (pc := 29) hG dX5_rollTop_29 lay_92 g11 ?_
      refine sv_tI (fun x12 hx12 => ?_)
      have h := sx_letE hx12 h
      refine sx_istore_n (pc := 30) (lo' := [(2, .int x12), (0, .ref 69), (1, .int l1)]) dX5_rollTop_30 (by decide) rfl ?_
      refine sx_aload_n (pc := 31) dX5_rollTop_31 sx_m1 ?_
      refine sv_getI (pc := 32) hG dX5_rollTop_32 f_5_96 lay_69 rfl ?_
      refine sx_iload_n (pc := 35) dX5_rollTop_35 sx_m2 ?_
      refine sx_isub (pc := 36) dX5_rollTop_36 ?_
      refine sv_tI (fun x13 hx13 => ?_)
      have h := sx_letE hx13 h
      refine sx_istore_n (pc := 37) (lo' := [(3, .int x13), (2, .int x12), (0, .ref 69), (1, .int l1)]) dX5_rollTop_37 (by decide) rfl ?_
      refine sx_wk (sx_s1 sx_m2 (sx_s1 sx_m1 (sx_s1 sx_m0 sx_s0))) ?_
      exact tL_X5_rollTop_38 hG hP  N _ _ _ h
    · have h := sx_neg c10 h
      refine sx_aload_n (pc := 13) dX5_rollTop_13 sx_m0 ?_
      refine sx_iconst (pc := 14) (v := 1) dX5_rollTop_14 (by decide) ?_
      obtain ⟨V14, hV14⟩ : ∃ z : sv_V, z = sv_I V 69 14 (1 : Int32) := ⟨_, rfl⟩
      have h := sx_letE hV14 h
      refine sv_putI (pc := 15) hG dX5_rollTop_15 f_5_56 lay_69 rfl hV14 ?_
      exact sv_vret (pc := 18) dX5_rollTop_18 rfl h hP
theorem dX5_reachBelow_0 : decode cX5_reachBelow 0 = .ok (.aload_n 0, 1) := by decide +kernel
theorem dX5_reachBelow_1 : decode cX5_reachBelow 1 = .ok (.invokevirtual 242, 3) := by decide +kernel
theorem dX5_reachBelow_4 : decode cX5_reachBelow 4 = .ok (.istore_n 2, 1) := by decide +kernel
theorem dX5_reachBelow_5 : decode cX5_reachBelow 5 = .ok (.iload_n 2, 1) := by decide +kernel
theorem dX5_reachBelow_6 : decode cX5_reachBelow 6 = .ok (.iconst 1, 1) := by decide +kernel
theorem dX5_reachBelow_7 : decode cX5_reachBelow 7 = .ok (.if_icmp .lt 11, 3) := by decide +kernel
theorem dX5_reachBelow_10 : decode cX5_reachBelow 10 = .ok (.iload_n 2, 1) := by decide +kernel
theorem dX5_reachBelow_11 : decode cX5_reachBelow 11 = .ok (.aload_n 0, 1) := by decide +kernel
theorem dX5_reachBelow_12 : decode cX5_reachBelow 12 = .ok (.getfield 96, 3) := by decide +kernel
theorem dX5_reachBelow_15 : decode cX5_reachBelow 15 = .ok (.if_icmp .le 9, 3) := by decide +kernel
theorem dX5_reachBelow_18 : decode cX5_reachBelow 18 = .ok (.aload_n 0, 1) := by decide +kernel
theorem dX5_reachBelow_19 : decode cX5_reachBelow 19 = .ok (.iconst 1, 1) := by decide +kernel
theorem dX5_reachBelow_20 : decode cX5_reachBelow 20 = .ok (.putfield 56, 3) := by decide +kernel
theorem dX5_reachBelow_23 : decode cX5_reachBelow 23 = .ok (.return_, 1) := by decide +kernel
theorem dX5_reachBelow_24 : decode cX5_reachBelow 24 = .ok (.iload_n 1, 1) := by decide +kernel
theorem dX5_reachBelow_25 : decode cX5_reachBelow 25 = .ok (.bipush 37, 2) := by decide +kernel
theorem dX5_reachBelow_27 : decode cX5_reachBelow 27 = .ok (.if_icmp .ne 22, 3) := by decide +kernel
theorem dX5_reachBelow_30 : decode cX5_reachBelow 30 = .ok (.aload_n 0, 1) := by decide +kernel
theorem dX5_reachBelow_31 : decode cX5_reachBelow 31 = .ok (.aload_n 0, 1) := by decide +kernel
theorem dX5_reachBelow_32 : decode cX5_reachBelow 32 = .ok (.getfield 34, 3) := by decide +kernel
theorem dX5_reachBelow_35 : decode cX5_reachBelow 35 = .ok (.aload_n 0, 1) := by decide +kernel
theorem dX5_reachBelow_36 : decode cX5_reachBelow 36 = .ok (.getfield 96, 3) := by decide +kernel
theorem dX5_reachBelow_39 : decode cX5_reachBelow 39 = .ok (.iload_n 2, 1) := by decide +kernel
theorem dX5_reachBelow_40 : decode cX5_reachBelow 40 = .ok (.isub, 1) := by decide +kernel
theorem dX5_reachBelow_41 : decode cX5_reachBelow 41 = .ok (.iaload, 1) := by decide +kernel
theorem dX5_reachBelow_42 : decode cX5_reachBelow 42 = .ok (.i2l, 1) := by decide +kernel
theorem dX5_reachBelow_43 : decode cX5_reachBelow 43 = .ok (.invokevirtual 232, 3) := by decide +kernel
theorem dX5_reachBelow_46 : decode cX5_reachBelow 46 = .ok (.goto 8, 3) := by decide +kernel
theorem dX5_reachBelow_49 : decode cX5_reachBelow 49 = .ok (.aload_n 0, 1) := by decide +kernel
theorem dX5_reachBelow_50 : decode cX5_reachBelow 50 = .ok (.iload_n 2, 1) := by decide +kernel
theorem dX5_reachBelow_51 : decode cX5_reachBelow 51 = .ok (.invokevirtual 379, 3) := by decide +kernel
theorem dX5_reachBelow_54 : decode cX5_reachBelow 54 = .ok (.return_, 1) := by decide +kernel
def F_X5_reachBelow (N : Nat) (l1 : Int32) (V : sv_V) : Option sv_V := (F_X5_pop  V).bind (fun (x3, V1) => if x3 < (1 : Int32) then (sx_let (sv_I V1 69 14 (1 : Int32)) (fun V5 => some V5)) else (if x3 ≤ (V1.1 69 5) then (if l1 = (37 : Int32) then (if sx_in ((V1.1 69 5) - x3) 256 = true then (F_X5_push ((V1.1 92 ((V1.1 69 5) - x3).toNatClampNeg).toInt64) V1).bind (fun V11 => some V11) else none) else ((F_X5_rollTop N x3 V1).bind (fun V8 => some V8))) else (sx_let (sv_I V1 69 14 (1 : Int32)) (fun V13 => some V13))))
set_option maxRecDepth 20000 in
theorem t_X5_reachBelow {g : sx_G} (hG : sx_Go g) {P : Option Value → sv_V → Prop} {Vr : sv_V} (hP : P none Vr) {N : Nat} {l1 : Int32} {V : sv_V} (h : F_X5_reachBelow N l1 V = some Vr) : sv_N g qX5_reachBelow 1 0 [(0, .ref 69), (1, .int l1)] [] V P := by
  unfold F_X5_reachBelow at h
  refine sx_aload_n (pc := 0) dX5_reachBelow_0 sx_m0 ?_
  obtain ⟨⟨x3, V1⟩, g2, h⟩ := sx_bnd h
  refine sv_cV (pc := 1) (y := qX5_pop) (o := (some (.int x3))) (as := []) (V1 := V1) hG dX5_reachBelow_1 l_X5_242 y0X5_pop yvX5_pop rfl (Nat.le_of_ble_eq_true rfl) lay_69 kr_5 (by decide) (Nat.le_of_ble_eq_true rfl) rfl rfl rfl (t_X5_pop hG ⟨rfl, rfl⟩ g2) ?_
  refine sx_istore_n (pc := 4) (lo' := [(2, .int x3), (0, .ref 69), (1, .int l1)]) dX5_reachBelow_4 (by decide) rfl ?_
  refine sx_iload_n (pc := 5) dX5_reachBelow_5 sx_m0 ?_
  refine sx_iconst (pc := 6) (v := 1) dX5_reachBelow_6 (by decide) ?_
  refine sx_icmp_lt (pc := 7) (tgt := 18) dX5_reachBelow_7 (by decide) (fun c4 => ?_) (fun c4 => ?_)
  · have h := sx_pos c4 h
    refine sx_aload_n (pc := 18) dX5_reachBelow_18 sx_m1 ?_
    refine sx_iconst (pc := 19) (v := 1) dX5_reachBelow_19 (by decide) ?_
    obtain ⟨V5, hV5⟩ : ∃ z : sv_V, z = sv_I V1 69 14 (1 : Int32) := ⟨_, rfl⟩
    have h := sx_letE hV5 h
    refine sv_putI (pc := 20) hG dX5_reachBelow_20 f_5_56 lay_69 rfl hV5 ?_
    exact sv_vret (pc := 23) dX5_reachBelow_23 rfl h hP
  · have h := sx_neg c4 h
    refine sx_iload_n (pc := 10) dX5_reachBelow_10 sx_m0 ?_
    refine sx_aload_n (pc := 11) dX5_reachBelow_11 sx_m1 ?_
    refine sv_getI (pc := 12) hG dX5_reachBelow_12 f_5_96 lay_69 rfl ?_
    refine sx_icmp_le (pc := 15) (tgt := 24) dX5_reachBelow_15 (by decide) (fun c6 => ?_) (fun c6 => ?_)
    · have h := sx_pos c6 h
      refine sx_iload_n (pc := 24) dX5_reachBelow_24 sx_m2 ?_
      refine sx_bipush (pc := 25) (v := 37) dX5_reachBelow_25 (by decide) ?_
      refine sx_icmp_ne (pc := 27) (tgt := 49) dX5_reachBelow_27 (by decide) (fun c7 => ?_) (fun c7 => ?_)
      · have h := sx_neg c7 h
        refine sx_aload_n (pc := 49) dX5_reachBelow_49 sx_m1 ?_
        refine sx_iload_n (pc := 50) dX5_reachBelow_50 sx_m0 ?_
        obtain ⟨V8, g9, h⟩ := sx_bnd h
        refine sv_cV (pc := 51) (y := qX5_rollTop) (o := none) (as := [.int x3]) (V1 := V8) hG dX5_reachBelow_51 l_X5_379 y0X5_rollTop yvX5_rollTop rfl (Nat.le_of_ble_eq_true rfl) lay_69 kr_5 (by decide) (Nat.le_of_ble_eq_true rfl) rfl rfl rfl (t_X5_rollTop hG ⟨rfl, rfl⟩ g9) ?_
        exact sv_vret (pc := 54) dX5_reachBelow_54 rfl h hP
      · have h := sx_pos c7 h
        refine sx_aload_n (pc := 30) dX5_reachBelow_30 sx_m1 ?_
        refine sx_aload_n (pc := 31) dX5_reachBelow_31 sx_m1 ?_
        refine sv_getA (pc := 32) hG dX5_reachBelow_32 f_5_34 lay_69 rfl cr_69_4 ?_
        refine sx_aload_n (pc := 35) dX5_reachBelow_35 sx_m1 ?_
        refine sv_getI (pc := 36) hG dX5_reachBelow_36 f_5_96 lay_69 rfl ?_
        refine sx_iload_n (pc := 39) dX5_reachBelow_39 sx_m0 ?_
        refine sx_isub (pc := 40) dX5_reachBelow_40 ?_
        obtain ⟨g10, h⟩ := sx_grd h
        refine sv_iald (pc := 41) hG dX5_reachBelow_41 lay_92 g10 ?_
        refine sx_i2l (pc := 42) dX5_reachBelow_42 ?_
        obtain ⟨V11, g12, h⟩ := sx_bnd h
        refine sv_cV (pc := 43) (y := qX5_push) (o := none) (as := [.long ((V1.1 92 ((V1.1 69 5) - x3).toNatClampNeg).toInt64)]) (V1 := V11) hG dX5_reachBelow_43 l_X5_232 y0X5_push yvX5_push rfl (Nat.le_of_ble_eq_true rfl) lay_69 kr_5 (by decide) (Nat.le_of_ble_eq_true rfl) rfl rfl rfl (t_X5_push hG ⟨rfl, rfl⟩ g12) ?_
        refine sx_goto (pc := 46) (tgt := 54) dX5_reachBelow_46 (by decide) ?_
        exact sv_vret (pc := 54) dX5_reachBelow_54 rfl h hP
    · have h := sx_neg c6 h
      refine sx_aload_n (pc := 18) dX5_reachBelow_18 sx_m1 ?_
      refine sx_iconst (pc := 19) (v := 1) dX5_reachBelow_19 (by decide) ?_
      obtain ⟨V13, hV13⟩ : ∃ z : sv_V, z = sv_I V1 69 14 (1 : Int32) := ⟨_, rfl⟩
      have h := sx_letE hV13 h
      refine sv_putI (pc := 20) hG dX5_reachBelow_20 f_5_56 lay_69 rfl hV13 ?_
      exact sv_vret (pc := 23) dX5_reachBelow_23 rfl h hP
theorem dX5_pushBehind_0 : decode cX5_pushBehind 0 = .ok (.aload_n 0, 1) := by decide +kernel
theorem dX5_pushBehind_1 : decode cX5_pushBehind 1 = .ok (.getfield 93, 3) := by decide +kernel
theorem dX5_pushBehind_4 : decode cX5_pushBehind 4 = .ok (.iload_n 1, 1) := by decide +kernel
theorem dX5_pushBehind_5 : decode cX5_pushBehind 5 = .ok (.iload_n 2, 1) := by decide +kernel
theorem dX5_pushBehind_6 : decode cX5_pushBehind 6 = .ok (.imul, 1) := by decide +kernel
theorem dX5_pushBehind_7 : decode cX5_pushBehind 7 = .ok (.iadd, 1) := by decide +kernel
theorem dX5_pushBehind_8 : decode cX5_pushBehind 8 = .ok (.aload_n 0, 1) := by decide +kernel
theorem dX5_pushBehind_9 : decode cX5_pushBehind 9 = .ok (.getfield 90, 3) := by decide +kernel
theorem dX5_pushBehind_12 : decode cX5_pushBehind 12 = .ok (.if_icmp .le 9, 3) := by decide +kernel
theorem dX5_pushBehind_15 : decode cX5_pushBehind 15 = .ok (.aload_n 0, 1) := by decide +kernel
theorem dX5_pushBehind_16 : decode cX5_pushBehind 16 = .ok (.iconst 4, 1) := by decide +kernel
theorem dX5_pushBehind_17 : decode cX5_pushBehind 17 = .ok (.putfield 56, 3) := by decide +kernel
theorem dX5_pushBehind_20 : decode cX5_pushBehind 20 = .ok (.return_, 1) := by decide +kernel
theorem dX5_pushBehind_21 : decode cX5_pushBehind 21 = .ok (.iconst 0, 1) := by decide +kernel
theorem dX5_pushBehind_22 : decode cX5_pushBehind 22 = .ok (.istore_n 3, 1) := by decide +kernel
theorem dX5_pushBehind_23 : decode cX5_pushBehind 23 = .ok (.iload_n 3, 1) := by decide +kernel
theorem dX5_pushBehind_24 : decode cX5_pushBehind 24 = .ok (.iload_n 1, 1) := by decide +kernel
theorem dX5_pushBehind_25 : decode cX5_pushBehind 25 = .ok (.if_icmp .ge 62, 3) := by decide +kernel
theorem dX5_pushBehind_28 : decode cX5_pushBehind 28 = .ok (.aload_n 0, 1) := by decide +kernel
theorem dX5_pushBehind_29 : decode cX5_pushBehind 29 = .ok (.getfield 56, 3) := by decide +kernel
theorem dX5_pushBehind_32 : decode cX5_pushBehind 32 = .ok (.ifCond .ne 55, 3) := by decide +kernel
theorem dX5_pushBehind_35 : decode cX5_pushBehind 35 = .ok (.aload_n 0, 1) := by decide +kernel
theorem dX5_pushBehind_36 : decode cX5_pushBehind 36 = .ok (.iload_n 2, 1) := by decide +kernel
theorem dX5_pushBehind_37 : decode cX5_pushBehind 37 = .ok (.iconst 1, 1) := by decide +kernel
theorem dX5_pushBehind_38 : decode cX5_pushBehind 38 = .ok (.if_icmp .ne 18, 3) := by decide +kernel
theorem dX5_pushBehind_41 : decode cX5_pushBehind 41 = .ok (.aload_n 0, 1) := by decide +kernel
theorem dX5_pushBehind_42 : decode cX5_pushBehind 42 = .ok (.getfield 45, 3) := by decide +kernel
theorem dX5_pushBehind_45 : decode cX5_pushBehind 45 = .ok (.aload_n 0, 1) := by decide +kernel
theorem dX5_pushBehind_46 : decode cX5_pushBehind 46 = .ok (.getfield 93, 3) := by decide +kernel
theorem dX5_pushBehind_49 : decode cX5_pushBehind 49 = .ok (.invokevirtual 156, 3) := by decide +kernel
theorem dX5_pushBehind_52 : decode cX5_pushBehind 52 = .ok (.i2l, 1) := by decide +kernel
theorem dX5_pushBehind_53 : decode cX5_pushBehind 53 = .ok (.goto 15, 3) := by decide +kernel
theorem dX5_pushBehind_56 : decode cX5_pushBehind 56 = .ok (.aload_n 0, 1) := by decide +kernel
theorem dX5_pushBehind_57 : decode cX5_pushBehind 57 = .ok (.getfield 45, 3) := by decide +kernel
theorem dX5_pushBehind_60 : decode cX5_pushBehind 60 = .ok (.aload_n 0, 1) := by decide +kernel
theorem dX5_pushBehind_61 : decode cX5_pushBehind 61 = .ok (.getfield 93, 3) := by decide +kernel
theorem dX5_pushBehind_64 : decode cX5_pushBehind 64 = .ok (.invokevirtual 391, 3) := by decide +kernel
theorem dX5_pushBehind_67 : decode cX5_pushBehind 67 = .ok (.i2l, 1) := by decide +kernel
theorem dX5_pushBehind_68 : decode cX5_pushBehind 68 = .ok (.invokevirtual 232, 3) := by decide +kernel
theorem dX5_pushBehind_71 : decode cX5_pushBehind 71 = .ok (.aload_n 0, 1) := by decide +kernel
theorem dX5_pushBehind_72 : decode cX5_pushBehind 72 = .ok (.dup, 1) := by decide +kernel
theorem dX5_pushBehind_73 : decode cX5_pushBehind 73 = .ok (.getfield 93, 3) := by decide +kernel
theorem dX5_pushBehind_76 : decode cX5_pushBehind 76 = .ok (.iload_n 2, 1) := by decide +kernel
theorem dX5_pushBehind_77 : decode cX5_pushBehind 77 = .ok (.iadd, 1) := by decide +kernel
theorem dX5_pushBehind_78 : decode cX5_pushBehind 78 = .ok (.putfield 93, 3) := by decide +kernel
theorem dX5_pushBehind_81 : decode cX5_pushBehind 81 = .ok (.iinc 3 1, 3) := by decide +kernel
theorem dX5_pushBehind_84 : decode cX5_pushBehind 84 = .ok (.goto (-61), 3) := by decide +kernel
theorem dX5_pushBehind_87 : decode cX5_pushBehind 87 = .ok (.return_, 1) := by decide +kernel
def B_X5_pushBehind_68 (N : Nat) (k23 : Int32 → Int32 → Int32 → sv_V → Option sv_V) (l1 : Int32) (l2 : Int32) (l3 : Int32) (s1 : Int64) (V : sv_V) : Option sv_V := (F_X5_push s1 V).bind (fun V1 => sx_let (sv_I V1 69 11 ((V1.1 69 11) + l2)) (fun V3 => sx_let (l3 + 1) (fun x4 => k23 l1 l2 x4 V3)))
set_option maxRecDepth 20000 in
theorem tB_X5_pushBehind_68 {g : sx_G} (hG : sx_Go g) {P : Option Value → sv_V → Prop} {Vr : sv_V} (hP : P none Vr) {N : Nat} {k23 : Int32 → Int32 → Int32 → sv_V → Option sv_V} (hk23 : ∀ (l1 : Int32) (l2 : Int32) (l3 : Int32) (V : sv_V), k23 l1 l2 l3 V = some Vr → sv_N g qX5_pushBehind 1 23 [(0, .ref 69), (1, .int l1), (2, .int l2), (3, .int l3)] [] V P) {l1 : Int32} {l2 : Int32} {l3 : Int32} {s1 : Int64} {V : sv_V} (h : B_X5_pushBehind_68 N k23 l1 l2 l3 s1 V = some Vr) : sv_N g qX5_pushBehind 1 68 [(0, .ref 69), (1, .int l1), (2, .int l2), (3, .int l3)] [.long s1, .ref 69] V P := by
  unfold B_X5_pushBehind_68 at h
  obtain ⟨V1, g2, h⟩ := sx_bnd h
  refine sv_cV (pc := 68) (y := qX5_push) (o := none) (as := [.long s1]) (V1 := V1) hG dX5_pushBehind_68 l_X5_232 y0X5_push yvX5_push rfl (Nat.le_of_ble_eq_true rfl) lay_69 kr_5 (by decide) (Nat.le_of_ble_eq_true rfl) rfl rfl rfl (t_X5_push hG ⟨rfl, rfl⟩ g2) ?_
  refine sx_aload_n (pc := 71) dX5_pushBehind_71 sx_m0 ?_
  refine sx_dup (pc := 72) dX5_pushBehind_72 rfl ?_
  refine sv_getI (pc := 73) hG dX5_pushBehind_73 f_5_93 lay_69 rfl ?_
  refine sx_iload_n (pc := 76) dX5_pushBehind_76 sx_m2 ?_
  refine sx_iadd (pc := 77) dX5_pushBehind_77 ?_
  obtain ⟨V3, hV3⟩ : ∃ z : sv_V, z = sv_I V1 69 11 ((V1.1 69 11) + l2) := ⟨_, rfl⟩
  have h := sx_letE hV3 h
  refine sv_putI (pc := 78) hG dX5_pushBehind_78 f_5_93 lay_69 rfl hV3 ?_
  obtain ⟨x4, hx4⟩ : ∃ z : Int32, z = l3 + 1 := ⟨_, rfl⟩
  have h := sx_letE hx4 h
  refine sx_iinc (pc := 81) (v := x4) (lo' := [(3, .int x4), (0, .ref 69), (1, .int l1), (2, .int l2)]) dX5_pushBehind_81 sx_m3 (by rw [hx4]; rfl) (by decide) rfl ?_
  refine sx_goto (pc := 84) (tgt := 23) dX5_pushBehind_84 (by decide) ?_
  refine sx_wk (sx_s1 sx_m1 (sx_s1 sx_m2 (sx_s1 sx_m3 (sx_s1 sx_m0 sx_s0)))) ?_
  exact hk23 _ _ _ _ h
def B_X5_pushBehind_23 (N : Nat) (k23 : Int32 → Int32 → Int32 → sv_V → Option sv_V) (l1 : Int32) (l2 : Int32) (l3 : Int32) (V : sv_V) : Option sv_V := if l1 ≤ l3 then (some V) else (if (V.1 69 14) = 0 then (if l2 = (1 : Int32) then ((F_X2_u1 (V.1 69 11) V).bind (fun (x13, V11) => B_X5_pushBehind_68 N k23 l1 l2 l3 x13.toInt64 V11)) else ((F_X2_s2 (V.1 69 11) V).bind (fun (x10, V8) => B_X5_pushBehind_68 N k23 l1 l2 l3 x10.toInt64 V8))) else (some V))
set_option maxRecDepth 20000 in
theorem tB_X5_pushBehind_23 {g : sx_G} (hG : sx_Go g) {P : Option Value → sv_V → Prop} {Vr : sv_V} (hP : P none Vr) {N : Nat} {k23 : Int32 → Int32 → Int32 → sv_V → Option sv_V} (hk23 : ∀ (l1 : Int32) (l2 : Int32) (l3 : Int32) (V : sv_V), k23 l1 l2 l3 V = some Vr → sv_N g qX5_pushBehind 1 23 [(0, .ref 69), (1, .int l1), (2, .int l2), (3, .int l3)] [] V P) {l1 : Int32} {l2 : Int32} {l3 : Int32} {V : sv_V} (h : B_X5_pushBehind_23 N k23 l1 l2 l3 V = some Vr) : sv_N g qX5_pushBehind 1 23 [(0, .ref 69), (1, .int l1), (2, .int l2), (3, .int l3)] [] V P := by
  unfold B_X5_pushBehind_23 at h
  refine sx_iload_n (pc := 23) dX5_pushBehind_23 sx_m3 ?_
  refine sx_iload_n (pc := 24) dX5_pushBehind_24 sx_m1 ?_
  refine sx_icmp_ge (pc := 25) (tgt := 87) dX5_pushBehind_25 (by decide) (fun c5 => ?_) (fun c5 => ?_)
  · have h := sx_pos c5 h
    exact sv_vret (pc := 87) dX5_pushBehind_87 rfl h hP
  · have h := sx_neg c5 h
    refine sx_aload_n (pc := 28) dX5_pushBehind_28 sx_m0 ?_
    refine sv_getI (pc := 29) hG dX5_pushBehind_29 f_5_56 lay_69 rfl ?_
    refine sx_if_ne (pc := 32) (tgt := 87) dX5_pushBehind_32 (by decide) (fun c6 => ?_) (fun c6 => ?_)
    · have h := sx_neg c6 h
      exact sv_vret (pc := 87) dX5_pushBehind_87 rfl h hP
    · have h := sx_pos c6 h
      refine sx_aload_n (pc := 35) dX5_pushBehind_35 sx_m0 ?_
      refine sx_iload_n (pc := 36) dX5_pushBehind_36 sx_m2 ?_
      refine sx_iconst (pc := 37) (v := 1) dX5_pushBehind_37 (by decide) ?_
      refine sx_icmp_ne (pc := 38) (tgt := 56) dX5_pushBehind_38 (by decide) (fun c7 => ?_) (fun c7 => ?_)
      · have h := sx_neg c7 h
        refine sx_aload_n (pc := 56) dX5_pushBehind_56 sx_m0 ?_
        refine sv_getO (pc := 57) hG dX5_pushBehind_57 f_5_45 lay_69 rfl cr_69_0 ?_
        refine sx_aload_n (pc := 60) dX5_pushBehind_60 sx_m0 ?_
        refine sv_getI (pc := 61) hG dX5_pushBehind_61 f_5_93 lay_69 rfl ?_
        obtain ⟨⟨x10, V8⟩, g9, h⟩ := sx_bnd h
        refine sv_cV (pc := 64) (y := qX2_s2) (o := (some (.int x10))) (as := [.int (V.1 69 11)]) (V1 := V8) hG dX5_pushBehind_64 l_X5_391 y0X2_s2 yvX2_s2 rfl (Nat.le_of_ble_eq_true rfl) lay_2 kr_2 (by decide) (Nat.le_of_ble_eq_true rfl) rfl rfl rfl (t_X2_s2 hG ⟨rfl, rfl⟩ g9) ?_
        refine sx_i2l (pc := 67) dX5_pushBehind_67 ?_
        refine sx_wk (sx_s1 sx_m0 (sx_s1 sx_m1 (sx_s1 sx_m2 (sx_s1 sx_m3 sx_s0)))) ?_
        exact tB_X5_pushBehind_68 hG hP hk23 h
      · have h := sx_pos c7 h
        refine sx_aload_n (pc := 41) dX5_pushBehind_41 sx_m0 ?_
        refine sv_getO (pc := 42) hG dX5_pushBehind_42 f_5_45 lay_69 rfl cr_69_0 ?_
        refine sx_aload_n (pc := 45) dX5_pushBehind_45 sx_m0 ?_
        refine sv_getI (pc := 46) hG dX5_pushBehind_46 f_5_93 lay_69 rfl ?_
        obtain ⟨⟨x13, V11⟩, g12, h⟩ := sx_bnd h
        refine sv_cV (pc := 49) (y := qX2_u1) (o := (some (.int x13))) (as := [.int (V.1 69 11)]) (V1 := V11) hG dX5_pushBehind_49 l_X5_156 y0X2_u1 yvX2_u1 rfl (Nat.le_of_ble_eq_true rfl) lay_2 kr_2 (by decide) (Nat.le_of_ble_eq_true rfl) rfl rfl rfl (t_X2_u1 hG ⟨rfl, rfl⟩ g12) ?_
        refine sx_i2l (pc := 52) dX5_pushBehind_52 ?_
        refine sx_goto (pc := 53) (tgt := 68) dX5_pushBehind_53 (by decide) ?_
        refine sx_wk (sx_s1 sx_m0 (sx_s1 sx_m1 (sx_s1 sx_m2 (sx_s1 sx_m3 sx_s0)))) ?_
        exact tB_X5_pushBehind_68 hG hP hk23 h
theorem tL_X5_pushBehind_23 {g : sx_G} (hG : sx_Go g) {P : Option Value → sv_V → Prop} {Vr : sv_V} (hP : P none Vr) {N : Nat}   : ∀ (n : Nat) (l1 : Int32) (l2 : Int32) (l3 : Int32) (V : sv_V), sx_lp4 (B_X5_pushBehind_23 N ) n l1 l2 l3 V = some Vr → sv_N g qX5_pushBehind 1 23 [(0, .ref 69), (1, .int l1), (2, .int l2), (3, .int l3)] [] V P :=
  sx_lp4_ind (fun k0 ih _ _ _ V h => tB_X5_pushBehind_23 hG hP ih h)
def F_X5_pushBehind (N : Nat) (l1 : Int32) (l2 : Int32) (V : sv_V) : Option sv_V := if ((V.1 69 11) + (l1 * l2)) ≤ (V.1 69 10) then (sx_lp4 (B_X5_pushBehind_23 N ) N l1 l2 (0 : Int32) V) else (sx_let (sv_I V 69 14 (4 : Int32)) (fun V15 => some V15))
set_option maxRecDepth 20000 in
theorem t_X5_pushBehind {g : sx_G} (hG : sx_Go g) {P : Option Value → sv_V → Prop} {Vr : sv_V} (hP : P none Vr) {N : Nat} {l1 : Int32} {l2 : Int32} {V : sv_V} (h : F_X5_pushBehind N l1 l2 V = some Vr) : sv_N g qX5_pushBehind 1 0 [(0, .ref 69), (1, .int l1), (2, .int l2)] [] V P := by
  unfold F_X5_pushBehind at h
  refine sx_aload_n (pc := 0) dX5_pushBehind_0 sx_m0 ?_
  refine sv_getI (pc := 1) hG dX5_pushBehind_1 f_5_93 lay_69 rfl ?_
  refine sx_iload_n (pc := 4) dX5_pushBehind_4 sx_m1 ?_
  refine sx_iload_n (pc := 5) dX5_pushBehind_5 sx_m2 ?_
  refine sx_imul (pc := 6) dX5_pushBehind_6 ?_
  refine sx_iadd (pc := 7) dX5_pushBehind_7 ?_
  refine sx_aload_n (pc := 8) dX5_pushBehind_8 sx_m0 ?_
  refine sv_getI (pc := 9) hG dX5_pushBehind_9 f_5_90 lay_69 rfl ?_
  refine sx_icmp_le (pc := 12) (tgt := 21) dX5_pushBehind_12 (by decide) (fun c14 => ?_) (fun c14 => ?_)
  · have h := sx_pos c14 h
    refine sx_iconst (pc := 21) (v := 0) dX5_pushBehind_21 (by decide) ?_
    refine sx_istore_n (pc := 22) (lo' := [(3, .int (0 : Int32)), (0, .ref 69), (1, .int l1), (2, .int l2)]) dX5_pushBehind_22 (by decide) rfl ?_
    refine sx_wk (sx_s1 sx_m1 (sx_s1 sx_m2 (sx_s1 sx_m3 (sx_s1 sx_m0 sx_s0)))) ?_
    exact tL_X5_pushBehind_23 hG hP  N _ _ _ _ h
  · have h := sx_neg c14 h
    refine sx_aload_n (pc := 15) dX5_pushBehind_15 sx_m0 ?_
    refine sx_iconst (pc := 16) (v := 4) dX5_pushBehind_16 (by decide) ?_
    obtain ⟨V15, hV15⟩ : ∃ z : sv_V, z = sv_I V 69 14 (4 : Int32) := ⟨_, rfl⟩
    have h := sx_letE hV15 h
    refine sv_putI (pc := 17) hG dX5_pushBehind_17 f_5_56 lay_69 rfl hV15 ?_
    exact sv_vret (pc := 20) dX5_pushBehind_20 rfl h hP
