/-! methods: X0_ownCode, X0_has, X0_hasFunction, X2_take, X2_u1, X2_u2, X2_s2, X2_u4, X2_hasTable, X2_hasGlyph, X2_bearingOf, X2_kernOf, X2_findInGroups, X2_findInSegment, X3_goTo, X3_takeU1, X3_takeU2, X3_takeS2, X3_takeProgram, X3_takeFlags, X3_takePlaces, X3_takePart, X4_directoryHolds, X4_entry, X4_tagsRise -/
theorem dX0_ownCode_0 : decode cX0_ownCode 0 = .ok (.bipush 64, 2) := by decide +kernel
theorem dX0_ownCode_2 : decode cX0_ownCode 2 = .ok (.iload_n 0, 1) := by decide +kernel
theorem dX0_ownCode_3 : decode cX0_ownCode 3 = .ok (.iadd, 1) := by decide +kernel
theorem dX0_ownCode_4 : decode cX0_ownCode 4 = .ok (.ireturn, 1) := by decide +kernel
def F_X0_ownCode (l0 : Int32) (V : sv_V) : Option (Int32 × sv_V) := some ((64 : Int32) + l0, V)
set_option maxRecDepth 20000 in
theorem t_X0_ownCode {g : sx_G} (hG : sx_Go g) {P : Option Value → sv_V → Prop} {r : Int32} {Vr : sv_V} (hP : P (some (.int r)) Vr) {l0 : Int32} {V : sv_V} (h : F_X0_ownCode l0 V = some (r, Vr)) : sv_N g qX0_ownCode 0 0 [(0, .int l0)] [] V P := by
  unfold F_X0_ownCode at h
  refine sx_bipush (pc := 0) (v := 64) dX0_ownCode_0 (by decide) ?_
  refine sx_iload_n (pc := 2) dX0_ownCode_2 sx_m0 ?_
  refine sx_iadd (pc := 3) dX0_ownCode_3 ?_
  exact sv_iret (pc := 4) dX0_ownCode_4 rfl h hP
theorem dX0_has_0 : decode cX0_has 0 = .ok (.iload_n 1, 1) := by decide +kernel
theorem dX0_has_1 : decode cX0_has 1 = .ok (.ifCond .lt 24, 3) := by decide +kernel
theorem dX0_has_4 : decode cX0_has 4 = .ok (.iload_n 1, 1) := by decide +kernel
theorem dX0_has_5 : decode cX0_has 5 = .ok (.sipush 320, 3) := by decide +kernel
theorem dX0_has_8 : decode cX0_has 8 = .ok (.if_icmp .ge 17, 3) := by decide +kernel
theorem dX0_has_11 : decode cX0_has 11 = .ok (.aload_n 0, 1) := by decide +kernel
theorem dX0_has_12 : decode cX0_has 12 = .ok (.getfield 18, 3) := by decide +kernel
theorem dX0_has_15 : decode cX0_has 15 = .ok (.iload_n 1, 1) := by decide +kernel
theorem dX0_has_16 : decode cX0_has 16 = .ok (.iaload, 1) := by decide +kernel
theorem dX0_has_17 : decode cX0_has 17 = .ok (.iconst (-1), 1) := by decide +kernel
theorem dX0_has_18 : decode cX0_has 18 = .ok (.if_icmp .eq 7, 3) := by decide +kernel
theorem dX0_has_21 : decode cX0_has 21 = .ok (.iconst 1, 1) := by decide +kernel
theorem dX0_has_22 : decode cX0_has 22 = .ok (.goto 4, 3) := by decide +kernel
theorem dX0_has_25 : decode cX0_has 25 = .ok (.iconst 0, 1) := by decide +kernel
theorem dX0_has_26 : decode cX0_has 26 = .ok (.ireturn, 1) := by decide +kernel
def F_X0_has (l1 : Int32) (V : sv_V) : Option (Int32 × sv_V) := if l1 < 0 then (some ((0 : Int32), V)) else (if (320 : Int32) ≤ l1 then (some ((0 : Int32), V)) else (if sx_in l1 320 = true then if (V.1 76 l1.toNatClampNeg) = (-1 : Int32) then (some ((0 : Int32), V)) else (some ((1 : Int32), V)) else none))
set_option maxRecDepth 20000 in
theorem t_X0_has {g : sx_G} (hG : sx_Go g) {P : Option Value → sv_V → Prop} {r : Int32} {Vr : sv_V} (hP : P (some (.int r)) Vr) {l1 : Int32} {V : sv_V} (h : F_X0_has l1 V = some (r, Vr)) : sv_N g qX0_has 0 0 [(0, .ref 73), (1, .int l1)] [] V P := by
  unfold F_X0_has at h
  refine sx_iload_n (pc := 0) dX0_has_0 sx_m1 ?_
  refine sx_if_lt (pc := 1) (tgt := 25) dX0_has_1 (by decide) (fun c1 => ?_) (fun c1 => ?_)
  · have h := sx_pos c1 h
    refine sx_iconst (pc := 25) (v := 0) dX0_has_25 (by decide) ?_
    exact sv_zret (pc := 26) dX0_has_26 rfl rfl h hP
  · have h := sx_neg c1 h
    refine sx_iload_n (pc := 4) dX0_has_4 sx_m1 ?_
    refine sx_sipush (pc := 5) (v := 320) dX0_has_5 (by decide) ?_
    refine sx_icmp_ge (pc := 8) (tgt := 25) dX0_has_8 (by decide) (fun c2 => ?_) (fun c2 => ?_)
    · have h := sx_pos c2 h
      refine sx_iconst (pc := 25) (v := 0) dX0_has_25 (by decide) ?_
      exact sv_zret (pc := 26) dX0_has_26 rfl rfl h hP
    · have h := sx_neg c2 h
      refine sx_aload_n (pc := 11) dX0_has_11 sx_m0 ?_
      refine sv_getA (pc := 12) hG dX0_has_12 f_0_18 lay_73 rfl cr_73_2 ?_
      refine sx_iload_n (pc := 15) dX0_has_15 sx_m1 ?_
      obtain ⟨g3, h⟩ := sx_grd h
      refine sv_iald (pc := 16) hG dX0_has_16 lay_76 g3 ?_
      refine sx_iconst (pc := 17) (v := (-1)) dX0_has_17 (by decide) ?_
      refine sx_icmp_eq (pc := 18) (tgt := 25) dX0_has_18 (by decide) (fun c4 => ?_) (fun c4 => ?_)
      · have h := sx_pos c4 h
        refine sx_iconst (pc := 25) (v := 0) dX0_has_25 (by decide) ?_
        exact sv_zret (pc := 26) dX0_has_26 rfl rfl h hP
      · have h := sx_neg c4 h
        refine sx_iconst (pc := 21) (v := 1) dX0_has_21 (by decide) ?_
        refine sx_goto (pc := 22) (tgt := 26) dX0_has_22 (by decide) ?_
        exact sv_zret (pc := 26) dX0_has_26 rfl rfl h hP
theorem dX0_hasFunction_0 : decode cX0_hasFunction 0 = .ok (.iload_n 1, 1) := by decide +kernel
theorem dX0_hasFunction_1 : decode cX0_hasFunction 1 = .ok (.ifCond .lt 23, 3) := by decide +kernel
theorem dX0_hasFunction_4 : decode cX0_hasFunction 4 = .ok (.iload_n 1, 1) := by decide +kernel
theorem dX0_hasFunction_5 : decode cX0_hasFunction 5 = .ok (.bipush 64, 2) := by decide +kernel
theorem dX0_hasFunction_7 : decode cX0_hasFunction 7 = .ok (.if_icmp .ge 17, 3) := by decide +kernel
theorem dX0_hasFunction_10 : decode cX0_hasFunction 10 = .ok (.aload_n 0, 1) := by decide +kernel
theorem dX0_hasFunction_11 : decode cX0_hasFunction 11 = .ok (.getfield 18, 3) := by decide +kernel
theorem dX0_hasFunction_14 : decode cX0_hasFunction 14 = .ok (.iload_n 1, 1) := by decide +kernel
theorem dX0_hasFunction_15 : decode cX0_hasFunction 15 = .ok (.iaload, 1) := by decide +kernel
theorem dX0_hasFunction_16 : decode cX0_hasFunction 16 = .ok (.iconst (-1), 1) := by decide +kernel
theorem dX0_hasFunction_17 : decode cX0_hasFunction 17 = .ok (.if_icmp .eq 7, 3) := by decide +kernel
theorem dX0_hasFunction_20 : decode cX0_hasFunction 20 = .ok (.iconst 1, 1) := by decide +kernel
theorem dX0_hasFunction_21 : decode cX0_hasFunction 21 = .ok (.goto 4, 3) := by decide +kernel
theorem dX0_hasFunction_24 : decode cX0_hasFunction 24 = .ok (.iconst 0, 1) := by decide +kernel
theorem dX0_hasFunction_25 : decode cX0_hasFunction 25 = .ok (.ireturn, 1) := by decide +kernel
def F_X0_hasFunction (l1 : Int32) (V : sv_V) : Option (Int32 × sv_V) := if l1 < 0 then (some ((0 : Int32), V)) else (if (64 : Int32) ≤ l1 then (some ((0 : Int32), V)) else (if sx_in l1 320 = true then if (V.1 76 l1.toNatClampNeg) = (-1 : Int32) then (some ((0 : Int32), V)) else (some ((1 : Int32), V)) else none))
set_option maxRecDepth 20000 in
theorem t_X0_hasFunction {g : sx_G} (hG : sx_Go g) {P : Option Value → sv_V → Prop} {r : Int32} {Vr : sv_V} (hP : P (some (.int r)) Vr) {l1 : Int32} {V : sv_V} (h : F_X0_hasFunction l1 V = some (r, Vr)) : sv_N g qX0_hasFunction 0 0 [(0, .ref 73), (1, .int l1)] [] V P := by
  unfold F_X0_hasFunction at h
  refine sx_iload_n (pc := 0) dX0_hasFunction_0 sx_m1 ?_
  refine sx_if_lt (pc := 1) (tgt := 24) dX0_hasFunction_1 (by decide) (fun c1 => ?_) (fun c1 => ?_)
  · have h := sx_pos c1 h
    refine sx_iconst (pc := 24) (v := 0) dX0_hasFunction_24 (by decide) ?_
    exact sv_zret (pc := 25) dX0_hasFunction_25 rfl rfl h hP
  · have h := sx_neg c1 h
    refine sx_iload_n (pc := 4) dX0_hasFunction_4 sx_m1 ?_
    refine sx_bipush (pc := 5) (v := 64) dX0_hasFunction_5 (by decide) ?_
    refine sx_icmp_ge (pc := 7) (tgt := 24) dX0_hasFunction_7 (by decide) (fun c2 => ?_) (fun c2 => ?_)
    · have h := sx_pos c2 h
      refine sx_iconst (pc := 24) (v := 0) dX0_hasFunction_24 (by decide) ?_
      exact sv_zret (pc := 25) dX0_hasFunction_25 rfl rfl h hP
    · have h := sx_neg c2 h
      refine sx_aload_n (pc := 10) dX0_hasFunction_10 sx_m0 ?_
      refine sv_getA (pc := 11) hG dX0_hasFunction_11 f_0_18 lay_73 rfl cr_73_2 ?_
      refine sx_iload_n (pc := 14) dX0_hasFunction_14 sx_m1 ?_
      obtain ⟨g3, h⟩ := sx_grd h
      refine sv_iald (pc := 15) hG dX0_hasFunction_15 lay_76 g3 ?_
      refine sx_iconst (pc := 16) (v := (-1)) dX0_hasFunction_16 (by decide) ?_
      refine sx_icmp_eq (pc := 17) (tgt := 24) dX0_hasFunction_17 (by decide) (fun c4 => ?_) (fun c4 => ?_)
      · have h := sx_pos c4 h
        refine sx_iconst (pc := 24) (v := 0) dX0_hasFunction_24 (by decide) ?_
        exact sv_zret (pc := 25) dX0_hasFunction_25 rfl rfl h hP
      · have h := sx_neg c4 h
        refine sx_iconst (pc := 20) (v := 1) dX0_hasFunction_20 (by decide) ?_
        refine sx_goto (pc := 21) (tgt := 25) dX0_hasFunction_21 (by decide) ?_
        exact sv_zret (pc := 25) dX0_hasFunction_25 rfl rfl h hP
theorem dX2_take_0 : decode cX2_take 0 = .ok (.aload_n 1, 1) := by decide +kernel
theorem dX2_take_1 : decode cX2_take 1 = .ok (.iconst 0, 1) := by decide +kernel
theorem dX2_take_2 : decode cX2_take 2 = .ok (.aload_n 0, 1) := by decide +kernel
theorem dX2_take_3 : decode cX2_take 3 = .ok (.getfield 9, 3) := by decide +kernel
theorem dX2_take_6 : decode cX2_take 6 = .ok (.iconst 0, 1) := by decide +kernel
theorem dX2_take_7 : decode cX2_take 7 = .ok (.iload_n 2, 1) := by decide +kernel
theorem dX2_take_8 : decode cX2_take 8 = .ok (.invokestatic 36, 3) := by decide +kernel
theorem dX2_take_11 : decode cX2_take 11 = .ok (.aload_n 0, 1) := by decide +kernel
theorem dX2_take_12 : decode cX2_take 12 = .ok (.iload_n 2, 1) := by decide +kernel
theorem dX2_take_13 : decode cX2_take 13 = .ok (.putfield 42, 3) := by decide +kernel
theorem dX2_take_16 : decode cX2_take 16 = .ok (.aload_n 0, 1) := by decide +kernel
theorem dX2_take_17 : decode cX2_take 17 = .ok (.iconst 0, 1) := by decide +kernel
theorem dX2_take_18 : decode cX2_take 18 = .ok (.putfield 46, 3) := by decide +kernel
theorem dX2_take_21 : decode cX2_take 21 = .ok (.return_, 1) := by decide +kernel
def F_X2_take (l1 : Nat) (l2 : Int32) (V : sv_V) : Option sv_V := (sv_len 1 l1).bind (fun n1 => if sv_cpo (0 : Int32) l2 n1 = true then if sv_cpo (0 : Int32) l2 12000 = true then if sv_fb V l1 (0 : Int32).toNatClampNeg l2.toNatClampNeg = true then sx_let (sv_C V l1 (0 : Int32).toNatClampNeg 3 (0 : Int32).toNatClampNeg l2.toNatClampNeg) (fun V6 => sx_let (sv_I V6 2 1 l2) (fun V7 => sx_let (sv_I V7 2 2 (0 : Int32)) (fun V8 => some V8))) else none else none else none)
set_option maxRecDepth 20000 in
theorem t_X2_take {g : sx_G} (hG : sx_Go g) {P : Option Value → sv_V → Prop} {Vr : sv_V} (hP : P none Vr) {l1 : Nat} {l2 : Int32} {V : sv_V} (h : F_X2_take l1 l2 V = some Vr) : sv_N g qX2_take 1 0 [(0, .ref 2), (1, .ref l1), (2, .int l2)] [] V P := by
  unfold F_X2_take at h
  refine sx_aload_n (pc := 0) dX2_take_0 sx_m1 ?_
  refine sx_iconst (pc := 1) (v := 0) dX2_take_1 (by decide) ?_
  refine sx_aload_n (pc := 2) dX2_take_2 sx_m0 ?_
  refine sv_getA (pc := 3) hG dX2_take_3 f_2_9 lay_2 rfl cr_2_0 ?_
  refine sx_iconst (pc := 6) (v := 0) dX2_take_6 (by decide) ?_
  refine sx_iload_n (pc := 7) dX2_take_7 sx_m2 ?_
  obtain ⟨n1, g2, h⟩ := sx_bnd h
  obtain ⟨g3, h⟩ := sx_grd h
  obtain ⟨g4, h⟩ := sx_grd h
  obtain ⟨g5, h⟩ := sx_grd h
  obtain ⟨V6, hV6⟩ : ∃ z : sv_V, z = sv_C V l1 (0 : Int32).toNatClampNeg 3 (0 : Int32).toNatClampNeg l2.toNatClampNeg := ⟨_, rfl⟩
  have h := sx_letE hV6 h
  refine sv_copyB (pc := 8) hG dX2_take_8 l_X2_36 (sv_len_e g2) lay_3 g3 g4 g5 (by decide) (Nat.le_of_ble_eq_true rfl) hV6 ?_
  refine sx_aload_n (pc := 11) dX2_take_11 sx_m0 ?_
  refine sx_iload_n (pc := 12) dX2_take_12 sx_m2 ?_
  obtain ⟨V7, hV7⟩ : ∃ z : sv_V, z = sv_I V6 2 1 l2 := ⟨_, rfl⟩
  have h := sx_letE hV7 h
  refine sv_putI (pc := 13) hG dX2_take_13 f_2_42 lay_2 rfl hV7 ?_
  refine sx_aload_n (pc := 16) dX2_take_16 sx_m0 ?_
  refine sx_iconst (pc := 17) (v := 0) dX2_take_17 (by decide) ?_
  obtain ⟨V8, hV8⟩ : ∃ z : sv_V, z = sv_I V7 2 2 (0 : Int32) := ⟨_, rfl⟩
  have h := sx_letE hV8 h
  refine sv_putZ (pc := 18) hG dX2_take_18 f_2_46 lay_2 rfl rfl hV8 ?_
  exact sv_vret (pc := 21) dX2_take_21 rfl h hP
theorem dX2_u1_0 : decode cX2_u1 0 = .ok (.iload_n 1, 1) := by decide +kernel
theorem dX2_u1_1 : decode cX2_u1 1 = .ok (.ifCond .lt 24, 3) := by decide +kernel
theorem dX2_u1_4 : decode cX2_u1 4 = .ok (.iload_n 1, 1) := by decide +kernel
theorem dX2_u1_5 : decode cX2_u1 5 = .ok (.aload_n 0, 1) := by decide +kernel
theorem dX2_u1_6 : decode cX2_u1 6 = .ok (.getfield 42, 3) := by decide +kernel
theorem dX2_u1_9 : decode cX2_u1 9 = .ok (.if_icmp .ge 16, 3) := by decide +kernel
theorem dX2_u1_12 : decode cX2_u1 12 = .ok (.aload_n 0, 1) := by decide +kernel
theorem dX2_u1_13 : decode cX2_u1 13 = .ok (.getfield 9, 3) := by decide +kernel
theorem dX2_u1_16 : decode cX2_u1 16 = .ok (.iload_n 1, 1) := by decide +kernel
theorem dX2_u1_17 : decode cX2_u1 17 = .ok (.baload, 1) := by decide +kernel
theorem dX2_u1_18 : decode cX2_u1 18 = .ok (.sipush 255, 3) := by decide +kernel
theorem dX2_u1_21 : decode cX2_u1 21 = .ok (.iand, 1) := by decide +kernel
theorem dX2_u1_22 : decode cX2_u1 22 = .ok (.goto 4, 3) := by decide +kernel
theorem dX2_u1_25 : decode cX2_u1 25 = .ok (.iconst 0, 1) := by decide +kernel
theorem dX2_u1_26 : decode cX2_u1 26 = .ok (.ireturn, 1) := by decide +kernel
def F_X2_u1 (l1 : Int32) (V : sv_V) : Option (Int32 × sv_V) := if l1 < 0 then (some ((0 : Int32), V)) else (if (V.1 2 1) ≤ l1 then (some ((0 : Int32), V)) else (if sx_in l1 12000 = true then some ((V.1 3 l1.toNatClampNeg) &&& (255 : Int32), V) else none))
set_option maxRecDepth 20000 in
theorem t_X2_u1 {g : sx_G} (hG : sx_Go g) {P : Option Value → sv_V → Prop} {r : Int32} {Vr : sv_V} (hP : P (some (.int r)) Vr) {l1 : Int32} {V : sv_V} (h : F_X2_u1 l1 V = some (r, Vr)) : sv_N g qX2_u1 0 0 [(0, .ref 2), (1, .int l1)] [] V P := by
  unfold F_X2_u1 at h
  refine sx_iload_n (pc := 0) dX2_u1_0 sx_m1 ?_
  refine sx_if_lt (pc := 1) (tgt := 25) dX2_u1_1 (by decide) (fun c1 => ?_) (fun c1 => ?_)
  · have h := sx_pos c1 h
    refine sx_iconst (pc := 25) (v := 0) dX2_u1_25 (by decide) ?_
    exact sv_iret (pc := 26) dX2_u1_26 rfl h hP
  · have h := sx_neg c1 h
    refine sx_iload_n (pc := 4) dX2_u1_4 sx_m1 ?_
    refine sx_aload_n (pc := 5) dX2_u1_5 sx_m0 ?_
    refine sv_getI (pc := 6) hG dX2_u1_6 f_2_42 lay_2 rfl ?_
    refine sx_icmp_ge (pc := 9) (tgt := 25) dX2_u1_9 (by decide) (fun c2 => ?_) (fun c2 => ?_)
    · have h := sx_pos c2 h
      refine sx_iconst (pc := 25) (v := 0) dX2_u1_25 (by decide) ?_
      exact sv_iret (pc := 26) dX2_u1_26 rfl h hP
    · have h := sx_neg c2 h
      refine sx_aload_n (pc := 12) dX2_u1_12 sx_m0 ?_
      refine sv_getA (pc := 13) hG dX2_u1_13 f_2_9 lay_2 rfl cr_2_0 ?_
      refine sx_iload_n (pc := 16) dX2_u1_16 sx_m1 ?_
      obtain ⟨g3, h⟩ := sx_grd h
      refine sv_bald (pc := 17) hG dX2_u1_17 lay_3 g3 ?_
      refine sx_sipush (pc := 18) (v := 255) dX2_u1_18 (by decide) ?_
      refine sx_iand (pc := 21) dX2_u1_21 ?_
      refine sx_goto (pc := 22) (tgt := 26) dX2_u1_22 (by decide) ?_
      exact sv_iret (pc := 26) dX2_u1_26 rfl h hP
theorem dX2_u2_0 : decode cX2_u2 0 = .ok (.iload_n 1, 1) := by decide +kernel
theorem dX2_u2_1 : decode cX2_u2 1 = .ok (.ifCond .lt 13, 3) := by decide +kernel
theorem dX2_u2_4 : decode cX2_u2 4 = .ok (.iload_n 1, 1) := by decide +kernel
theorem dX2_u2_5 : decode cX2_u2 5 = .ok (.iconst 2, 1) := by decide +kernel
theorem dX2_u2_6 : decode cX2_u2 6 = .ok (.iadd, 1) := by decide +kernel
theorem dX2_u2_7 : decode cX2_u2 7 = .ok (.aload_n 0, 1) := by decide +kernel
theorem dX2_u2_8 : decode cX2_u2 8 = .ok (.getfield 42, 3) := by decide +kernel
theorem dX2_u2_11 : decode cX2_u2 11 = .ok (.if_icmp .le 5, 3) := by decide +kernel
theorem dX2_u2_14 : decode cX2_u2 14 = .ok (.iconst 0, 1) := by decide +kernel
theorem dX2_u2_15 : decode cX2_u2 15 = .ok (.ireturn, 1) := by decide +kernel
theorem dX2_u2_16 : decode cX2_u2 16 = .ok (.aload_n 0, 1) := by decide +kernel
theorem dX2_u2_17 : decode cX2_u2 17 = .ok (.getfield 9, 3) := by decide +kernel
theorem dX2_u2_20 : decode cX2_u2 20 = .ok (.iload_n 1, 1) := by decide +kernel
theorem dX2_u2_21 : decode cX2_u2 21 = .ok (.baload, 1) := by decide +kernel
theorem dX2_u2_22 : decode cX2_u2 22 = .ok (.sipush 255, 3) := by decide +kernel
theorem dX2_u2_25 : decode cX2_u2 25 = .ok (.iand, 1) := by decide +kernel
theorem dX2_u2_26 : decode cX2_u2 26 = .ok (.bipush 8, 2) := by decide +kernel
theorem dX2_u2_28 : decode cX2_u2 28 = .ok (.ishl, 1) := by decide +kernel
theorem dX2_u2_29 : decode cX2_u2 29 = .ok (.aload_n 0, 1) := by decide +kernel
theorem dX2_u2_30 : decode cX2_u2 30 = .ok (.getfield 9, 3) := by decide +kernel
theorem dX2_u2_33 : decode cX2_u2 33 = .ok (.iload_n 1, 1) := by decide +kernel
theorem dX2_u2_34 : decode cX2_u2 34 = .ok (.iconst 1, 1) := by decide +kernel
theorem dX2_u2_35 : decode cX2_u2 35 = .ok (.iadd, 1) := by decide +kernel
theorem dX2_u2_36 : decode cX2_u2 36 = .ok (.baload, 1) := by decide +kernel
theorem dX2_u2_37 : decode cX2_u2 37 = .ok (.sipush 255, 3) := by decide +kernel
theorem dX2_u2_40 : decode cX2_u2 40 = .ok (.iand, 1) := by decide +kernel
theorem dX2_u2_41 : decode cX2_u2 41 = .ok (.ior, 1) := by decide +kernel
theorem dX2_u2_42 : decode cX2_u2 42 = .ok (.ireturn, 1) := by decide +kernel
def F_X2_u2 (l1 : Int32) (V : sv_V) : Option (Int32 × sv_V) := if l1 < 0 then (some ((0 : Int32), V)) else (if (l1 + (2 : Int32)) ≤ (V.1 2 1) then (if sx_in l1 12000 = true then if sx_in (l1 + (1 : Int32)) 12000 = true then some ((((V.1 3 l1.toNatClampNeg) &&& (255 : Int32)) <<< ((8 : Int32) &&& 31)) ||| ((V.1 3 (l1 + (1 : Int32)).toNatClampNeg) &&& (255 : Int32)), V) else none else none) else (some ((0 : Int32), V)))
set_option maxRecDepth 20000 in
theorem t_X2_u2 {g : sx_G} (hG : sx_Go g) {P : Option Value → sv_V → Prop} {r : Int32} {Vr : sv_V} (hP : P (some (.int r)) Vr) {l1 : Int32} {V : sv_V} (h : F_X2_u2 l1 V = some (r, Vr)) : sv_N g qX2_u2 0 0 [(0, .ref 2), (1, .int l1)] [] V P := by
  unfold F_X2_u2 at h
  refine sx_iload_n (pc := 0) dX2_u2_0 sx_m1 ?_
  refine sx_if_lt (pc := 1) (tgt := 14) dX2_u2_1 (by decide) (fun c1 => ?_) (fun c1 => ?_)
  · have h := sx_pos c1 h
    refine sx_iconst (pc := 14) (v := 0) dX2_u2_14 (by decide) ?_
    exact sv_iret (pc := 15) dX2_u2_15 rfl h hP
  · have h := sx_neg c1 h
    refine sx_iload_n (pc := 4) dX2_u2_4 sx_m1 ?_
    refine sx_iconst (pc := 5) (v := 2) dX2_u2_5 (by decide) ?_
    refine sx_iadd (pc := 6) dX2_u2_6 ?_
    refine sx_aload_n (pc := 7) dX2_u2_7 sx_m0 ?_
    refine sv_getI (pc := 8) hG dX2_u2_8 f_2_42 lay_2 rfl ?_
    refine sx_icmp_le (pc := 11) (tgt := 16) dX2_u2_11 (by decide) (fun c2 => ?_) (fun c2 => ?_)
    · have h := sx_pos c2 h
      refine sx_aload_n (pc := 16) dX2_u2_16 sx_m0 ?_
      refine sv_getA (pc := 17) hG dX2_u2_17 f_2_9 lay_2 rfl cr_2_0 ?_
      refine sx_iload_n (pc := 20) dX2_u2_20 sx_m1 ?_
      obtain ⟨g3, h⟩ := sx_grd h
      refine sv_bald (pc := 21) hG dX2_u2_21 lay_3 g3 ?_
      refine sx_sipush (pc := 22) (v := 255) dX2_u2_22 (by decide) ?_
      refine sx_iand (pc := 25) dX2_u2_25 ?_
      refine sx_bipush (pc := 26) (v := 8) dX2_u2_26 (by decide) ?_
      refine sx_ishl (pc := 28) dX2_u2_28 ?_
      refine sx_aload_n (pc := 29) dX2_u2_29 sx_m0 ?_
      refine sv_getA (pc := 30) hG dX2_u2_30 f_2_9 lay_2 rfl cr_2_0 ?_
      refine sx_iload_n (pc := 33) dX2_u2_33 sx_m1 ?_
      refine sx_iconst (pc := 34) (v := 1) dX2_u2_34 (by decide) ?_
      refine sx_iadd (pc := 35) dX2_u2_35 ?_
      obtain ⟨g4, h⟩ := sx_grd h
      refine sv_bald (pc := 36) hG dX2_u2_36 lay_3 g4 ?_
      refine sx_sipush (pc := 37) (v := 255) dX2_u2_37 (by decide) ?_
      refine sx_iand (pc := 40) dX2_u2_40 ?_
      refine sx_ior (pc := 41) dX2_u2_41 ?_
      exact sv_iret (pc := 42) dX2_u2_42 rfl h hP
    · have h := sx_neg c2 h
      refine sx_iconst (pc := 14) (v := 0) dX2_u2_14 (by decide) ?_
      exact sv_iret (pc := 15) dX2_u2_15 rfl h hP
theorem dX2_s2_0 : decode cX2_s2 0 = .ok (.iload_n 1, 1) := by decide +kernel
theorem dX2_s2_1 : decode cX2_s2 1 = .ok (.ifCond .lt 13, 3) := by decide +kernel
theorem dX2_s2_4 : decode cX2_s2 4 = .ok (.iload_n 1, 1) := by decide +kernel
theorem dX2_s2_5 : decode cX2_s2 5 = .ok (.iconst 2, 1) := by decide +kernel
theorem dX2_s2_6 : decode cX2_s2 6 = .ok (.iadd, 1) := by decide +kernel
theorem dX2_s2_7 : decode cX2_s2 7 = .ok (.aload_n 0, 1) := by decide +kernel
theorem dX2_s2_8 : decode cX2_s2 8 = .ok (.getfield 42, 3) := by decide +kernel
theorem dX2_s2_11 : decode cX2_s2 11 = .ok (.if_icmp .le 5, 3) := by decide +kernel
theorem dX2_s2_14 : decode cX2_s2 14 = .ok (.iconst 0, 1) := by decide +kernel
theorem dX2_s2_15 : decode cX2_s2 15 = .ok (.ireturn, 1) := by decide +kernel
theorem dX2_s2_16 : decode cX2_s2 16 = .ok (.aload_n 0, 1) := by decide +kernel
theorem dX2_s2_17 : decode cX2_s2 17 = .ok (.getfield 9, 3) := by decide +kernel
theorem dX2_s2_20 : decode cX2_s2 20 = .ok (.iload_n 1, 1) := by decide +kernel
theorem dX2_s2_21 : decode cX2_s2 21 = .ok (.baload, 1) := by decide +kernel
theorem dX2_s2_22 : decode cX2_s2 22 = .ok (.bipush 8, 2) := by decide +kernel
theorem dX2_s2_24 : decode cX2_s2 24 = .ok (.ishl, 1) := by decide +kernel
theorem dX2_s2_25 : decode cX2_s2 25 = .ok (.aload_n 0, 1) := by decide +kernel
theorem dX2_s2_26 : decode cX2_s2 26 = .ok (.getfield 9, 3) := by decide +kernel
theorem dX2_s2_29 : decode cX2_s2 29 = .ok (.iload_n 1, 1) := by decide +kernel
theorem dX2_s2_30 : decode cX2_s2 30 = .ok (.iconst 1, 1) := by decide +kernel
theorem dX2_s2_31 : decode cX2_s2 31 = .ok (.iadd, 1) := by decide +kernel
theorem dX2_s2_32 : decode cX2_s2 32 = .ok (.baload, 1) := by decide +kernel
theorem dX2_s2_33 : decode cX2_s2 33 = .ok (.sipush 255, 3) := by decide +kernel
theorem dX2_s2_36 : decode cX2_s2 36 = .ok (.iand, 1) := by decide +kernel
theorem dX2_s2_37 : decode cX2_s2 37 = .ok (.ior, 1) := by decide +kernel
theorem dX2_s2_38 : decode cX2_s2 38 = .ok (.ireturn, 1) := by decide +kernel
def F_X2_s2 (l1 : Int32) (V : sv_V) : Option (Int32 × sv_V) := if l1 < 0 then (some ((0 : Int32), V)) else (if (l1 + (2 : Int32)) ≤ (V.1 2 1) then (if sx_in l1 12000 = true then if sx_in (l1 + (1 : Int32)) 12000 = true then some (((V.1 3 l1.toNatClampNeg) <<< ((8 : Int32) &&& 31)) ||| ((V.1 3 (l1 + (1 : Int32)).toNatClampNeg) &&& (255 : Int32)), V) else none else none) else (some ((0 : Int32), V)))
set_option maxRecDepth 20000 in
theorem t_X2_s2 {g : sx_G} (hG : sx_Go g) {P : Option Value → sv_V → Prop} {r : Int32} {Vr : sv_V} (hP : P (some (.int r)) Vr) {l1 : Int32} {V : sv_V} (h : F_X2_s2 l1 V = some (r, Vr)) : sv_N g qX2_s2 0 0 [(0, .ref 2), (1, .int l1)] [] V P := by
  unfold F_X2_s2 at h
  refine sx_iload_n (pc := 0) dX2_s2_0 sx_m1 ?_
  refine sx_if_lt (pc := 1) (tgt := 14) dX2_s2_1 (by decide) (fun c1 => ?_) (fun c1 => ?_)
  · have h := sx_pos c1 h
    refine sx_iconst (pc := 14) (v := 0) dX2_s2_14 (by decide) ?_
    exact sv_iret (pc := 15) dX2_s2_15 rfl h hP
  · have h := sx_neg c1 h
    refine sx_iload_n (pc := 4) dX2_s2_4 sx_m1 ?_
    refine sx_iconst (pc := 5) (v := 2) dX2_s2_5 (by decide) ?_
    refine sx_iadd (pc := 6) dX2_s2_6 ?_
    refine sx_aload_n (pc := 7) dX2_s2_7 sx_m0 ?_
    refine sv_getI (pc := 8) hG dX2_s2_8 f_2_42 lay_2 rfl ?_
    refine sx_icmp_le (pc := 11) (tgt := 16) dX2_s2_11 (by decide) (fun c2 => ?_) (fun c2 => ?_)
    · have h := sx_pos c2 h
      refine sx_aload_n (pc := 16) dX2_s2_16 sx_m0 ?_
      refine sv_getA (pc := 17) hG dX2_s2_17 f_2_9 lay_2 rfl cr_2_0 ?_
      refine sx_iload_n (pc := 20) dX2_s2_20 sx_m1 ?_
      obtain ⟨g3, h⟩ := sx_grd h
      refine sv_bald (pc := 21) hG dX2_s2_21 lay_3 g3 ?_
      refine sx_bipush (pc := 22) (v := 8) dX2_s2_22 (by decide) ?_
      refine sx_ishl (pc := 24) dX2_s2_24 ?_
      refine sx_aload_n (pc := 25) dX2_s2_25 sx_m0 ?_
      refine sv_getA (pc := 26) hG dX2_s2_26 f_2_9 lay_2 rfl cr_2_0 ?_
      refine sx_iload_n (pc := 29) dX2_s2_29 sx_m1 ?_
      refine sx_iconst (pc := 30) (v := 1) dX2_s2_30 (by decide) ?_
      refine sx_iadd (pc := 31) dX2_s2_31 ?_
      obtain ⟨g4, h⟩ := sx_grd h
      refine sv_bald (pc := 32) hG dX2_s2_32 lay_3 g4 ?_
      refine sx_sipush (pc := 33) (v := 255) dX2_s2_33 (by decide) ?_
      refine sx_iand (pc := 36) dX2_s2_36 ?_
      refine sx_ior (pc := 37) dX2_s2_37 ?_
      exact sv_iret (pc := 38) dX2_s2_38 rfl h hP
    · have h := sx_neg c2 h
      refine sx_iconst (pc := 14) (v := 0) dX2_s2_14 (by decide) ?_
      exact sv_iret (pc := 15) dX2_s2_15 rfl h hP
theorem dX2_u4_0 : decode cX2_u4 0 = .ok (.aload_n 0, 1) := by decide +kernel
theorem dX2_u4_1 : decode cX2_u4 1 = .ok (.iload_n 1, 1) := by decide +kernel
theorem dX2_u4_2 : decode cX2_u4 2 = .ok (.invokevirtual 50, 3) := by decide +kernel
theorem dX2_u4_5 : decode cX2_u4 5 = .ok (.i2l, 1) := by decide +kernel
theorem dX2_u4_6 : decode cX2_u4 6 = .ok (.bipush 16, 2) := by decide +kernel
theorem dX2_u4_8 : decode cX2_u4 8 = .ok (.lshl, 1) := by decide +kernel
theorem dX2_u4_9 : decode cX2_u4 9 = .ok (.aload_n 0, 1) := by decide +kernel
theorem dX2_u4_10 : decode cX2_u4 10 = .ok (.iload_n 1, 1) := by decide +kernel
theorem dX2_u4_11 : decode cX2_u4 11 = .ok (.iconst 2, 1) := by decide +kernel
theorem dX2_u4_12 : decode cX2_u4 12 = .ok (.iadd, 1) := by decide +kernel
theorem dX2_u4_13 : decode cX2_u4 13 = .ok (.invokevirtual 50, 3) := by decide +kernel
theorem dX2_u4_16 : decode cX2_u4 16 = .ok (.i2l, 1) := by decide +kernel
theorem dX2_u4_17 : decode cX2_u4 17 = .ok (.lor, 1) := by decide +kernel
theorem dX2_u4_18 : decode cX2_u4 18 = .ok (.lreturn, 1) := by decide +kernel
def F_X2_u4 (l1 : Int32) (V : sv_V) : Option (Int64 × sv_V) := (F_X2_u2 l1 V).bind (fun (x3, V1) => (F_X2_u2 (l1 + (2 : Int32)) V1).bind (fun (x6, V4) => some ((x3.toInt64 <<< ((16 : Int32).toInt64 &&& 63)) ||| x6.toInt64, V4)))
set_option maxRecDepth 20000 in
theorem t_X2_u4 {g : sx_G} (hG : sx_Go g) {P : Option Value → sv_V → Prop} {r : Int64} {Vr : sv_V} (hP : P (some (.long r)) Vr) {l1 : Int32} {V : sv_V} (h : F_X2_u4 l1 V = some (r, Vr)) : sv_N g qX2_u4 1 0 [(0, .ref 2), (1, .int l1)] [] V P := by
  unfold F_X2_u4 at h
  refine sx_aload_n (pc := 0) dX2_u4_0 sx_m0 ?_
  refine sx_iload_n (pc := 1) dX2_u4_1 sx_m1 ?_
  obtain ⟨⟨x3, V1⟩, g2, h⟩ := sx_bnd h
  refine sv_cV (pc := 2) (y := qX2_u2) (o := (some (.int x3))) (as := [.int l1]) (V1 := V1) hG dX2_u4_2 l_X2_50 y0X2_u2 yvX2_u2 rfl (Nat.le_of_ble_eq_true rfl) lay_2 kr_2 (by decide) (Nat.le_of_ble_eq_true rfl) rfl rfl rfl (t_X2_u2 hG ⟨rfl, rfl⟩ g2) ?_
  refine sx_i2l (pc := 5) dX2_u4_5 ?_
  refine sx_bipush (pc := 6) (v := 16) dX2_u4_6 (by decide) ?_
  refine sx_lshl (pc := 8) dX2_u4_8 ?_
  refine sx_aload_n (pc := 9) dX2_u4_9 sx_m0 ?_
  refine sx_iload_n (pc := 10) dX2_u4_10 sx_m1 ?_
  refine sx_iconst (pc := 11) (v := 2) dX2_u4_11 (by decide) ?_
  refine sx_iadd (pc := 12) dX2_u4_12 ?_
  obtain ⟨⟨x6, V4⟩, g5, h⟩ := sx_bnd h
  refine sv_cV (pc := 13) (y := qX2_u2) (o := (some (.int x6))) (as := [.int (l1 + (2 : Int32))]) (V1 := V4) hG dX2_u4_13 l_X2_50 y0X2_u2 yvX2_u2 rfl (Nat.le_of_ble_eq_true rfl) lay_2 kr_2 (by decide) (Nat.le_of_ble_eq_true rfl) rfl rfl rfl (t_X2_u2 hG ⟨rfl, rfl⟩ g5) ?_
  refine sx_i2l (pc := 16) dX2_u4_16 ?_
  refine sx_lor (pc := 17) dX2_u4_17 ?_
  exact sv_lret (pc := 18) dX2_u4_18 rfl h hP
theorem dX2_hasTable_0 : decode cX2_hasTable 0 = .ok (.aload_n 0, 1) := by decide +kernel
theorem dX2_hasTable_1 : decode cX2_hasTable 1 = .ok (.getfield 19, 3) := by decide +kernel
theorem dX2_hasTable_4 : decode cX2_hasTable 4 = .ok (.iload_n 1, 1) := by decide +kernel
theorem dX2_hasTable_5 : decode cX2_hasTable 5 = .ok (.iaload, 1) := by decide +kernel
theorem dX2_hasTable_6 : decode cX2_hasTable 6 = .ok (.ifCond .le 7, 3) := by decide +kernel
theorem dX2_hasTable_9 : decode cX2_hasTable 9 = .ok (.iconst 1, 1) := by decide +kernel
theorem dX2_hasTable_10 : decode cX2_hasTable 10 = .ok (.goto 4, 3) := by decide +kernel
theorem dX2_hasTable_13 : decode cX2_hasTable 13 = .ok (.iconst 0, 1) := by decide +kernel
theorem dX2_hasTable_14 : decode cX2_hasTable 14 = .ok (.ireturn, 1) := by decide +kernel
def F_X2_hasTable (l1 : Int32) (V : sv_V) : Option (Int32 × sv_V) := if sx_in l1 11 = true then if (V.1 4 l1.toNatClampNeg) ≤ 0 then (some ((0 : Int32), V)) else (some ((1 : Int32), V)) else none
set_option maxRecDepth 20000 in
theorem t_X2_hasTable {g : sx_G} (hG : sx_Go g) {P : Option Value → sv_V → Prop} {r : Int32} {Vr : sv_V} (hP : P (some (.int r)) Vr) {l1 : Int32} {V : sv_V} (h : F_X2_hasTable l1 V = some (r, Vr)) : sv_N g qX2_hasTable 0 0 [(0, .ref 2), (1, .int l1)] [] V P := by
  unfold F_X2_hasTable at h
  refine sx_aload_n (pc := 0) dX2_hasTable_0 sx_m0 ?_
  refine sv_getA (pc := 1) hG dX2_hasTable_1 f_2_19 lay_2 rfl cr_2_3 ?_
  refine sx_iload_n (pc := 4) dX2_hasTable_4 sx_m1 ?_
  obtain ⟨g1, h⟩ := sx_grd h
  refine sv_iald (pc := 5) hG dX2_hasTable_5 lay_4 g1 ?_
  refine sx_if_le (pc := 6) (tgt := 13) dX2_hasTable_6 (by decide) (fun c2 => ?_) (fun c2 => ?_)
  · have h := sx_pos c2 h
    refine sx_iconst (pc := 13) (v := 0) dX2_hasTable_13 (by decide) ?_
    exact sv_zret (pc := 14) dX2_hasTable_14 rfl rfl h hP
  · have h := sx_neg c2 h
    refine sx_iconst (pc := 9) (v := 1) dX2_hasTable_9 (by decide) ?_
    refine sx_goto (pc := 10) (tgt := 14) dX2_hasTable_10 (by decide) ?_
    exact sv_zret (pc := 14) dX2_hasTable_14 rfl rfl h hP
theorem dX2_hasGlyph_0 : decode cX2_hasGlyph 0 = .ok (.iload_n 1, 1) := by decide +kernel
theorem dX2_hasGlyph_1 : decode cX2_hasGlyph 1 = .ok (.ifCond .lt 15, 3) := by decide +kernel
theorem dX2_hasGlyph_4 : decode cX2_hasGlyph 4 = .ok (.iload_n 1, 1) := by decide +kernel
theorem dX2_hasGlyph_5 : decode cX2_hasGlyph 5 = .ok (.aload_n 0, 1) := by decide +kernel
theorem dX2_hasGlyph_6 : decode cX2_hasGlyph 6 = .ok (.getfield 54, 3) := by decide +kernel
theorem dX2_hasGlyph_9 : decode cX2_hasGlyph 9 = .ok (.if_icmp .ge 7, 3) := by decide +kernel
theorem dX2_hasGlyph_12 : decode cX2_hasGlyph 12 = .ok (.iconst 1, 1) := by decide +kernel
theorem dX2_hasGlyph_13 : decode cX2_hasGlyph 13 = .ok (.goto 4, 3) := by decide +kernel
theorem dX2_hasGlyph_16 : decode cX2_hasGlyph 16 = .ok (.iconst 0, 1) := by decide +kernel
theorem dX2_hasGlyph_17 : decode cX2_hasGlyph 17 = .ok (.ireturn, 1) := by decide +kernel
def F_X2_hasGlyph (l1 : Int32) (V : sv_V) : Option (Int32 × sv_V) := if l1 < 0 then (some ((0 : Int32), V)) else (if (V.1 2 7) ≤ l1 then (some ((0 : Int32), V)) else (some ((1 : Int32), V)))
set_option maxRecDepth 20000 in
theorem t_X2_hasGlyph {g : sx_G} (hG : sx_Go g) {P : Option Value → sv_V → Prop} {r : Int32} {Vr : sv_V} (hP : P (some (.int r)) Vr) {l1 : Int32} {V : sv_V} (h : F_X2_hasGlyph l1 V = some (r, Vr)) : sv_N g qX2_hasGlyph 0 0 [(0, .ref 2), (1, .int l1)] [] V P := by
  unfold F_X2_hasGlyph at h
  refine sx_iload_n (pc := 0) dX2_hasGlyph_0 sx_m1 ?_
  refine sx_if_lt (pc := 1) (tgt := 16) dX2_hasGlyph_1 (by decide) (fun c1 => ?_) (fun c1 => ?_)
  · have h := sx_pos c1 h
    refine sx_iconst (pc := 16) (v := 0) dX2_hasGlyph_16 (by decide) ?_
    exact sv_zret (pc := 17) dX2_hasGlyph_17 rfl rfl h hP
  · have h := sx_neg c1 h
    refine sx_iload_n (pc := 4) dX2_hasGlyph_4 sx_m1 ?_
    refine sx_aload_n (pc := 5) dX2_hasGlyph_5 sx_m0 ?_
    refine sv_getI (pc := 6) hG dX2_hasGlyph_6 f_2_54 lay_2 rfl ?_
    refine sx_icmp_ge (pc := 9) (tgt := 16) dX2_hasGlyph_9 (by decide) (fun c2 => ?_) (fun c2 => ?_)
    · have h := sx_pos c2 h
      refine sx_iconst (pc := 16) (v := 0) dX2_hasGlyph_16 (by decide) ?_
      exact sv_zret (pc := 17) dX2_hasGlyph_17 rfl rfl h hP
    · have h := sx_neg c2 h
      refine sx_iconst (pc := 12) (v := 1) dX2_hasGlyph_12 (by decide) ?_
      refine sx_goto (pc := 13) (tgt := 17) dX2_hasGlyph_13 (by decide) ?_
      exact sv_zret (pc := 17) dX2_hasGlyph_17 rfl rfl h hP
theorem dX2_bearingOf_0 : decode cX2_bearingOf 0 = .ok (.iload_n 1, 1) := by decide +kernel
theorem dX2_bearingOf_1 : decode cX2_bearingOf 1 = .ok (.aload_n 0, 1) := by decide +kernel
theorem dX2_bearingOf_2 : decode cX2_bearingOf 2 = .ok (.getfield 57, 3) := by decide +kernel
theorem dX2_bearingOf_5 : decode cX2_bearingOf 5 = .ok (.if_icmp .ge 11, 3) := by decide +kernel
theorem dX2_bearingOf_8 : decode cX2_bearingOf 8 = .ok (.iconst 4, 1) := by decide +kernel
theorem dX2_bearingOf_9 : decode cX2_bearingOf 9 = .ok (.iload_n 1, 1) := by decide +kernel
theorem dX2_bearingOf_10 : decode cX2_bearingOf 10 = .ok (.imul, 1) := by decide +kernel
theorem dX2_bearingOf_11 : decode cX2_bearingOf 11 = .ok (.iconst 2, 1) := by decide +kernel
theorem dX2_bearingOf_12 : decode cX2_bearingOf 12 = .ok (.iadd, 1) := by decide +kernel
theorem dX2_bearingOf_13 : decode cX2_bearingOf 13 = .ok (.goto 18, 3) := by decide +kernel
theorem dX2_bearingOf_16 : decode cX2_bearingOf 16 = .ok (.iconst 4, 1) := by decide +kernel
theorem dX2_bearingOf_17 : decode cX2_bearingOf 17 = .ok (.aload_n 0, 1) := by decide +kernel
theorem dX2_bearingOf_18 : decode cX2_bearingOf 18 = .ok (.getfield 57, 3) := by decide +kernel
theorem dX2_bearingOf_21 : decode cX2_bearingOf 21 = .ok (.imul, 1) := by decide +kernel
theorem dX2_bearingOf_22 : decode cX2_bearingOf 22 = .ok (.iconst 2, 1) := by decide +kernel
theorem dX2_bearingOf_23 : decode cX2_bearingOf 23 = .ok (.iload_n 1, 1) := by decide +kernel
theorem dX2_bearingOf_24 : decode cX2_bearingOf 24 = .ok (.aload_n 0, 1) := by decide +kernel
theorem dX2_bearingOf_25 : decode cX2_bearingOf 25 = .ok (.getfield 57, 3) := by decide +kernel
theorem dX2_bearingOf_28 : decode cX2_bearingOf 28 = .ok (.isub, 1) := by decide +kernel
theorem dX2_bearingOf_29 : decode cX2_bearingOf 29 = .ok (.imul, 1) := by decide +kernel
theorem dX2_bearingOf_30 : decode cX2_bearingOf 30 = .ok (.iadd, 1) := by decide +kernel
theorem dX2_bearingOf_31 : decode cX2_bearingOf 31 = .ok (.istore_n 2, 1) := by decide +kernel
theorem dX2_bearingOf_32 : decode cX2_bearingOf 32 = .ok (.aload_n 0, 1) := by decide +kernel
theorem dX2_bearingOf_33 : decode cX2_bearingOf 33 = .ok (.aload_n 0, 1) := by decide +kernel
theorem dX2_bearingOf_34 : decode cX2_bearingOf 34 = .ok (.getfield 19, 3) := by decide +kernel
theorem dX2_bearingOf_37 : decode cX2_bearingOf 37 = .ok (.iconst 4, 1) := by decide +kernel
theorem dX2_bearingOf_38 : decode cX2_bearingOf 38 = .ok (.iaload, 1) := by decide +kernel
theorem dX2_bearingOf_39 : decode cX2_bearingOf 39 = .ok (.iload_n 2, 1) := by decide +kernel
theorem dX2_bearingOf_40 : decode cX2_bearingOf 40 = .ok (.iadd, 1) := by decide +kernel
theorem dX2_bearingOf_41 : decode cX2_bearingOf 41 = .ok (.invokevirtual 66, 3) := by decide +kernel
theorem dX2_bearingOf_44 : decode cX2_bearingOf 44 = .ok (.ireturn, 1) := by decide +kernel
def B_X2_bearingOf_31  (s0 : Int32) (V : sv_V) : Option (Int32 × sv_V) := (F_X2_s2 ((V.1 4 (4 : Int32).toNatClampNeg) + s0) V).bind (fun (x3, V1) => some (x3, V1))
set_option maxRecDepth 20000 in
theorem tB_X2_bearingOf_31 {g : sx_G} (hG : sx_Go g) {P : Option Value → sv_V → Prop} {r : Int32} {Vr : sv_V} (hP : P (some (.int r)) Vr)   {s0 : Int32} {V : sv_V} (h : B_X2_bearingOf_31  s0 V = some (r, Vr)) : sv_N g qX2_bearingOf 1 31 [(0, .ref 2)] [.int s0] V P := by
  unfold B_X2_bearingOf_31 at h
  refine sx_istore_n (pc := 31) (lo' := [(2, .int s0), (0, .ref 2)]) dX2_bearingOf_31 (by decide) rfl ?_
  refine sx_aload_n (pc := 32) dX2_bearingOf_32 sx_m1 ?_
  refine sx_aload_n (pc := 33) dX2_bearingOf_33 sx_m1 ?_
  refine sv_getA (pc := 34) hG dX2_bearingOf_34 f_2_19 lay_2 rfl cr_2_3 ?_
  refine sx_iconst (pc := 37) (v := 4) dX2_bearingOf_37 (by decide) ?_
  refine sv_iald (pc := 38) hG dX2_bearingOf_38 lay_4 (by decide) ?_
  refine sx_iload_n (pc := 39) dX2_bearingOf_39 sx_m0 ?_
  refine sx_iadd (pc := 40) dX2_bearingOf_40 ?_
  obtain ⟨⟨x3, V1⟩, g2, h⟩ := sx_bnd h
  refine sv_cV (pc := 41) (y := qX2_s2) (o := (some (.int x3))) (as := [.int ((V.1 4 (4 : Int32).toNatClampNeg) + s0)]) (V1 := V1) hG dX2_bearingOf_41 l_X2_66 y0X2_s2 yvX2_s2 rfl (Nat.le_of_ble_eq_true rfl) lay_2 kr_2 (by decide) (Nat.le_of_ble_eq_true rfl) rfl rfl rfl (t_X2_s2 hG ⟨rfl, rfl⟩ g2) ?_
  exact sv_iret (pc := 44) dX2_bearingOf_44 rfl h hP
def F_X2_bearingOf (l1 : Int32) (V : sv_V) : Option (Int32 × sv_V) := if (V.1 2 8) ≤ l1 then (B_X2_bearingOf_31  (((4 : Int32) * (V.1 2 8)) + ((2 : Int32) * (l1 - (V.1 2 8)))) V) else (B_X2_bearingOf_31  (((4 : Int32) * l1) + (2 : Int32)) V)
set_option maxRecDepth 20000 in
theorem t_X2_bearingOf {g : sx_G} (hG : sx_Go g) {P : Option Value → sv_V → Prop} {r : Int32} {Vr : sv_V} (hP : P (some (.int r)) Vr) {l1 : Int32} {V : sv_V} (h : F_X2_bearingOf l1 V = some (r, Vr)) : sv_N g qX2_bearingOf 1 0 [(0, .ref 2), (1, .int l1)] [] V P := by
  unfold F_X2_bearingOf at h
  refine sx_iload_n (pc := 0) dX2_bearingOf_0 sx_m1 ?_
  refine sx_aload_n (pc := 1) dX2_bearingOf_1 sx_m0 ?_
  refine sv_getI (pc := 2) hG dX2_bearingOf_2 f_2_57 lay_2 rfl ?_
  refine sx_icmp_ge (pc := 5) (tgt := 16) dX2_bearingOf_5 (by decide) (fun c4 => ?_) (fun c4 => ?_)
  · have h := sx_pos c4 h
    refine sx_iconst (pc := 16) (v := 4) dX2_bearingOf_16 (by decide) ?_
    refine sx_aload_n (pc := 17) dX2_bearingOf_17 sx_m0 ?_
    refine sv_getI (pc := 18) hG dX2_bearingOf_18 f_2_57 lay_2 rfl ?_
    refine sx_imul (pc := 21) dX2_bearingOf_21 ?_
    refine sx_iconst (pc := 22) (v := 2) dX2_bearingOf_22 (by decide) ?_
    refine sx_iload_n (pc := 23) dX2_bearingOf_23 sx_m1 ?_
    refine sx_aload_n (pc := 24) dX2_bearingOf_24 sx_m0 ?_
    refine sv_getI (pc := 25) hG dX2_bearingOf_25 f_2_57 lay_2 rfl ?_
    refine sx_isub (pc := 28) dX2_bearingOf_28 ?_
    refine sx_imul (pc := 29) dX2_bearingOf_29 ?_
    refine sx_iadd (pc := 30) dX2_bearingOf_30 ?_
    refine sx_wk (sx_s1 sx_m0 sx_s0) ?_
    exact tB_X2_bearingOf_31 hG hP  h
  · have h := sx_neg c4 h
    refine sx_iconst (pc := 8) (v := 4) dX2_bearingOf_8 (by decide) ?_
    refine sx_iload_n (pc := 9) dX2_bearingOf_9 sx_m1 ?_
    refine sx_imul (pc := 10) dX2_bearingOf_10 ?_
    refine sx_iconst (pc := 11) (v := 2) dX2_bearingOf_11 (by decide) ?_
    refine sx_iadd (pc := 12) dX2_bearingOf_12 ?_
    refine sx_goto (pc := 13) (tgt := 31) dX2_bearingOf_13 (by decide) ?_
    refine sx_wk (sx_s1 sx_m0 sx_s0) ?_
    exact tB_X2_bearingOf_31 hG hP  h
theorem dX2_kernOf_0 : decode cX2_kernOf 0 = .ok (.iconst 0, 1) := by decide +kernel
theorem dX2_kernOf_1 : decode cX2_kernOf 1 = .ok (.istore_n 3, 1) := by decide +kernel
theorem dX2_kernOf_2 : decode cX2_kernOf 2 = .ok (.iload_n 3, 1) := by decide +kernel
theorem dX2_kernOf_3 : decode cX2_kernOf 3 = .ok (.aload_n 0, 1) := by decide +kernel
theorem dX2_kernOf_4 : decode cX2_kernOf 4 = .ok (.getfield 69, 3) := by decide +kernel
theorem dX2_kernOf_7 : decode cX2_kernOf 7 = .ok (.if_icmp .ge 57, 3) := by decide +kernel
theorem dX2_kernOf_10 : decode cX2_kernOf 10 = .ok (.aload_n 0, 1) := by decide +kernel
theorem dX2_kernOf_11 : decode cX2_kernOf 11 = .ok (.getfield 19, 3) := by decide +kernel
theorem dX2_kernOf_14 : decode cX2_kernOf 14 = .ok (.bipush 7, 2) := by decide +kernel
theorem dX2_kernOf_16 : decode cX2_kernOf 16 = .ok (.iaload, 1) := by decide +kernel
theorem dX2_kernOf_17 : decode cX2_kernOf 17 = .ok (.bipush 18, 2) := by decide +kernel
theorem dX2_kernOf_19 : decode cX2_kernOf 19 = .ok (.iadd, 1) := by decide +kernel
theorem dX2_kernOf_20 : decode cX2_kernOf 20 = .ok (.bipush 6, 2) := by decide +kernel
theorem dX2_kernOf_22 : decode cX2_kernOf 22 = .ok (.iload_n 3, 1) := by decide +kernel
theorem dX2_kernOf_23 : decode cX2_kernOf 23 = .ok (.imul, 1) := by decide +kernel
theorem dX2_kernOf_24 : decode cX2_kernOf 24 = .ok (.iadd, 1) := by decide +kernel
theorem dX2_kernOf_25 : decode cX2_kernOf 25 = .ok (.istore 4, 2) := by decide +kernel
theorem dX2_kernOf_27 : decode cX2_kernOf 27 = .ok (.aload_n 0, 1) := by decide +kernel
theorem dX2_kernOf_28 : decode cX2_kernOf 28 = .ok (.iload 4, 2) := by decide +kernel
theorem dX2_kernOf_30 : decode cX2_kernOf 30 = .ok (.invokevirtual 50, 3) := by decide +kernel
theorem dX2_kernOf_33 : decode cX2_kernOf 33 = .ok (.iload_n 1, 1) := by decide +kernel
theorem dX2_kernOf_34 : decode cX2_kernOf 34 = .ok (.if_icmp .ne 24, 3) := by decide +kernel
theorem dX2_kernOf_37 : decode cX2_kernOf 37 = .ok (.aload_n 0, 1) := by decide +kernel
theorem dX2_kernOf_38 : decode cX2_kernOf 38 = .ok (.iload 4, 2) := by decide +kernel
theorem dX2_kernOf_40 : decode cX2_kernOf 40 = .ok (.iconst 2, 1) := by decide +kernel
theorem dX2_kernOf_41 : decode cX2_kernOf 41 = .ok (.iadd, 1) := by decide +kernel
theorem dX2_kernOf_42 : decode cX2_kernOf 42 = .ok (.invokevirtual 50, 3) := by decide +kernel
theorem dX2_kernOf_45 : decode cX2_kernOf 45 = .ok (.iload_n 2, 1) := by decide +kernel
theorem dX2_kernOf_46 : decode cX2_kernOf 46 = .ok (.if_icmp .ne 12, 3) := by decide +kernel
theorem dX2_kernOf_49 : decode cX2_kernOf 49 = .ok (.aload_n 0, 1) := by decide +kernel
theorem dX2_kernOf_50 : decode cX2_kernOf 50 = .ok (.iload 4, 2) := by decide +kernel
theorem dX2_kernOf_52 : decode cX2_kernOf 52 = .ok (.iconst 4, 1) := by decide +kernel
theorem dX2_kernOf_53 : decode cX2_kernOf 53 = .ok (.iadd, 1) := by decide +kernel
theorem dX2_kernOf_54 : decode cX2_kernOf 54 = .ok (.invokevirtual 66, 3) := by decide +kernel
theorem dX2_kernOf_57 : decode cX2_kernOf 57 = .ok (.ireturn, 1) := by decide +kernel
theorem dX2_kernOf_58 : decode cX2_kernOf 58 = .ok (.iinc 3 1, 3) := by decide +kernel
theorem dX2_kernOf_61 : decode cX2_kernOf 61 = .ok (.goto (-59), 3) := by decide +kernel
theorem dX2_kernOf_64 : decode cX2_kernOf 64 = .ok (.iconst 0, 1) := by decide +kernel
theorem dX2_kernOf_65 : decode cX2_kernOf 65 = .ok (.ireturn, 1) := by decide +kernel
def B_X2_kernOf_58 (N : Nat) (k2 : Int32 → Int32 → Int32 → sv_V → Option (Int32 × sv_V)) (l1 : Int32) (l2 : Int32) (l3 : Int32) (V : sv_V) : Option (Int32 × sv_V) := sx_let (l3 + 1) (fun x1 => k2 l1 l2 x1 V)
set_option maxRecDepth 20000 in
theorem tB_X2_kernOf_58 {g : sx_G} (hG : sx_Go g) {P : Option Value → sv_V → Prop} {r : Int32} {Vr : sv_V} (hP : P (some (.int r)) Vr) {N : Nat} {k2 : Int32 → Int32 → Int32 → sv_V → Option (Int32 × sv_V)} (hk2 : ∀ (l1 : Int32) (l2 : Int32) (l3 : Int32) (V : sv_V), k2 l1 l2 l3 V = some (r, Vr) → sv_N g qX2_kernOf 1 2 [(0, .ref 2), (1, .int l1), (2, .int l2), (3, .int l3)] [] V P) {l1 : Int32} {l2 : Int32} {l3 : Int32} {V : sv_V} (h : B_X2_kernOf_58 N k2 l1 l2 l3 V = some (r, Vr)) : sv_N g qX2_kernOf 1 58 [(0, .ref 2), (1, .int l1), (2, .int l2), (3, .int l3)] [] V P := by
  unfold B_X2_kernOf_58 at h
  obtain ⟨x1, hx1⟩ : ∃ z : Int32, z = l3 + 1 := ⟨_, rfl⟩
  have h := sx_letE hx1 h
  refine sx_iinc (pc := 58) (v := x1) (lo' := [(3, .int x1), (0, .ref 2), (1, .int l1), (2, .int l2)]) dX2_kernOf_58 sx_m3 (by rw [hx1]; rfl) (by decide) rfl ?_
  refine sx_goto (pc := 61) (tgt := 2) dX2_kernOf_61 (by decide) ?_
  refine sx_wk (sx_s1 sx_m1 (sx_s1 sx_m2 (sx_s1 sx_m3 (sx_s1 sx_m0 sx_s0)))) ?_
  exact hk2 _ _ _ _ h
def B_X2_kernOf_2 (N : Nat) (k2 : Int32 → Int32 → Int32 → sv_V → Option (Int32 × sv_V)) (l1 : Int32) (l2 : Int32) (l3 : Int32) (V : sv_V) : Option (Int32 × sv_V) := if (V.1 2 15) ≤ l3 then (some ((0 : Int32), V)) else (sx_let (((V.1 4 (7 : Int32).toNatClampNeg) + (18 : Int32)) + ((6 : Int32) * l3)) (fun x3 => (F_X2_u2 x3 V).bind (fun (x6, V4) => if x6 = l1 then ((F_X2_u2 (x3 + (2 : Int32)) V4).bind (fun (x10, V8) => if x10 = l2 then ((F_X2_s2 (x3 + (4 : Int32)) V8).bind (fun (x14, V12) => some (x14, V12))) else (B_X2_kernOf_58 N k2 l1 l2 l3 V8))) else (B_X2_kernOf_58 N k2 l1 l2 l3 V4))))
set_option maxRecDepth 20000 in
theorem tB_X2_kernOf_2 {g : sx_G} (hG : sx_Go g) {P : Option Value → sv_V → Prop} {r : Int32} {Vr : sv_V} (hP : P (some (.int r)) Vr) {N : Nat} {k2 : Int32 → Int32 → Int32 → sv_V → Option (Int32 × sv_V)} (hk2 : ∀ (l1 : Int32) (l2 : Int32) (l3 : Int32) (V : sv_V), k2 l1 l2 l3 V = some (r, Vr) → sv_N g qX2_kernOf 1 2 [(0, .ref 2), (1, .int l1), (2, .int l2), (3, .int l3)] [] V P) {l1 : Int32} {l2 : Int32} {l3 : Int32} {V : sv_V} (h : B_X2_kernOf_2 N k2 l1 l2 l3 V = some (r, Vr)) : sv_N g qX2_kernOf 1 2 [(0, .ref 2), (1, .int l1), (2, .int l2), (3, .int l3)] [] V P := by
  unfold B_X2_kernOf_2 at h
  refine sx_iload_n (pc := 2) dX2_kernOf_2 sx_m3 ?_
  refine sx_aload_n (pc := 3) dX2_kernOf_3 sx_m0 ?_
  refine sv_getI (pc := 4) hG dX2_kernOf_4 f_2_69 lay_2 rfl ?_
  refine sx_icmp_ge (pc := 7) (tgt := 64) dX2_kernOf_7 (by decide) (fun c2 => ?_) (fun c2 => ?_)
  · have h := sx_pos c2 h
    refine sx_iconst (pc := 64) (v := 0) dX2_kernOf_64 (by decide) ?_
    exact sv_iret (pc := 65) dX2_kernOf_65 rfl h hP
  · have h := sx_neg c2 h
    refine sx_aload_n (pc := 10) dX2_kernOf_10 sx_m0 ?_
    refine sv_getA (pc := 11) hG dX2_kernOf_11 f_2_19 lay_2 rfl cr_2_3 ?_
    refine sx_bipush (pc := 14) (v := 7) dX2_kernOf_14 (by decide) ?_
    refine sv_iald (pc := 16) hG dX2_kernOf_16 lay_4 (by decide) ?_
    refine sx_bipush (pc := 17) (v := 18) dX2_kernOf_17 (by decide) ?_
    refine sx_iadd (pc := 19) dX2_kernOf_19 ?_
    refine sx_bipush (pc := 20) (v := 6) dX2_kernOf_20 (by decide) ?_
    refine sx_iload_n (pc := 22) dX2_kernOf_22 sx_m3 ?_
    refine sx_imul (pc := 23) dX2_kernOf_23 ?_
    refine sx_iadd (pc := 24) dX2_kernOf_24 ?_
    refine sv_tI (fun x3 hx3 => ?_)
    have h := sx_letE hx3 h
    refine sx_istore (pc := 25) (lo' := [(4, .int x3), (0, .ref 2), (1, .int l1), (2, .int l2), (3, .int l3)]) dX2_kernOf_25 (by decide) rfl ?_
    refine sx_aload_n (pc := 27) dX2_kernOf_27 sx_m1 ?_
    refine sx_iload (pc := 28) dX2_kernOf_28 sx_m0 ?_
    obtain ⟨⟨x6, V4⟩, g5, h⟩ := sx_bnd h
    refine sv_cV (pc := 30) (y := qX2_u2) (o := (some (.int x6))) (as := [.int x3]) (V1 := V4) hG dX2_kernOf_30 l_X2_50 y0X2_u2 yvX2_u2 rfl (Nat.le_of_ble_eq_true rfl) lay_2 kr_2 (by decide) (Nat.le_of_ble_eq_true rfl) rfl rfl rfl (t_X2_u2 hG ⟨rfl, rfl⟩ g5) ?_
    refine sx_iload_n (pc := 33) dX2_kernOf_33 sx_m2 ?_
    refine sx_icmp_ne (pc := 34) (tgt := 58) dX2_kernOf_34 (by decide) (fun c7 => ?_) (fun c7 => ?_)
    · have h := sx_neg c7 h
      refine sx_wk (sx_s1 sx_m1 (sx_s1 sx_m2 (sx_s1 sx_m3 (sx_s1 sx_m4 sx_s0)))) ?_
      exact tB_X2_kernOf_58 hG hP hk2 h
    · have h := sx_pos c7 h
      refine sx_aload_n (pc := 37) dX2_kernOf_37 sx_m1 ?_
      refine sx_iload (pc := 38) dX2_kernOf_38 sx_m0 ?_
      refine sx_iconst (pc := 40) (v := 2) dX2_kernOf_40 (by decide) ?_
      refine sx_iadd (pc := 41) dX2_kernOf_41 ?_
      obtain ⟨⟨x10, V8⟩, g9, h⟩ := sx_bnd h
      refine sv_cV (pc := 42) (y := qX2_u2) (o := (some (.int x10))) (as := [.int (x3 + (2 : Int32))]) (V1 := V8) hG dX2_kernOf_42 l_X2_50 y0X2_u2 yvX2_u2 rfl (Nat.le_of_ble_eq_true rfl) lay_2 kr_2 (by decide) (Nat.le_of_ble_eq_true rfl) rfl rfl rfl (t_X2_u2 hG ⟨rfl, rfl⟩ g9) ?_
      refine sx_iload_n (pc := 45) dX2_kernOf_45 sx_m3 ?_
      refine sx_icmp_ne (pc := 46) (tgt := 58) dX2_kernOf_46 (by decide) (fun c11 => ?_) (fun c11 => ?_)
      · have h := sx_neg c11 h
        refine sx_wk (sx_s1 sx_m1 (sx_s1 sx_m2 (sx_s1 sx_m3 (sx_s1 sx_m4 sx_s0)))) ?_
        exact tB_X2_kernOf_58 hG hP hk2 h
      · have h := sx_pos c11 h
        refine sx_aload_n (pc := 49) dX2_kernOf_49 sx_m1 ?_
        refine sx_iload (pc := 50) dX2_kernOf_50 sx_m0 ?_
        refine sx_iconst (pc := 52) (v := 4) dX2_kernOf_52 (by decide) ?_
        refine sx_iadd (pc := 53) dX2_kernOf_53 ?_
        obtain ⟨⟨x14, V12⟩, g13, h⟩ := sx_bnd h
        refine sv_cV (pc := 54) (y := qX2_s2) (o := (some (.int x14))) (as := [.int (x3 + (4 : Int32))]) (V1 := V12) hG dX2_kernOf_54 l_X2_66 y0X2_s2 yvX2_s2 rfl (Nat.le_of_ble_eq_true rfl) lay_2 kr_2 (by decide) (Nat.le_of_ble_eq_true rfl) rfl rfl rfl (t_X2_s2 hG ⟨rfl, rfl⟩ g13) ?_
        exact sv_iret (pc := 57) dX2_kernOf_57 rfl h hP
theorem tL_X2_kernOf_2 {g : sx_G} (hG : sx_Go g) {P : Option Value → sv_V → Prop} {r : Int32} {Vr : sv_V} (hP : P (some (.int r)) Vr) {N : Nat}   : ∀ (n : Nat) (l1 : Int32) (l2 : Int32) (l3 : Int32) (V : sv_V), sx_lp4 (B_X2_kernOf_2 N ) n l1 l2 l3 V = some (r, Vr) → sv_N g qX2_kernOf 1 2 [(0, .ref 2), (1, .int l1), (2, .int l2), (3, .int l3)] [] V P :=
  sx_lp4_ind (fun k0 ih _ _ _ V h => tB_X2_kernOf_2 hG hP ih h)
def F_X2_kernOf (N : Nat) (l1 : Int32) (l2 : Int32) (V : sv_V) : Option (Int32 × sv_V) := sx_lp4 (B_X2_kernOf_2 N ) N l1 l2 (0 : Int32) V
set_option maxRecDepth 20000 in
theorem t_X2_kernOf {g : sx_G} (hG : sx_Go g) {P : Option Value → sv_V → Prop} {r : Int32} {Vr : sv_V} (hP : P (some (.int r)) Vr) {N : Nat} {l1 : Int32} {l2 : Int32} {V : sv_V} (h : F_X2_kernOf N l1 l2 V = some (r, Vr)) : sv_N g qX2_kernOf 1 0 [(0, .ref 2), (1, .int l1), (2, .int l2)] [] V P := by
  unfold F_X2_kernOf at h
  refine sx_iconst (pc := 0) (v := 0) dX2_kernOf_0 (by decide) ?_
  refine sx_istore_n (pc := 1) (lo' := [(3, .int (0 : Int32)), (0, .ref 2), (1, .int l1), (2, .int l2)]) dX2_kernOf_1 (by decide) rfl ?_
  refine sx_wk (sx_s1 sx_m1 (sx_s1 sx_m2 (sx_s1 sx_m3 (sx_s1 sx_m0 sx_s0)))) ?_
  exact tL_X2_kernOf_2 hG hP  N _ _ _ _ h
theorem dX2_findInGroups_0 : decode cX2_findInGroups 0 = .ok (.iconst 0, 1) := by decide +kernel
theorem dX2_findInGroups_1 : decode cX2_findInGroups 1 = .ok (.istore_n 2, 1) := by decide +kernel
theorem dX2_findInGroups_2 : decode cX2_findInGroups 2 = .ok (.iload_n 2, 1) := by decide +kernel
theorem dX2_findInGroups_3 : decode cX2_findInGroups 3 = .ok (.aload_n 0, 1) := by decide +kernel
theorem dX2_findInGroups_4 : decode cX2_findInGroups 4 = .ok (.getfield 88, 3) := by decide +kernel
theorem dX2_findInGroups_7 : decode cX2_findInGroups 7 = .ok (.if_icmp .ge 65, 3) := by decide +kernel
theorem dX2_findInGroups_10 : decode cX2_findInGroups 10 = .ok (.aload_n 0, 1) := by decide +kernel
theorem dX2_findInGroups_11 : decode cX2_findInGroups 11 = .ok (.getfield 82, 3) := by decide +kernel
theorem dX2_findInGroups_14 : decode cX2_findInGroups 14 = .ok (.bipush 16, 2) := by decide +kernel
theorem dX2_findInGroups_16 : decode cX2_findInGroups 16 = .ok (.iadd, 1) := by decide +kernel
theorem dX2_findInGroups_17 : decode cX2_findInGroups 17 = .ok (.bipush 12, 2) := by decide +kernel
theorem dX2_findInGroups_19 : decode cX2_findInGroups 19 = .ok (.iload_n 2, 1) := by decide +kernel
theorem dX2_findInGroups_20 : decode cX2_findInGroups 20 = .ok (.imul, 1) := by decide +kernel
theorem dX2_findInGroups_21 : decode cX2_findInGroups 21 = .ok (.iadd, 1) := by decide +kernel
theorem dX2_findInGroups_22 : decode cX2_findInGroups 22 = .ok (.istore_n 3, 1) := by decide +kernel
theorem dX2_findInGroups_23 : decode cX2_findInGroups 23 = .ok (.aload_n 0, 1) := by decide +kernel
theorem dX2_findInGroups_24 : decode cX2_findInGroups 24 = .ok (.iload_n 3, 1) := by decide +kernel
theorem dX2_findInGroups_25 : decode cX2_findInGroups 25 = .ok (.invokevirtual 91, 3) := by decide +kernel
theorem dX2_findInGroups_28 : decode cX2_findInGroups 28 = .ok (.lstore 4, 2) := by decide +kernel
theorem dX2_findInGroups_30 : decode cX2_findInGroups 30 = .ok (.lload 4, 2) := by decide +kernel
theorem dX2_findInGroups_32 : decode cX2_findInGroups 32 = .ok (.iload_n 1, 1) := by decide +kernel
theorem dX2_findInGroups_33 : decode cX2_findInGroups 33 = .ok (.i2l, 1) := by decide +kernel
theorem dX2_findInGroups_34 : decode cX2_findInGroups 34 = .ok (.lcmp, 1) := by decide +kernel
theorem dX2_findInGroups_35 : decode cX2_findInGroups 35 = .ok (.ifCond .gt 31, 3) := by decide +kernel
theorem dX2_findInGroups_38 : decode cX2_findInGroups 38 = .ok (.iload_n 1, 1) := by decide +kernel
theorem dX2_findInGroups_39 : decode cX2_findInGroups 39 = .ok (.i2l, 1) := by decide +kernel
theorem dX2_findInGroups_40 : decode cX2_findInGroups 40 = .ok (.aload_n 0, 1) := by decide +kernel
theorem dX2_findInGroups_41 : decode cX2_findInGroups 41 = .ok (.iload_n 3, 1) := by decide +kernel
theorem dX2_findInGroups_42 : decode cX2_findInGroups 42 = .ok (.iconst 4, 1) := by decide +kernel
theorem dX2_findInGroups_43 : decode cX2_findInGroups 43 = .ok (.iadd, 1) := by decide +kernel
theorem dX2_findInGroups_44 : decode cX2_findInGroups 44 = .ok (.invokevirtual 91, 3) := by decide +kernel
theorem dX2_findInGroups_47 : decode cX2_findInGroups 47 = .ok (.lcmp, 1) := by decide +kernel
theorem dX2_findInGroups_48 : decode cX2_findInGroups 48 = .ok (.ifCond .gt 18, 3) := by decide +kernel
theorem dX2_findInGroups_51 : decode cX2_findInGroups 51 = .ok (.aload_n 0, 1) := by decide +kernel
theorem dX2_findInGroups_52 : decode cX2_findInGroups 52 = .ok (.iload_n 3, 1) := by decide +kernel
theorem dX2_findInGroups_53 : decode cX2_findInGroups 53 = .ok (.bipush 8, 2) := by decide +kernel
theorem dX2_findInGroups_55 : decode cX2_findInGroups 55 = .ok (.iadd, 1) := by decide +kernel
theorem dX2_findInGroups_56 : decode cX2_findInGroups 56 = .ok (.invokevirtual 91, 3) := by decide +kernel
theorem dX2_findInGroups_59 : decode cX2_findInGroups 59 = .ok (.iload_n 1, 1) := by decide +kernel
theorem dX2_findInGroups_60 : decode cX2_findInGroups 60 = .ok (.i2l, 1) := by decide +kernel
theorem dX2_findInGroups_61 : decode cX2_findInGroups 61 = .ok (.ladd, 1) := by decide +kernel
theorem dX2_findInGroups_62 : decode cX2_findInGroups 62 = .ok (.lload 4, 2) := by decide +kernel
theorem dX2_findInGroups_64 : decode cX2_findInGroups 64 = .ok (.lsub, 1) := by decide +kernel
theorem dX2_findInGroups_65 : decode cX2_findInGroups 65 = .ok (.lreturn, 1) := by decide +kernel
theorem dX2_findInGroups_66 : decode cX2_findInGroups 66 = .ok (.iinc 2 1, 3) := by decide +kernel
theorem dX2_findInGroups_69 : decode cX2_findInGroups 69 = .ok (.goto (-67), 3) := by decide +kernel
theorem dX2_findInGroups_72 : decode cX2_findInGroups 72 = .ok (.lconst 0, 1) := by decide +kernel
theorem dX2_findInGroups_73 : decode cX2_findInGroups 73 = .ok (.lreturn, 1) := by decide +kernel
def B_X2_findInGroups_66 (N : Nat) (k2 : Int32 → Int32 → sv_V → Option (Int64 × sv_V)) (l1 : Int32) (l2 : Int32) (V : sv_V) : Option (Int64 × sv_V) := sx_let (l2 + 1) (fun x1 => k2 l1 x1 V)
set_option maxRecDepth 20000 in
theorem tB_X2_findInGroups_66 {g : sx_G} (hG : sx_Go g) {P : Option Value → sv_V → Prop} {r : Int64} {Vr : sv_V} (hP : P (some (.long r)) Vr) {N : Nat} {k2 : Int32 → Int32 → sv_V → Option (Int64 × sv_V)} (hk2 : ∀ (l1 : Int32) (l2 : Int32) (V : sv_V), k2 l1 l2 V = some (r, Vr) → sv_N g qX2_findInGroups 2 2 [(0, .ref 2), (1, .int l1), (2, .int l2)] [] V P) {l1 : Int32} {l2 : Int32} {V : sv_V} (h : B_X2_findInGroups_66 N k2 l1 l2 V = some (r, Vr)) : sv_N g qX2_findInGroups 2 66 [(0, .ref 2), (1, .int l1), (2, .int l2)] [] V P := by
  unfold B_X2_findInGroups_66 at h
  obtain ⟨x1, hx1⟩ : ∃ z : Int32, z = l2 + 1 := ⟨_, rfl⟩
  have h := sx_letE hx1 h
  refine sx_iinc (pc := 66) (v := x1) (lo' := [(2, .int x1), (0, .ref 2), (1, .int l1)]) dX2_findInGroups_66 sx_m2 (by rw [hx1]; rfl) (by decide) rfl ?_
  refine sx_goto (pc := 69) (tgt := 2) dX2_findInGroups_69 (by decide) ?_
  refine sx_wk (sx_s1 sx_m1 (sx_s1 sx_m2 (sx_s1 sx_m0 sx_s0))) ?_
  exact hk2 _ _ _ h
def B_X2_findInGroups_2 (N : Nat) (k2 : Int32 → Int32 → sv_V → Option (Int64 × sv_V)) (l1 : Int32) (l2 : Int32) (V : sv_V) : Option (Int64 × sv_V) := if (V.1 2 14) ≤ l2 then (some ((0 : Int64), V)) else (sx_let (((V.1 2 12) + (16 : Int32)) + ((12 : Int32) * l2)) (fun x3 => (F_X2_u4 x3 V).bind (fun (x6, V4) => if 0 < (lg_cmp x6 l1.toInt64) then (B_X2_findInGroups_66 N k2 l1 l2 V4) else ((F_X2_u4 (x3 + (4 : Int32)) V4).bind (fun (x10, V8) => if 0 < (lg_cmp l1.toInt64 x10) then (B_X2_findInGroups_66 N k2 l1 l2 V8) else ((F_X2_u4 (x3 + (8 : Int32)) V8).bind (fun (x14, V12) => some ((x14 + l1.toInt64) - x6, V12))))))))
set_option maxRecDepth 20000 in
theorem tB_X2_findInGroups_2 {g : sx_G} (hG : sx_Go g) {P : Option Value → sv_V → Prop} {r : Int64} {Vr : sv_V} (hP : P (some (.long r)) Vr) {N : Nat} {k2 : Int32 → Int32 → sv_V → Option (Int64 × sv_V)} (hk2 : ∀ (l1 : Int32) (l2 : Int32) (V : sv_V), k2 l1 l2 V = some (r, Vr) → sv_N g qX2_findInGroups 2 2 [(0, .ref 2), (1, .int l1), (2, .int l2)] [] V P) {l1 : Int32} {l2 : Int32} {V : sv_V} (h : B_X2_findInGroups_2 N k2 l1 l2 V = some (r, Vr)) : sv_N g qX2_findInGroups 2 2 [(0, .ref 2), (1, .int l1), (2, .int l2)] [] V P := by
  unfold B_X2_findInGroups_2 at h
  refine sx_iload_n (pc := 2) dX2_findInGroups_2 sx_m2 ?_
  refine sx_aload_n (pc := 3) dX2_findInGroups_3 sx_m0 ?_
  refine sv_getI (pc := 4) hG dX2_findInGroups_4 f_2_88 lay_2 rfl ?_
  refine sx_icmp_ge (pc := 7) (tgt := 72) dX2_findInGroups_7 (by decide) (fun c2 => ?_) (fun c2 => ?_)
  · have h := sx_pos c2 h
    refine sx_lconst (pc := 72) (v := 0) dX2_findInGroups_72 rfl ?_
    exact sv_lret (pc := 73) dX2_findInGroups_73 rfl h hP
  · have h := sx_neg c2 h
    refine sx_aload_n (pc := 10) dX2_findInGroups_10 sx_m0 ?_
    refine sv_getI (pc := 11) hG dX2_findInGroups_11 f_2_82 lay_2 rfl ?_
    refine sx_bipush (pc := 14) (v := 16) dX2_findInGroups_14 (by decide) ?_
    refine sx_iadd (pc := 16) dX2_findInGroups_16 ?_
    refine sx_bipush (pc := 17) (v := 12) dX2_findInGroups_17 (by decide) ?_
    refine sx_iload_n (pc := 19) dX2_findInGroups_19 sx_m2 ?_
    refine sx_imul (pc := 20) dX2_findInGroups_20 ?_
    refine sx_iadd (pc := 21) dX2_findInGroups_21 ?_
    refine sv_tI (fun x3 hx3 => ?_)
    have h := sx_letE hx3 h
    refine sx_istore_n (pc := 22) (lo' := [(3, .int x3), (0, .ref 2), (1, .int l1), (2, .int l2)]) dX2_findInGroups_22 (by decide) rfl ?_
    refine sx_aload_n (pc := 23) dX2_findInGroups_23 sx_m1 ?_
    refine sx_iload_n (pc := 24) dX2_findInGroups_24 sx_m0 ?_
    obtain ⟨⟨x6, V4⟩, g5, h⟩ := sx_bnd h
    refine sv_cV (pc := 25) (y := qX2_u4) (o := (some (.long x6))) (as := [.int x3]) (V1 := V4) hG dX2_findInGroups_25 l_X2_91 y0X2_u4 yvX2_u4 rfl (Nat.le_of_ble_eq_true rfl) lay_2 kr_2 (by decide) (Nat.le_of_ble_eq_true rfl) rfl rfl rfl (t_X2_u4 hG ⟨rfl, rfl⟩ g5) ?_
    refine sx_lstore (pc := 28) (lo' := [(4, .long x6), (3, .int x3), (0, .ref 2), (1, .int l1), (2, .int l2)]) dX2_findInGroups_28 (by decide) rfl ?_
    refine sx_lload (pc := 30) dX2_findInGroups_30 sx_m0 ?_
    refine sx_iload_n (pc := 32) dX2_findInGroups_32 sx_m3 ?_
    refine sx_i2l (pc := 33) dX2_findInGroups_33 ?_
    refine sx_lcmp (pc := 34) dX2_findInGroups_34 ?_
    refine sx_if_gt (pc := 35) (tgt := 66) dX2_findInGroups_35 (by decide) (fun c7 => ?_) (fun c7 => ?_)
    · have h := sx_pos c7 h
      refine sx_wk (sx_s1 sx_m2 (sx_s1 sx_m3 (sx_s1 sx_m4 sx_s0))) ?_
      exact tB_X2_findInGroups_66 hG hP hk2 h
    · have h := sx_neg c7 h
      refine sx_iload_n (pc := 38) dX2_findInGroups_38 sx_m3 ?_
      refine sx_i2l (pc := 39) dX2_findInGroups_39 ?_
      refine sx_aload_n (pc := 40) dX2_findInGroups_40 sx_m2 ?_
      refine sx_iload_n (pc := 41) dX2_findInGroups_41 sx_m1 ?_
      refine sx_iconst (pc := 42) (v := 4) dX2_findInGroups_42 (by decide) ?_
      refine sx_iadd (pc := 43) dX2_findInGroups_43 ?_
      obtain ⟨⟨x10, V8⟩, g9, h⟩ := sx_bnd h
      refine sv_cV (pc := 44) (y := qX2_u4) (o := (some (.long x10))) (as := [.int (x3 + (4 : Int32))]) (V1 := V8) hG dX2_findInGroups_44 l_X2_91 y0X2_u4 yvX2_u4 rfl (Nat.le_of_ble_eq_true rfl) lay_2 kr_2 (by decide) (Nat.le_of_ble_eq_true rfl) rfl rfl rfl (t_X2_u4 hG ⟨rfl, rfl⟩ g9) ?_
      refine sx_lcmp (pc := 47) dX2_findInGroups_47 ?_
      refine sx_if_gt (pc := 48) (tgt := 66) dX2_findInGroups_48 (by decide) (fun c11 => ?_) (fun c11 => ?_)
      · have h := sx_pos c11 h
        refine sx_wk (sx_s1 sx_m2 (sx_s1 sx_m3 (sx_s1 sx_m4 sx_s0))) ?_
        exact tB_X2_findInGroups_66 hG hP hk2 h
      · have h := sx_neg c11 h
        refine sx_aload_n (pc := 51) dX2_findInGroups_51 sx_m2 ?_
        refine sx_iload_n (pc := 52) dX2_findInGroups_52 sx_m1 ?_
        refine sx_bipush (pc := 53) (v := 8) dX2_findInGroups_53 (by decide) ?_
        refine sx_iadd (pc := 55) dX2_findInGroups_55 ?_
        obtain ⟨⟨x14, V12⟩, g13, h⟩ := sx_bnd h
        refine sv_cV (pc := 56) (y := qX2_u4) (o := (some (.long x14))) (as := [.int (x3 + (8 : Int32))]) (V1 := V12) hG dX2_findInGroups_56 l_X2_91 y0X2_u4 yvX2_u4 rfl (Nat.le_of_ble_eq_true rfl) lay_2 kr_2 (by decide) (Nat.le_of_ble_eq_true rfl) rfl rfl rfl (t_X2_u4 hG ⟨rfl, rfl⟩ g13) ?_
        refine sx_iload_n (pc := 59) dX2_findInGroups_59 sx_m3 ?_
        refine sx_i2l (pc := 60) dX2_findInGroups_60 ?_
        refine sx_ladd (pc := 61) dX2_findInGroups_61 ?_
        refine sx_lload (pc := 62) dX2_findInGroups_62 sx_m0 ?_
        refine sx_lsub (pc := 64) dX2_findInGroups_64 ?_
        exact sv_lret (pc := 65) dX2_findInGroups_65 rfl h hP
theorem tL_X2_findInGroups_2 {g : sx_G} (hG : sx_Go g) {P : Option Value → sv_V → Prop} {r : Int64} {Vr : sv_V} (hP : P (some (.long r)) Vr) {N : Nat}   : ∀ (n : Nat) (l1 : Int32) (l2 : Int32) (V : sv_V), sx_lp3 (B_X2_findInGroups_2 N ) n l1 l2 V = some (r, Vr) → sv_N g qX2_findInGroups 2 2 [(0, .ref 2), (1, .int l1), (2, .int l2)] [] V P :=
  sx_lp3_ind (fun k0 ih _ _ V h => tB_X2_findInGroups_2 hG hP ih h)
def F_X2_findInGroups (N : Nat) (l1 : Int32) (V : sv_V) : Option (Int64 × sv_V) := sx_lp3 (B_X2_findInGroups_2 N ) N l1 (0 : Int32) V
set_option maxRecDepth 20000 in
theorem t_X2_findInGroups {g : sx_G} (hG : sx_Go g) {P : Option Value → sv_V → Prop} {r : Int64} {Vr : sv_V} (hP : P (some (.long r)) Vr) {N : Nat} {l1 : Int32} {V : sv_V} (h : F_X2_findInGroups N l1 V = some (r, Vr)) : sv_N g qX2_findInGroups 2 0 [(0, .ref 2), (1, .int l1)] [] V P := by
  unfold F_X2_findInGroups at h
  refine sx_iconst (pc := 0) (v := 0) dX2_findInGroups_0 (by decide) ?_
  refine sx_istore_n (pc := 1) (lo' := [(2, .int (0 : Int32)), (0, .ref 2), (1, .int l1)]) dX2_findInGroups_1 (by decide) rfl ?_
  refine sx_wk (sx_s1 sx_m1 (sx_s1 sx_m2 (sx_s1 sx_m0 sx_s0))) ?_
  exact tL_X2_findInGroups_2 hG hP  N _ _ _ h
theorem dX2_findInSegment_0 : decode cX2_findInSegment 0 = .ok (.aload_n 0, 1) := by decide +kernel
theorem dX2_findInSegment_1 : decode cX2_findInSegment 1 = .ok (.getfield 82, 3) := by decide +kernel
theorem dX2_findInSegment_4 : decode cX2_findInSegment 4 = .ok (.bipush 16, 2) := by decide +kernel
theorem dX2_findInSegment_6 : decode cX2_findInSegment 6 = .ok (.iadd, 1) := by decide +kernel
theorem dX2_findInSegment_7 : decode cX2_findInSegment 7 = .ok (.iconst 2, 1) := by decide +kernel
theorem dX2_findInSegment_8 : decode cX2_findInSegment 8 = .ok (.aload_n 0, 1) := by decide +kernel
theorem dX2_findInSegment_9 : decode cX2_findInSegment 9 = .ok (.getfield 88, 3) := by decide +kernel
theorem dX2_findInSegment_12 : decode cX2_findInSegment 12 = .ok (.imul, 1) := by decide +kernel
theorem dX2_findInSegment_13 : decode cX2_findInSegment 13 = .ok (.iadd, 1) := by decide +kernel
theorem dX2_findInSegment_14 : decode cX2_findInSegment 14 = .ok (.iconst 2, 1) := by decide +kernel
theorem dX2_findInSegment_15 : decode cX2_findInSegment 15 = .ok (.iload_n 1, 1) := by decide +kernel
theorem dX2_findInSegment_16 : decode cX2_findInSegment 16 = .ok (.imul, 1) := by decide +kernel
theorem dX2_findInSegment_17 : decode cX2_findInSegment 17 = .ok (.iadd, 1) := by decide +kernel
theorem dX2_findInSegment_18 : decode cX2_findInSegment 18 = .ok (.istore_n 3, 1) := by decide +kernel
theorem dX2_findInSegment_19 : decode cX2_findInSegment 19 = .ok (.aload_n 0, 1) := by decide +kernel
theorem dX2_findInSegment_20 : decode cX2_findInSegment 20 = .ok (.iload_n 3, 1) := by decide +kernel
theorem dX2_findInSegment_21 : decode cX2_findInSegment 21 = .ok (.invokevirtual 50, 3) := by decide +kernel
theorem dX2_findInSegment_24 : decode cX2_findInSegment 24 = .ok (.istore 4, 2) := by decide +kernel
theorem dX2_findInSegment_26 : decode cX2_findInSegment 26 = .ok (.aload_n 0, 1) := by decide +kernel
theorem dX2_findInSegment_27 : decode cX2_findInSegment 27 = .ok (.iload_n 3, 1) := by decide +kernel
theorem dX2_findInSegment_28 : decode cX2_findInSegment 28 = .ok (.iconst 2, 1) := by decide +kernel
theorem dX2_findInSegment_29 : decode cX2_findInSegment 29 = .ok (.aload_n 0, 1) := by decide +kernel
theorem dX2_findInSegment_30 : decode cX2_findInSegment 30 = .ok (.getfield 88, 3) := by decide +kernel
theorem dX2_findInSegment_33 : decode cX2_findInSegment 33 = .ok (.imul, 1) := by decide +kernel
theorem dX2_findInSegment_34 : decode cX2_findInSegment 34 = .ok (.iadd, 1) := by decide +kernel
theorem dX2_findInSegment_35 : decode cX2_findInSegment 35 = .ok (.invokevirtual 50, 3) := by decide +kernel
theorem dX2_findInSegment_38 : decode cX2_findInSegment 38 = .ok (.istore 5, 2) := by decide +kernel
theorem dX2_findInSegment_40 : decode cX2_findInSegment 40 = .ok (.iload_n 3, 1) := by decide +kernel
theorem dX2_findInSegment_41 : decode cX2_findInSegment 41 = .ok (.iconst 4, 1) := by decide +kernel
theorem dX2_findInSegment_42 : decode cX2_findInSegment 42 = .ok (.aload_n 0, 1) := by decide +kernel
theorem dX2_findInSegment_43 : decode cX2_findInSegment 43 = .ok (.getfield 88, 3) := by decide +kernel
theorem dX2_findInSegment_46 : decode cX2_findInSegment 46 = .ok (.imul, 1) := by decide +kernel
theorem dX2_findInSegment_47 : decode cX2_findInSegment 47 = .ok (.iadd, 1) := by decide +kernel
theorem dX2_findInSegment_48 : decode cX2_findInSegment 48 = .ok (.istore 6, 2) := by decide +kernel
theorem dX2_findInSegment_50 : decode cX2_findInSegment 50 = .ok (.aload_n 0, 1) := by decide +kernel
theorem dX2_findInSegment_51 : decode cX2_findInSegment 51 = .ok (.iload 6, 2) := by decide +kernel
theorem dX2_findInSegment_53 : decode cX2_findInSegment 53 = .ok (.invokevirtual 50, 3) := by decide +kernel
theorem dX2_findInSegment_56 : decode cX2_findInSegment 56 = .ok (.istore 7, 2) := by decide +kernel
theorem dX2_findInSegment_58 : decode cX2_findInSegment 58 = .ok (.iload 4, 2) := by decide +kernel
theorem dX2_findInSegment_60 : decode cX2_findInSegment 60 = .ok (.iload_n 2, 1) := by decide +kernel
theorem dX2_findInSegment_61 : decode cX2_findInSegment 61 = .ok (.if_icmp .le 5, 3) := by decide +kernel
theorem dX2_findInSegment_64 : decode cX2_findInSegment 64 = .ok (.iconst 0, 1) := by decide +kernel
theorem dX2_findInSegment_65 : decode cX2_findInSegment 65 = .ok (.ireturn, 1) := by decide +kernel
theorem dX2_findInSegment_66 : decode cX2_findInSegment 66 = .ok (.iload 7, 2) := by decide +kernel
theorem dX2_findInSegment_68 : decode cX2_findInSegment 68 = .ok (.ifCond .ne 11, 3) := by decide +kernel
theorem dX2_findInSegment_71 : decode cX2_findInSegment 71 = .ok (.iload_n 2, 1) := by decide +kernel
theorem dX2_findInSegment_72 : decode cX2_findInSegment 72 = .ok (.iload 5, 2) := by decide +kernel
theorem dX2_findInSegment_74 : decode cX2_findInSegment 74 = .ok (.iadd, 1) := by decide +kernel
theorem dX2_findInSegment_75 : decode cX2_findInSegment 75 = .ok (.ldc 97, 2) := by decide +kernel
theorem dX2_findInSegment_77 : decode cX2_findInSegment 77 = .ok (.iand, 1) := by decide +kernel
theorem dX2_findInSegment_78 : decode cX2_findInSegment 78 = .ok (.ireturn, 1) := by decide +kernel
theorem dX2_findInSegment_79 : decode cX2_findInSegment 79 = .ok (.iload 6, 2) := by decide +kernel
theorem dX2_findInSegment_81 : decode cX2_findInSegment 81 = .ok (.iload 7, 2) := by decide +kernel
theorem dX2_findInSegment_83 : decode cX2_findInSegment 83 = .ok (.iadd, 1) := by decide +kernel
theorem dX2_findInSegment_84 : decode cX2_findInSegment 84 = .ok (.iconst 2, 1) := by decide +kernel
theorem dX2_findInSegment_85 : decode cX2_findInSegment 85 = .ok (.iload_n 2, 1) := by decide +kernel
theorem dX2_findInSegment_86 : decode cX2_findInSegment 86 = .ok (.iload 4, 2) := by decide +kernel
theorem dX2_findInSegment_88 : decode cX2_findInSegment 88 = .ok (.isub, 1) := by decide +kernel
theorem dX2_findInSegment_89 : decode cX2_findInSegment 89 = .ok (.imul, 1) := by decide +kernel
theorem dX2_findInSegment_90 : decode cX2_findInSegment 90 = .ok (.iadd, 1) := by decide +kernel
theorem dX2_findInSegment_91 : decode cX2_findInSegment 91 = .ok (.istore 8, 2) := by decide +kernel
theorem dX2_findInSegment_93 : decode cX2_findInSegment 93 = .ok (.iload 8, 2) := by decide +kernel
theorem dX2_findInSegment_95 : decode cX2_findInSegment 95 = .ok (.iconst 2, 1) := by decide +kernel
theorem dX2_findInSegment_96 : decode cX2_findInSegment 96 = .ok (.iadd, 1) := by decide +kernel
theorem dX2_findInSegment_97 : decode cX2_findInSegment 97 = .ok (.aload_n 0, 1) := by decide +kernel
theorem dX2_findInSegment_98 : decode cX2_findInSegment 98 = .ok (.getfield 82, 3) := by decide +kernel
theorem dX2_findInSegment_101 : decode cX2_findInSegment 101 = .ok (.aload_n 0, 1) := by decide +kernel
theorem dX2_findInSegment_102 : decode cX2_findInSegment 102 = .ok (.getfield 98, 3) := by decide +kernel
theorem dX2_findInSegment_105 : decode cX2_findInSegment 105 = .ok (.iadd, 1) := by decide +kernel
theorem dX2_findInSegment_106 : decode cX2_findInSegment 106 = .ok (.if_icmp .gt 12, 3) := by decide +kernel
theorem dX2_findInSegment_109 : decode cX2_findInSegment 109 = .ok (.aload_n 0, 1) := by decide +kernel
theorem dX2_findInSegment_110 : decode cX2_findInSegment 110 = .ok (.iload 8, 2) := by decide +kernel
theorem dX2_findInSegment_112 : decode cX2_findInSegment 112 = .ok (.invokevirtual 50, 3) := by decide +kernel
theorem dX2_findInSegment_115 : decode cX2_findInSegment 115 = .ok (.ifCond .ne 5, 3) := by decide +kernel
theorem dX2_findInSegment_118 : decode cX2_findInSegment 118 = .ok (.iconst 0, 1) := by decide +kernel
theorem dX2_findInSegment_119 : decode cX2_findInSegment 119 = .ok (.ireturn, 1) := by decide +kernel
theorem dX2_findInSegment_120 : decode cX2_findInSegment 120 = .ok (.aload_n 0, 1) := by decide +kernel
theorem dX2_findInSegment_121 : decode cX2_findInSegment 121 = .ok (.iload 8, 2) := by decide +kernel
theorem dX2_findInSegment_123 : decode cX2_findInSegment 123 = .ok (.invokevirtual 50, 3) := by decide +kernel
theorem dX2_findInSegment_126 : decode cX2_findInSegment 126 = .ok (.iload 5, 2) := by decide +kernel
theorem dX2_findInSegment_128 : decode cX2_findInSegment 128 = .ok (.iadd, 1) := by decide +kernel
theorem dX2_findInSegment_129 : decode cX2_findInSegment 129 = .ok (.ldc 97, 2) := by decide +kernel
theorem dX2_findInSegment_131 : decode cX2_findInSegment 131 = .ok (.iand, 1) := by decide +kernel
theorem dX2_findInSegment_132 : decode cX2_findInSegment 132 = .ok (.ireturn, 1) := by decide +kernel
def F_X2_findInSegment (l1 : Int32) (l2 : Int32) (V : sv_V) : Option (Int32 × sv_V) := sx_let ((((V.1 2 12) + (16 : Int32)) + ((2 : Int32) * (V.1 2 14))) + ((2 : Int32) * l1)) (fun x1 => (F_X2_u2 x1 V).bind (fun (x4, V2) => (F_X2_u2 (x1 + ((2 : Int32) * (V2.1 2 14))) V2).bind (fun (x7, V5) => sx_let (x1 + ((4 : Int32) * (V5.1 2 14))) (fun x8 => (F_X2_u2 x8 V5).bind (fun (x11, V9) => if x4 ≤ l2 then (if x11 = 0 then (some ((l2 + x7) &&& (65535 : Int32), V9)) else (sx_let ((x8 + x11) + ((2 : Int32) * (l2 - x4))) (fun x14 => if ((V9.1 2 12) + (V9.1 2 13)) < (x14 + (2 : Int32)) then (some ((0 : Int32), V9)) else ((F_X2_u2 x14 V9).bind (fun (x18, V16) => if x18 = 0 then (some ((0 : Int32), V16)) else ((F_X2_u2 x14 V16).bind (fun (x22, V20) => some ((x22 + x7) &&& (65535 : Int32), V20)))))))) else (some ((0 : Int32), V9)))))))
set_option maxRecDepth 20000 in
theorem t_X2_findInSegment {g : sx_G} (hG : sx_Go g) {P : Option Value → sv_V → Prop} {r : Int32} {Vr : sv_V} (hP : P (some (.int r)) Vr) {l1 : Int32} {l2 : Int32} {V : sv_V} (h : F_X2_findInSegment l1 l2 V = some (r, Vr)) : sv_N g qX2_findInSegment 1 0 [(0, .ref 2), (1, .int l1), (2, .int l2)] [] V P := by
  unfold F_X2_findInSegment at h
  refine sx_aload_n (pc := 0) dX2_findInSegment_0 sx_m0 ?_
  refine sv_getI (pc := 1) hG dX2_findInSegment_1 f_2_82 lay_2 rfl ?_
  refine sx_bipush (pc := 4) (v := 16) dX2_findInSegment_4 (by decide) ?_
  refine sx_iadd (pc := 6) dX2_findInSegment_6 ?_
  refine sx_iconst (pc := 7) (v := 2) dX2_findInSegment_7 (by decide) ?_
  refine sx_aload_n (pc := 8) dX2_findInSegment_8 sx_m0 ?_
  refine sv_getI (pc := 9) hG dX2_findInSegment_9 f_2_88 lay_2 rfl ?_
  refine sx_imul (pc := 12) dX2_findInSegment_12 ?_
  refine sx_iadd (pc := 13) dX2_findInSegment_13 ?_
  refine sx_iconst (pc := 14) (v := 2) dX2_findInSegment_14 (by decide) ?_
  refine sx_iload_n (pc := 15) dX2_findInSegment_15 sx_m1 ?_
  refine sx_imul (pc := 16) dX2_findInSegment_16 ?_
  refine sx_iadd (pc := 17) dX2_findInSegment_17 ?_
  refine sv_tI (fun x1 hx1 => ?_)
  have h := sx_letE hx1 h
  refine sx_istore_n (pc := 18) (lo' := [(3, .int x1), (0, .ref 2), (1, .int l1), (2, .int l2)]) dX2_findInSegment_18 (by decide) rfl ?_
  refine sx_aload_n (pc := 19) dX2_findInSegment_19 sx_m1 ?_
  refine sx_iload_n (pc := 20) dX2_findInSegment_20 sx_m0 ?_
  obtain ⟨⟨x4, V2⟩, g3, h⟩ := sx_bnd h
  refine sv_cV (pc := 21) (y := qX2_u2) (o := (some (.int x4))) (as := [.int x1]) (V1 := V2) hG dX2_findInSegment_21 l_X2_50 y0X2_u2 yvX2_u2 rfl (Nat.le_of_ble_eq_true rfl) lay_2 kr_2 (by decide) (Nat.le_of_ble_eq_true rfl) rfl rfl rfl (t_X2_u2 hG ⟨rfl, rfl⟩ g3) ?_
  refine sx_istore (pc := 24) (lo' := [(4, .int x4), (3, .int x1), (0, .ref 2), (1, .int l1), (2, .int l2)]) dX2_findInSegment_24 (by decide) rfl ?_
  refine sx_aload_n (pc := 26) dX2_findInSegment_26 sx_m2 ?_
  refine sx_iload_n (pc := 27) dX2_findInSegment_27 sx_m1 ?_
  refine sx_iconst (pc := 28) (v := 2) dX2_findInSegment_28 (by decide) ?_
  refine sx_aload_n (pc := 29) dX2_findInSegment_29 sx_m2 ?_
  refine sv_getI (pc := 30) hG dX2_findInSegment_30 f_2_88 lay_2 rfl ?_
  refine sx_imul (pc := 33) dX2_findInSegment_33 ?_
  refine sx_iadd (pc := 34) dX2_findInSegment_34 ?_
  obtain ⟨⟨x7, V5⟩, g6, h⟩ := sx_bnd h
  refine sv_cV (pc := 35) (y := qX2_u2) (o := (some (.int x7))) (as := [.int (x1 + ((2 : Int32) * (V2.1 2 14)))]) (V1 := V5) hG dX2_findInSegment_35 l_X2_50 y0X2_u2 yvX2_u2 rfl (Nat.le_of_ble_eq_true rfl) lay_2 kr_2 (by decide) (Nat.le_of_ble_eq_true rfl) rfl rfl rfl (t_X2_u2 hG ⟨rfl, rfl⟩ g6) ?_
  refine sx_istore (pc := 38) (lo' := [(5, .int x7), (4, .int x4), (3, .int x1), (0, .ref 2), (1, .int l1), (2, .int l2)]) dX2_findInSegment_38 (by decide) rfl ?_
  refine sx_iload_n (pc := 40) dX2_findInSegment_40 sx_m2 ?_
  refine sx_iconst (pc := 41) (v := 4) dX2_findInSegment_41 (by decide) ?_
  refine sx_aload_n (pc := 42) dX2_findInSegment_42 sx_m3 ?_
  refine sv_getI (pc := 43) hG dX2_findInSegment_43 f_2_88 lay_2 rfl ?_
  refine sx_imul (pc := 46) dX2_findInSegment_46 ?_
  refine sx_iadd (pc := 47) dX2_findInSegment_47 ?_
  refine sv_tI (fun x8 hx8 => ?_)
  have h := sx_letE hx8 h
  refine sx_istore (pc := 48) (lo' := [(6, .int x8), (5, .int x7), (4, .int x4), (3, .int x1), (0, .ref 2), (1, .int l1), (2, .int l2)]) dX2_findInSegment_48 (by decide) rfl ?_
  refine sx_aload_n (pc := 50) dX2_findInSegment_50 sx_m4 ?_
  refine sx_iload (pc := 51) dX2_findInSegment_51 sx_m0 ?_
  obtain ⟨⟨x11, V9⟩, g10, h⟩ := sx_bnd h
  refine sv_cV (pc := 53) (y := qX2_u2) (o := (some (.int x11))) (as := [.int x8]) (V1 := V9) hG dX2_findInSegment_53 l_X2_50 y0X2_u2 yvX2_u2 rfl (Nat.le_of_ble_eq_true rfl) lay_2 kr_2 (by decide) (Nat.le_of_ble_eq_true rfl) rfl rfl rfl (t_X2_u2 hG ⟨rfl, rfl⟩ g10) ?_
  refine sx_istore (pc := 56) (lo' := [(7, .int x11), (6, .int x8), (5, .int x7), (4, .int x4), (3, .int x1), (0, .ref 2), (1, .int l1), (2, .int l2)]) dX2_findInSegment_56 (by decide) rfl ?_
  refine sx_iload (pc := 58) dX2_findInSegment_58 sx_m3 ?_
  refine sx_iload_n (pc := 60) dX2_findInSegment_60 sx_m7 ?_
  refine sx_icmp_le (pc := 61) (tgt := 66) dX2_findInSegment_61 (by decide) (fun c12 => ?_) (fun c12 => ?_)
  · have h := sx_pos c12 h
    refine sx_iload (pc := 66) dX2_findInSegment_66 sx_m0 ?_
    refine sx_if_ne (pc := 68) (tgt := 79) dX2_findInSegment_68 (by decide) (fun c13 => ?_) (fun c13 => ?_)
    · have h := sx_neg c13 h
      refine sx_iload (pc := 79) dX2_findInSegment_79 sx_m1 ?_
      refine sx_iload (pc := 81) dX2_findInSegment_81 sx_m0 ?_
      refine sx_iadd (pc := 83) dX2_findInSegment_83 ?_
      refine sx_iconst (pc := 84) (v := 2) dX2_findInSegment_84 (by decide) ?_
      refine sx_iload_n (pc := 85) dX2_findInSegment_85 sx_m7 ?_
      refine sx_iload (pc := 86) dX2_findInSegment_86 sx_m3 ?_
      refine sx_isub (pc := 88) dX2_findInSegment_88 ?_
      refine sx_imul (pc := 89) dX2_findInSegment_89 ?_
      refine sx_iadd (pc := 90) dX2_findInSegment_90 ?_
      refine sv_tI (fun x14 hx14 => ?_)
      have h := sx_letE hx14 h
      refine sx_istore (pc := 91) (lo' := [(8, .int x14), (7, .int x11), (6, .int x8), (5, .int x7), (4, .int x4), (3, .int x1), (0, .ref 2), (1, .int l1), (2, .int l2)]) dX2_findInSegment_91 (by decide) rfl ?_
      refine sx_iload (pc := 93) dX2_findInSegment_93 sx_m0 ?_
      refine sx_iconst (pc := 95) (v := 2) dX2_findInSegment_95 (by decide) ?_
      refine sx_iadd (pc := 96) dX2_findInSegment_96 ?_
      refine sx_aload_n (pc := 97) dX2_findInSegment_97 sx_m6 ?_
      refine sv_getI (pc := 98) hG dX2_findInSegment_98 f_2_82 lay_2 rfl ?_
      refine sx_aload_n (pc := 101) dX2_findInSegment_101 sx_m6 ?_
      refine sv_getI (pc := 102) hG dX2_findInSegment_102 f_2_98 lay_2 rfl ?_
      refine sx_iadd (pc := 105) dX2_findInSegment_105 ?_
      refine sx_icmp_gt (pc := 106) (tgt := 118) dX2_findInSegment_106 (by decide) (fun c15 => ?_) (fun c15 => ?_)
      · have h := sx_pos c15 h
        refine sx_iconst (pc := 118) (v := 0) dX2_findInSegment_118 (by decide) ?_
        exact sv_iret (pc := 119) dX2_findInSegment_119 rfl h hP
      · have h := sx_neg c15 h
        refine sx_aload_n (pc := 109) dX2_findInSegment_109 sx_m6 ?_
        refine sx_iload (pc := 110) dX2_findInSegment_110 sx_m0 ?_
        obtain ⟨⟨x18, V16⟩, g17, h⟩ := sx_bnd h
        refine sv_cV (pc := 112) (y := qX2_u2) (o := (some (.int x18))) (as := [.int x14]) (V1 := V16) hG dX2_findInSegment_112 l_X2_50 y0X2_u2 yvX2_u2 rfl (Nat.le_of_ble_eq_true rfl) lay_2 kr_2 (by decide) (Nat.le_of_ble_eq_true rfl) rfl rfl rfl (t_X2_u2 hG ⟨rfl, rfl⟩ g17) ?_
        refine sx_if_ne (pc := 115) (tgt := 120) dX2_findInSegment_115 (by decide) (fun c19 => ?_) (fun c19 => ?_)
        · have h := sx_neg c19 h
          refine sx_aload_n (pc := 120) dX2_findInSegment_120 sx_m6 ?_
          refine sx_iload (pc := 121) dX2_findInSegment_121 sx_m0 ?_
          obtain ⟨⟨x22, V20⟩, g21, h⟩ := sx_bnd h
          refine sv_cV (pc := 123) (y := qX2_u2) (o := (some (.int x22))) (as := [.int x14]) (V1 := V20) hG dX2_findInSegment_123 l_X2_50 y0X2_u2 yvX2_u2 rfl (Nat.le_of_ble_eq_true rfl) lay_2 kr_2 (by decide) (Nat.le_of_ble_eq_true rfl) rfl rfl rfl (t_X2_u2 hG ⟨rfl, rfl⟩ g21) ?_
          refine sx_iload (pc := 126) dX2_findInSegment_126 sx_m3 ?_
          refine sx_iadd (pc := 128) dX2_findInSegment_128 ?_
          refine sx_ldc (pc := 129) dX2_findInSegment_129 k_X2_97 ?_
          refine sx_iand (pc := 131) dX2_findInSegment_131 ?_
          exact sv_iret (pc := 132) dX2_findInSegment_132 rfl h hP
        · have h := sx_pos c19 h
          refine sx_iconst (pc := 118) (v := 0) dX2_findInSegment_118 (by decide) ?_
          exact sv_iret (pc := 119) dX2_findInSegment_119 rfl h hP
    · have h := sx_pos c13 h
      refine sx_iload_n (pc := 71) dX2_findInSegment_71 sx_m7 ?_
      refine sx_iload (pc := 72) dX2_findInSegment_72 sx_m2 ?_
      refine sx_iadd (pc := 74) dX2_findInSegment_74 ?_
      refine sx_ldc (pc := 75) dX2_findInSegment_75 k_X2_97 ?_
      refine sx_iand (pc := 77) dX2_findInSegment_77 ?_
      exact sv_iret (pc := 78) dX2_findInSegment_78 rfl h hP
  · have h := sx_neg c12 h
    refine sx_iconst (pc := 64) (v := 0) dX2_findInSegment_64 (by decide) ?_
    exact sv_iret (pc := 65) dX2_findInSegment_65 rfl h hP
theorem dX3_goTo_0 : decode cX3_goTo 0 = .ok (.aload_n 0, 1) := by decide +kernel
theorem dX3_goTo_1 : decode cX3_goTo 1 = .ok (.aload_n 0, 1) := by decide +kernel
theorem dX3_goTo_2 : decode cX3_goTo 2 = .ok (.getfield 27, 3) := by decide +kernel
theorem dX3_goTo_5 : decode cX3_goTo 5 = .ok (.getfield 45, 3) := by decide +kernel
theorem dX3_goTo_8 : decode cX3_goTo 8 = .ok (.iconst 0, 1) := by decide +kernel
theorem dX3_goTo_9 : decode cX3_goTo 9 = .ok (.aaload, 1) := by decide +kernel
theorem dX3_goTo_10 : decode cX3_goTo 10 = .ok (.iload_n 1, 1) := by decide +kernel
theorem dX3_goTo_11 : decode cX3_goTo 11 = .ok (.iaload, 1) := by decide +kernel
theorem dX3_goTo_12 : decode cX3_goTo 12 = .ok (.bipush 10, 2) := by decide +kernel
theorem dX3_goTo_14 : decode cX3_goTo 14 = .ok (.iadd, 1) := by decide +kernel
theorem dX3_goTo_15 : decode cX3_goTo 15 = .ok (.putfield 63, 3) := by decide +kernel
theorem dX3_goTo_18 : decode cX3_goTo 18 = .ok (.aload_n 0, 1) := by decide +kernel
theorem dX3_goTo_19 : decode cX3_goTo 19 = .ok (.aload_n 0, 1) := by decide +kernel
theorem dX3_goTo_20 : decode cX3_goTo 20 = .ok (.getfield 27, 3) := by decide +kernel
theorem dX3_goTo_23 : decode cX3_goTo 23 = .ok (.getfield 45, 3) := by decide +kernel
theorem dX3_goTo_26 : decode cX3_goTo 26 = .ok (.iconst 0, 1) := by decide +kernel
theorem dX3_goTo_27 : decode cX3_goTo 27 = .ok (.aaload, 1) := by decide +kernel
theorem dX3_goTo_28 : decode cX3_goTo 28 = .ok (.iload_n 1, 1) := by decide +kernel
theorem dX3_goTo_29 : decode cX3_goTo 29 = .ok (.iaload, 1) := by decide +kernel
theorem dX3_goTo_30 : decode cX3_goTo 30 = .ok (.aload_n 0, 1) := by decide +kernel
theorem dX3_goTo_31 : decode cX3_goTo 31 = .ok (.getfield 27, 3) := by decide +kernel
theorem dX3_goTo_34 : decode cX3_goTo 34 = .ok (.getfield 45, 3) := by decide +kernel
theorem dX3_goTo_37 : decode cX3_goTo 37 = .ok (.iconst 1, 1) := by decide +kernel
theorem dX3_goTo_38 : decode cX3_goTo 38 = .ok (.aaload, 1) := by decide +kernel
theorem dX3_goTo_39 : decode cX3_goTo 39 = .ok (.iload_n 1, 1) := by decide +kernel
theorem dX3_goTo_40 : decode cX3_goTo 40 = .ok (.iaload, 1) := by decide +kernel
theorem dX3_goTo_41 : decode cX3_goTo 41 = .ok (.iadd, 1) := by decide +kernel
theorem dX3_goTo_42 : decode cX3_goTo 42 = .ok (.putfield 66, 3) := by decide +kernel
theorem dX3_goTo_45 : decode cX3_goTo 45 = .ok (.aload_n 0, 1) := by decide +kernel
theorem dX3_goTo_46 : decode cX3_goTo 46 = .ok (.iconst 0, 1) := by decide +kernel
theorem dX3_goTo_47 : decode cX3_goTo 47 = .ok (.putfield 69, 3) := by decide +kernel
theorem dX3_goTo_50 : decode cX3_goTo 50 = .ok (.return_, 1) := by decide +kernel
def F_X3_goTo (l1 : Int32) (V : sv_V) : Option sv_V := (cr 7 (0 : Int32).toNatClampNeg).bind (fun b1 => (sv_len 0 b1).bind (fun n3 => if sx_in l1 n3 = true then sx_let (sv_I V 16 4 ((V.1 b1 l1.toNatClampNeg) + (10 : Int32))) (fun V6 => (cr 7 (0 : Int32).toNatClampNeg).bind (fun b7 => (sv_len 0 b7).bind (fun n9 => if sx_in l1 n9 = true then (cr 7 (1 : Int32).toNatClampNeg).bind (fun b12 => (sv_len 0 b12).bind (fun n14 => if sx_in l1 n14 = true then sx_let (sv_I V6 16 5 ((V6.1 b7 l1.toNatClampNeg) + (V6.1 b12 l1.toNatClampNeg))) (fun V17 => sx_let (sv_I V17 16 6 (0 : Int32)) (fun V18 => some V18)) else none)) else none))) else none))
set_option maxRecDepth 20000 in
theorem t_X3_goTo {g : sx_G} (hG : sx_Go g) {P : Option Value → sv_V → Prop} {Vr : sv_V} (hP : P none Vr) {l1 : Int32} {V : sv_V} (h : F_X3_goTo l1 V = some Vr) : sv_N g qX3_goTo 0 0 [(0, .ref 16), (1, .int l1)] [] V P := by
  unfold F_X3_goTo at h
  refine sx_aload_n (pc := 0) dX3_goTo_0 sx_m0 ?_
  refine sx_aload_n (pc := 1) dX3_goTo_1 sx_m0 ?_
  refine sv_getO (pc := 2) hG dX3_goTo_2 f_3_27 lay_16 rfl cr_16_0 ?_
  refine sv_getA (pc := 5) hG dX3_goTo_5 f_3_45 lay_2 rfl cr_2_16 ?_
  refine sx_iconst (pc := 8) (v := 0) dX3_goTo_8 (by decide) ?_
  obtain ⟨b1, g2, h⟩ := sx_bnd h
  refine sv_aald (pc := 9) hG dX3_goTo_9 (by decide) lay_7 (by decide) g2 ?_
  refine sx_iload_n (pc := 10) dX3_goTo_10 sx_m1 ?_
  obtain ⟨n3, g4, h⟩ := sx_bnd h
  obtain ⟨g5, h⟩ := sx_grd h
  refine sv_iald (pc := 11) hG dX3_goTo_11 (sv_len_e g4) g5 ?_
  refine sx_bipush (pc := 12) (v := 10) dX3_goTo_12 (by decide) ?_
  refine sx_iadd (pc := 14) dX3_goTo_14 ?_
  obtain ⟨V6, hV6⟩ : ∃ z : sv_V, z = sv_I V 16 4 ((V.1 b1 l1.toNatClampNeg) + (10 : Int32)) := ⟨_, rfl⟩
  have h := sx_letE hV6 h
  refine sv_putI (pc := 15) hG dX3_goTo_15 f_3_63 lay_16 rfl hV6 ?_
  refine sx_aload_n (pc := 18) dX3_goTo_18 sx_m0 ?_
  refine sx_aload_n (pc := 19) dX3_goTo_19 sx_m0 ?_
  refine sv_getO (pc := 20) hG dX3_goTo_20 f_3_27 lay_16 rfl cr_16_0 ?_
  refine sv_getA (pc := 23) hG dX3_goTo_23 f_3_45 lay_2 rfl cr_2_16 ?_
  refine sx_iconst (pc := 26) (v := 0) dX3_goTo_26 (by decide) ?_
  obtain ⟨b7, g8, h⟩ := sx_bnd h
  refine sv_aald (pc := 27) hG dX3_goTo_27 (by decide) lay_7 (by decide) g8 ?_
  refine sx_iload_n (pc := 28) dX3_goTo_28 sx_m1 ?_
  obtain ⟨n9, g10, h⟩ := sx_bnd h
  obtain ⟨g11, h⟩ := sx_grd h
  refine sv_iald (pc := 29) hG dX3_goTo_29 (sv_len_e g10) g11 ?_
  refine sx_aload_n (pc := 30) dX3_goTo_30 sx_m0 ?_
  refine sv_getO (pc := 31) hG dX3_goTo_31 f_3_27 lay_16 rfl cr_16_0 ?_
  refine sv_getA (pc := 34) hG dX3_goTo_34 f_3_45 lay_2 rfl cr_2_16 ?_
  refine sx_iconst (pc := 37) (v := 1) dX3_goTo_37 (by decide) ?_
  obtain ⟨b12, g13, h⟩ := sx_bnd h
  refine sv_aald (pc := 38) hG dX3_goTo_38 (by decide) lay_7 (by decide) g13 ?_
  refine sx_iload_n (pc := 39) dX3_goTo_39 sx_m1 ?_
  obtain ⟨n14, g15, h⟩ := sx_bnd h
  obtain ⟨g16, h⟩ := sx_grd h
  refine sv_iald (pc := 40) hG dX3_goTo_40 (sv_len_e g15) g16 ?_
  refine sx_iadd (pc := 41) dX3_goTo_41 ?_
  obtain ⟨V17, hV17⟩ : ∃ z : sv_V, z = sv_I V6 16 5 ((V6.1 b7 l1.toNatClampNeg) + (V6.1 b12 l1.toNatClampNeg)) := ⟨_, rfl⟩
  have h := sx_letE hV17 h
  refine sv_putI (pc := 42) hG dX3_goTo_42 f_3_66 lay_16 rfl hV17 ?_
  refine sx_aload_n (pc := 45) dX3_goTo_45 sx_m0 ?_
  refine sx_iconst (pc := 46) (v := 0) dX3_goTo_46 (by decide) ?_
  obtain ⟨V18, hV18⟩ : ∃ z : sv_V, z = sv_I V17 16 6 (0 : Int32) := ⟨_, rfl⟩
  have h := sx_letE hV18 h
  refine sv_putZ (pc := 47) hG dX3_goTo_47 f_3_69 lay_16 rfl rfl hV18 ?_
  exact sv_vret (pc := 50) dX3_goTo_50 rfl h hP
theorem dX3_takeU1_0 : decode cX3_takeU1 0 = .ok (.aload_n 0, 1) := by decide +kernel
theorem dX3_takeU1_1 : decode cX3_takeU1 1 = .ok (.dup, 1) := by decide +kernel
theorem dX3_takeU1_2 : decode cX3_takeU1 2 = .ok (.getfield 63, 3) := by decide +kernel
theorem dX3_takeU1_5 : decode cX3_takeU1 5 = .ok (.iconst 1, 1) := by decide +kernel
theorem dX3_takeU1_6 : decode cX3_takeU1 6 = .ok (.iadd, 1) := by decide +kernel
theorem dX3_takeU1_7 : decode cX3_takeU1 7 = .ok (.putfield 63, 3) := by decide +kernel
theorem dX3_takeU1_10 : decode cX3_takeU1 10 = .ok (.aload_n 0, 1) := by decide +kernel
theorem dX3_takeU1_11 : decode cX3_takeU1 11 = .ok (.getfield 63, 3) := by decide +kernel
theorem dX3_takeU1_14 : decode cX3_takeU1 14 = .ok (.aload_n 0, 1) := by decide +kernel
theorem dX3_takeU1_15 : decode cX3_takeU1 15 = .ok (.getfield 66, 3) := by decide +kernel
theorem dX3_takeU1_18 : decode cX3_takeU1 18 = .ok (.if_icmp .le 10, 3) := by decide +kernel
theorem dX3_takeU1_21 : decode cX3_takeU1 21 = .ok (.aload_n 0, 1) := by decide +kernel
theorem dX3_takeU1_22 : decode cX3_takeU1 22 = .ok (.iconst 1, 1) := by decide +kernel
theorem dX3_takeU1_23 : decode cX3_takeU1 23 = .ok (.putfield 69, 3) := by decide +kernel
theorem dX3_takeU1_26 : decode cX3_takeU1 26 = .ok (.iconst 0, 1) := by decide +kernel
theorem dX3_takeU1_27 : decode cX3_takeU1 27 = .ok (.ireturn, 1) := by decide +kernel
theorem dX3_takeU1_28 : decode cX3_takeU1 28 = .ok (.aload_n 0, 1) := by decide +kernel
theorem dX3_takeU1_29 : decode cX3_takeU1 29 = .ok (.getfield 27, 3) := by decide +kernel
theorem dX3_takeU1_32 : decode cX3_takeU1 32 = .ok (.aload_n 0, 1) := by decide +kernel
theorem dX3_takeU1_33 : decode cX3_takeU1 33 = .ok (.getfield 63, 3) := by decide +kernel
theorem dX3_takeU1_36 : decode cX3_takeU1 36 = .ok (.iconst 1, 1) := by decide +kernel
theorem dX3_takeU1_37 : decode cX3_takeU1 37 = .ok (.isub, 1) := by decide +kernel
theorem dX3_takeU1_38 : decode cX3_takeU1 38 = .ok (.invokevirtual 73, 3) := by decide +kernel
theorem dX3_takeU1_41 : decode cX3_takeU1 41 = .ok (.ireturn, 1) := by decide +kernel
def F_X3_takeU1  (V : sv_V) : Option (Int32 × sv_V) := sx_let (sv_I V 16 4 ((V.1 16 4) + (1 : Int32))) (fun V1 => if (V1.1 16 4) ≤ (V1.1 16 5) then ((F_X2_u1 ((V1.1 16 4) - (1 : Int32)) V1).bind (fun (x5, V3) => some (x5, V3))) else (sx_let (sv_I V1 16 6 (1 : Int32)) (fun V6 => some ((0 : Int32), V6))))
set_option maxRecDepth 20000 in
theorem t_X3_takeU1 {g : sx_G} (hG : sx_Go g) {P : Option Value → sv_V → Prop} {r : Int32} {Vr : sv_V} (hP : P (some (.int r)) Vr)  {V : sv_V} (h : F_X3_takeU1  V = some (r, Vr)) : sv_N g qX3_takeU1 1 0 [(0, .ref 16)] [] V P := by
  unfold F_X3_takeU1 at h
  refine sx_aload_n (pc := 0) dX3_takeU1_0 sx_m0 ?_
  refine sx_dup (pc := 1) dX3_takeU1_1 rfl ?_
  refine sv_getI (pc := 2) hG dX3_takeU1_2 f_3_63 lay_16 rfl ?_
  refine sx_iconst (pc := 5) (v := 1) dX3_takeU1_5 (by decide) ?_
  refine sx_iadd (pc := 6) dX3_takeU1_6 ?_
  obtain ⟨V1, hV1⟩ : ∃ z : sv_V, z = sv_I V 16 4 ((V.1 16 4) + (1 : Int32)) := ⟨_, rfl⟩
  have h := sx_letE hV1 h
  refine sv_putI (pc := 7) hG dX3_takeU1_7 f_3_63 lay_16 rfl hV1 ?_
  refine sx_aload_n (pc := 10) dX3_takeU1_10 sx_m0 ?_
  refine sv_getI (pc := 11) hG dX3_takeU1_11 f_3_63 lay_16 rfl ?_
  refine sx_aload_n (pc := 14) dX3_takeU1_14 sx_m0 ?_
  refine sv_getI (pc := 15) hG dX3_takeU1_15 f_3_66 lay_16 rfl ?_
  refine sx_icmp_le (pc := 18) (tgt := 28) dX3_takeU1_18 (by decide) (fun c2 => ?_) (fun c2 => ?_)
  · have h := sx_pos c2 h
    refine sx_aload_n (pc := 28) dX3_takeU1_28 sx_m0 ?_
    refine sv_getO (pc := 29) hG dX3_takeU1_29 f_3_27 lay_16 rfl cr_16_0 ?_
    refine sx_aload_n (pc := 32) dX3_takeU1_32 sx_m0 ?_
    refine sv_getI (pc := 33) hG dX3_takeU1_33 f_3_63 lay_16 rfl ?_
    refine sx_iconst (pc := 36) (v := 1) dX3_takeU1_36 (by decide) ?_
    refine sx_isub (pc := 37) dX3_takeU1_37 ?_
    obtain ⟨⟨x5, V3⟩, g4, h⟩ := sx_bnd h
    refine sv_cV (pc := 38) (y := qX2_u1) (o := (some (.int x5))) (as := [.int ((V1.1 16 4) - (1 : Int32))]) (V1 := V3) hG dX3_takeU1_38 l_X3_73 y0X2_u1 yvX2_u1 rfl (Nat.le_of_ble_eq_true rfl) lay_2 kr_2 (by decide) (Nat.le_of_ble_eq_true rfl) rfl rfl rfl (t_X2_u1 hG ⟨rfl, rfl⟩ g4) ?_
    exact sv_iret (pc := 41) dX3_takeU1_41 rfl h hP
  · have h := sx_neg c2 h
    refine sx_aload_n (pc := 21) dX3_takeU1_21 sx_m0 ?_
    refine sx_iconst (pc := 22) (v := 1) dX3_takeU1_22 (by decide) ?_
    obtain ⟨V6, hV6⟩ : ∃ z : sv_V, z = sv_I V1 16 6 (1 : Int32) := ⟨_, rfl⟩
    have h := sx_letE hV6 h
    refine sv_putZ (pc := 23) hG dX3_takeU1_23 f_3_69 lay_16 rfl rfl hV6 ?_
    refine sx_iconst (pc := 26) (v := 0) dX3_takeU1_26 (by decide) ?_
    exact sv_iret (pc := 27) dX3_takeU1_27 rfl h hP
theorem dX3_takeU2_0 : decode cX3_takeU2 0 = .ok (.aload_n 0, 1) := by decide +kernel
theorem dX3_takeU2_1 : decode cX3_takeU2 1 = .ok (.dup, 1) := by decide +kernel
theorem dX3_takeU2_2 : decode cX3_takeU2 2 = .ok (.getfield 63, 3) := by decide +kernel
theorem dX3_takeU2_5 : decode cX3_takeU2 5 = .ok (.iconst 2, 1) := by decide +kernel
theorem dX3_takeU2_6 : decode cX3_takeU2 6 = .ok (.iadd, 1) := by decide +kernel
theorem dX3_takeU2_7 : decode cX3_takeU2 7 = .ok (.putfield 63, 3) := by decide +kernel
theorem dX3_takeU2_10 : decode cX3_takeU2 10 = .ok (.aload_n 0, 1) := by decide +kernel
theorem dX3_takeU2_11 : decode cX3_takeU2 11 = .ok (.getfield 63, 3) := by decide +kernel
theorem dX3_takeU2_14 : decode cX3_takeU2 14 = .ok (.aload_n 0, 1) := by decide +kernel
theorem dX3_takeU2_15 : decode cX3_takeU2 15 = .ok (.getfield 66, 3) := by decide +kernel
theorem dX3_takeU2_18 : decode cX3_takeU2 18 = .ok (.if_icmp .le 10, 3) := by decide +kernel
theorem dX3_takeU2_21 : decode cX3_takeU2 21 = .ok (.aload_n 0, 1) := by decide +kernel
theorem dX3_takeU2_22 : decode cX3_takeU2 22 = .ok (.iconst 1, 1) := by decide +kernel
theorem dX3_takeU2_23 : decode cX3_takeU2 23 = .ok (.putfield 69, 3) := by decide +kernel
theorem dX3_takeU2_26 : decode cX3_takeU2 26 = .ok (.iconst 0, 1) := by decide +kernel
theorem dX3_takeU2_27 : decode cX3_takeU2 27 = .ok (.ireturn, 1) := by decide +kernel
theorem dX3_takeU2_28 : decode cX3_takeU2 28 = .ok (.aload_n 0, 1) := by decide +kernel
theorem dX3_takeU2_29 : decode cX3_takeU2 29 = .ok (.getfield 27, 3) := by decide +kernel
theorem dX3_takeU2_32 : decode cX3_takeU2 32 = .ok (.aload_n 0, 1) := by decide +kernel
theorem dX3_takeU2_33 : decode cX3_takeU2 33 = .ok (.getfield 63, 3) := by decide +kernel
theorem dX3_takeU2_36 : decode cX3_takeU2 36 = .ok (.iconst 2, 1) := by decide +kernel
theorem dX3_takeU2_37 : decode cX3_takeU2 37 = .ok (.isub, 1) := by decide +kernel
theorem dX3_takeU2_38 : decode cX3_takeU2 38 = .ok (.invokevirtual 76, 3) := by decide +kernel
theorem dX3_takeU2_41 : decode cX3_takeU2 41 = .ok (.ireturn, 1) := by decide +kernel
def F_X3_takeU2  (V : sv_V) : Option (Int32 × sv_V) := sx_let (sv_I V 16 4 ((V.1 16 4) + (2 : Int32))) (fun V1 => if (V1.1 16 4) ≤ (V1.1 16 5) then ((F_X2_u2 ((V1.1 16 4) - (2 : Int32)) V1).bind (fun (x5, V3) => some (x5, V3))) else (sx_let (sv_I V1 16 6 (1 : Int32)) (fun V6 => some ((0 : Int32), V6))))
set_option maxRecDepth 20000 in
theorem t_X3_takeU2 {g : sx_G} (hG : sx_Go g) {P : Option Value → sv_V → Prop} {r : Int32} {Vr : sv_V} (hP : P (some (.int r)) Vr)  {V : sv_V} (h : F_X3_takeU2  V = some (r, Vr)) : sv_N g qX3_takeU2 1 0 [(0, .ref 16)] [] V P := by
  unfold F_X3_takeU2 at h
  refine sx_aload_n (pc := 0) dX3_takeU2_0 sx_m0 ?_
  refine sx_dup (pc := 1) dX3_takeU2_1 rfl ?_
  refine sv_getI (pc := 2) hG dX3_takeU2_2 f_3_63 lay_16 rfl ?_
  refine sx_iconst (pc := 5) (v := 2) dX3_takeU2_5 (by decide) ?_
  refine sx_iadd (pc := 6) dX3_takeU2_6 ?_
  obtain ⟨V1, hV1⟩ : ∃ z : sv_V, z = sv_I V 16 4 ((V.1 16 4) + (2 : Int32)) := ⟨_, rfl⟩
  have h := sx_letE hV1 h
  refine sv_putI (pc := 7) hG dX3_takeU2_7 f_3_63 lay_16 rfl hV1 ?_
  refine sx_aload_n (pc := 10) dX3_takeU2_10 sx_m0 ?_
  refine sv_getI (pc := 11) hG dX3_takeU2_11 f_3_63 lay_16 rfl ?_
  refine sx_aload_n (pc := 14) dX3_takeU2_14 sx_m0 ?_
  refine sv_getI (pc := 15) hG dX3_takeU2_15 f_3_66 lay_16 rfl ?_
  refine sx_icmp_le (pc := 18) (tgt := 28) dX3_takeU2_18 (by decide) (fun c2 => ?_) (fun c2 => ?_)
  · have h := sx_pos c2 h
    refine sx_aload_n (pc := 28) dX3_takeU2_28 sx_m0 ?_
    refine sv_getO (pc := 29) hG dX3_takeU2_29 f_3_27 lay_16 rfl cr_16_0 ?_
    refine sx_aload_n (pc := 32) dX3_takeU2_32 sx_m0 ?_
    refine sv_getI (pc := 33) hG dX3_takeU2_33 f_3_63 lay_16 rfl ?_
    refine sx_iconst (pc := 36) (v := 2) dX3_takeU2_36 (by decide) ?_
    refine sx_isub (pc := 37) dX3_takeU2_37 ?_
    obtain ⟨⟨x5, V3⟩, g4, h⟩ := sx_bnd h
    refine sv_cV (pc := 38) (y := qX2_u2) (o := (some (.int x5))) (as := [.int ((V1.1 16 4) - (2 : Int32))]) (V1 := V3) hG dX3_takeU2_38 l_X3_76 y0X2_u2 yvX2_u2 rfl (Nat.le_of_ble_eq_true rfl) lay_2 kr_2 (by decide) (Nat.le_of_ble_eq_true rfl) rfl rfl rfl (t_X2_u2 hG ⟨rfl, rfl⟩ g4) ?_
    exact sv_iret (pc := 41) dX3_takeU2_41 rfl h hP
  · have h := sx_neg c2 h
    refine sx_aload_n (pc := 21) dX3_takeU2_21 sx_m0 ?_
    refine sx_iconst (pc := 22) (v := 1) dX3_takeU2_22 (by decide) ?_
    obtain ⟨V6, hV6⟩ : ∃ z : sv_V, z = sv_I V1 16 6 (1 : Int32) := ⟨_, rfl⟩
    have h := sx_letE hV6 h
    refine sv_putZ (pc := 23) hG dX3_takeU2_23 f_3_69 lay_16 rfl rfl hV6 ?_
    refine sx_iconst (pc := 26) (v := 0) dX3_takeU2_26 (by decide) ?_
    exact sv_iret (pc := 27) dX3_takeU2_27 rfl h hP
theorem dX3_takeS2_0 : decode cX3_takeS2 0 = .ok (.aload_n 0, 1) := by decide +kernel
theorem dX3_takeS2_1 : decode cX3_takeS2 1 = .ok (.dup, 1) := by decide +kernel
theorem dX3_takeS2_2 : decode cX3_takeS2 2 = .ok (.getfield 63, 3) := by decide +kernel
theorem dX3_takeS2_5 : decode cX3_takeS2 5 = .ok (.iconst 2, 1) := by decide +kernel
theorem dX3_takeS2_6 : decode cX3_takeS2 6 = .ok (.iadd, 1) := by decide +kernel
theorem dX3_takeS2_7 : decode cX3_takeS2 7 = .ok (.putfield 63, 3) := by decide +kernel
theorem dX3_takeS2_10 : decode cX3_takeS2 10 = .ok (.aload_n 0, 1) := by decide +kernel
theorem dX3_takeS2_11 : decode cX3_takeS2 11 = .ok (.getfield 63, 3) := by decide +kernel
theorem dX3_takeS2_14 : decode cX3_takeS2 14 = .ok (.aload_n 0, 1) := by decide +kernel
theorem dX3_takeS2_15 : decode cX3_takeS2 15 = .ok (.getfield 66, 3) := by decide +kernel
theorem dX3_takeS2_18 : decode cX3_takeS2 18 = .ok (.if_icmp .le 10, 3) := by decide +kernel
theorem dX3_takeS2_21 : decode cX3_takeS2 21 = .ok (.aload_n 0, 1) := by decide +kernel
theorem dX3_takeS2_22 : decode cX3_takeS2 22 = .ok (.iconst 1, 1) := by decide +kernel
theorem dX3_takeS2_23 : decode cX3_takeS2 23 = .ok (.putfield 69, 3) := by decide +kernel
theorem dX3_takeS2_26 : decode cX3_takeS2 26 = .ok (.iconst 0, 1) := by decide +kernel
theorem dX3_takeS2_27 : decode cX3_takeS2 27 = .ok (.ireturn, 1) := by decide +kernel
theorem dX3_takeS2_28 : decode cX3_takeS2 28 = .ok (.aload_n 0, 1) := by decide +kernel
theorem dX3_takeS2_29 : decode cX3_takeS2 29 = .ok (.getfield 27, 3) := by decide +kernel
theorem dX3_takeS2_32 : decode cX3_takeS2 32 = .ok (.aload_n 0, 1) := by decide +kernel
theorem dX3_takeS2_33 : decode cX3_takeS2 33 = .ok (.getfield 63, 3) := by decide +kernel
theorem dX3_takeS2_36 : decode cX3_takeS2 36 = .ok (.iconst 2, 1) := by decide +kernel
theorem dX3_takeS2_37 : decode cX3_takeS2 37 = .ok (.isub, 1) := by decide +kernel
theorem dX3_takeS2_38 : decode cX3_takeS2 38 = .ok (.invokevirtual 49, 3) := by decide +kernel
theorem dX3_takeS2_41 : decode cX3_takeS2 41 = .ok (.ireturn, 1) := by decide +kernel
def F_X3_takeS2  (V : sv_V) : Option (Int32 × sv_V) := sx_let (sv_I V 16 4 ((V.1 16 4) + (2 : Int32))) (fun V1 => if (V1.1 16 4) ≤ (V1.1 16 5) then ((F_X2_s2 ((V1.1 16 4) - (2 : Int32)) V1).bind (fun (x5, V3) => some (x5, V3))) else (sx_let (sv_I V1 16 6 (1 : Int32)) (fun V6 => some ((0 : Int32), V6))))
set_option maxRecDepth 20000 in
theorem t_X3_takeS2 {g : sx_G} (hG : sx_Go g) {P : Option Value → sv_V → Prop} {r : Int32} {Vr : sv_V} (hP : P (some (.int r)) Vr)  {V : sv_V} (h : F_X3_takeS2  V = some (r, Vr)) : sv_N g qX3_takeS2 1 0 [(0, .ref 16)] [] V P := by
  unfold F_X3_takeS2 at h
  refine sx_aload_n (pc := 0) dX3_takeS2_0 sx_m0 ?_
  refine sx_dup (pc := 1) dX3_takeS2_1 rfl ?_
  refine sv_getI (pc := 2) hG dX3_takeS2_2 f_3_63 lay_16 rfl ?_
  refine sx_iconst (pc := 5) (v := 2) dX3_takeS2_5 (by decide) ?_
  refine sx_iadd (pc := 6) dX3_takeS2_6 ?_
  obtain ⟨V1, hV1⟩ : ∃ z : sv_V, z = sv_I V 16 4 ((V.1 16 4) + (2 : Int32)) := ⟨_, rfl⟩
  have h := sx_letE hV1 h
  refine sv_putI (pc := 7) hG dX3_takeS2_7 f_3_63 lay_16 rfl hV1 ?_
  refine sx_aload_n (pc := 10) dX3_takeS2_10 sx_m0 ?_
  refine sv_getI (pc := 11) hG dX3_takeS2_11 f_3_63 lay_16 rfl ?_
  refine sx_aload_n (pc := 14) dX3_takeS2_14 sx_m0 ?_
  refine sv_getI (pc := 15) hG dX3_takeS2_15 f_3_66 lay_16 rfl ?_
  refine sx_icmp_le (pc := 18) (tgt := 28) dX3_takeS2_18 (by decide) (fun c2 => ?_) (fun c2 => ?_)
  · have h := sx_pos c2 h
    refine sx_aload_n (pc := 28) dX3_takeS2_28 sx_m0 ?_
    refine sv_getO (pc := 29) hG dX3_takeS2_29 f_3_27 lay_16 rfl cr_16_0 ?_
    refine sx_aload_n (pc := 32) dX3_takeS2_32 sx_m0 ?_
    refine sv_getI (pc := 33) hG dX3_takeS2_33 f_3_63 lay_16 rfl ?_
    refine sx_iconst (pc := 36) (v := 2) dX3_takeS2_36 (by decide) ?_
    refine sx_isub (pc := 37) dX3_takeS2_37 ?_
    obtain ⟨⟨x5, V3⟩, g4, h⟩ := sx_bnd h
    refine sv_cV (pc := 38) (y := qX2_s2) (o := (some (.int x5))) (as := [.int ((V1.1 16 4) - (2 : Int32))]) (V1 := V3) hG dX3_takeS2_38 l_X3_49 y0X2_s2 yvX2_s2 rfl (Nat.le_of_ble_eq_true rfl) lay_2 kr_2 (by decide) (Nat.le_of_ble_eq_true rfl) rfl rfl rfl (t_X2_s2 hG ⟨rfl, rfl⟩ g4) ?_
    exact sv_iret (pc := 41) dX3_takeS2_41 rfl h hP
  · have h := sx_neg c2 h
    refine sx_aload_n (pc := 21) dX3_takeS2_21 sx_m0 ?_
    refine sx_iconst (pc := 22) (v := 1) dX3_takeS2_22 (by decide) ?_
    obtain ⟨V6, hV6⟩ : ∃ z : sv_V, z = sv_I V1 16 6 (1 : Int32) := ⟨_, rfl⟩
    have h := sx_letE hV6 h
    refine sv_putZ (pc := 23) hG dX3_takeS2_23 f_3_69 lay_16 rfl rfl hV6 ?_
    refine sx_iconst (pc := 26) (v := 0) dX3_takeS2_26 (by decide) ?_
    exact sv_iret (pc := 27) dX3_takeS2_27 rfl h hP
theorem dX3_takeProgram_0 : decode cX3_takeProgram 0 = .ok (.aload_n 0, 1) := by decide +kernel
theorem dX3_takeProgram_1 : decode cX3_takeProgram 1 = .ok (.invokevirtual 89, 3) := by decide +kernel
theorem dX3_takeProgram_4 : decode cX3_takeProgram 4 = .ok (.istore_n 2, 1) := by decide +kernel
theorem dX3_takeProgram_5 : decode cX3_takeProgram 5 = .ok (.aload_n 0, 1) := by decide +kernel
theorem dX3_takeProgram_6 : decode cX3_takeProgram 6 = .ok (.getfield 69, 3) := by decide +kernel
theorem dX3_takeProgram_9 : decode cX3_takeProgram 9 = .ok (.ifCond .ne 23, 3) := by decide +kernel
theorem dX3_takeProgram_12 : decode cX3_takeProgram 12 = .ok (.iload_n 2, 1) := by decide +kernel
theorem dX3_takeProgram_13 : decode cX3_takeProgram 13 = .ok (.sipush 400, 3) := by decide +kernel
theorem dX3_takeProgram_16 : decode cX3_takeProgram 16 = .ok (.if_icmp .gt 16, 3) := by decide +kernel
theorem dX3_takeProgram_19 : decode cX3_takeProgram 19 = .ok (.aload_n 0, 1) := by decide +kernel
theorem dX3_takeProgram_20 : decode cX3_takeProgram 20 = .ok (.getfield 63, 3) := by decide +kernel
theorem dX3_takeProgram_23 : decode cX3_takeProgram 23 = .ok (.iload_n 2, 1) := by decide +kernel
theorem dX3_takeProgram_24 : decode cX3_takeProgram 24 = .ok (.iadd, 1) := by decide +kernel
theorem dX3_takeProgram_25 : decode cX3_takeProgram 25 = .ok (.aload_n 0, 1) := by decide +kernel
theorem dX3_takeProgram_26 : decode cX3_takeProgram 26 = .ok (.getfield 66, 3) := by decide +kernel
theorem dX3_takeProgram_29 : decode cX3_takeProgram 29 = .ok (.if_icmp .le 5, 3) := by decide +kernel
theorem dX3_takeProgram_32 : decode cX3_takeProgram 32 = .ok (.iconst 0, 1) := by decide +kernel
theorem dX3_takeProgram_33 : decode cX3_takeProgram 33 = .ok (.ireturn, 1) := by decide +kernel
theorem dX3_takeProgram_34 : decode cX3_takeProgram 34 = .ok (.aload_n 0, 1) := by decide +kernel
theorem dX3_takeProgram_35 : decode cX3_takeProgram 35 = .ok (.getfield 27, 3) := by decide +kernel
theorem dX3_takeProgram_38 : decode cX3_takeProgram 38 = .ok (.getfield 45, 3) := by decide +kernel
theorem dX3_takeProgram_41 : decode cX3_takeProgram 41 = .ok (.bipush 6, 2) := by decide +kernel
theorem dX3_takeProgram_43 : decode cX3_takeProgram 43 = .ok (.aaload, 1) := by decide +kernel
theorem dX3_takeProgram_44 : decode cX3_takeProgram 44 = .ok (.iload_n 1, 1) := by decide +kernel
theorem dX3_takeProgram_45 : decode cX3_takeProgram 45 = .ok (.aload_n 0, 1) := by decide +kernel
theorem dX3_takeProgram_46 : decode cX3_takeProgram 46 = .ok (.getfield 63, 3) := by decide +kernel
theorem dX3_takeProgram_49 : decode cX3_takeProgram 49 = .ok (.iastore, 1) := by decide +kernel
theorem dX3_takeProgram_50 : decode cX3_takeProgram 50 = .ok (.aload_n 0, 1) := by decide +kernel
theorem dX3_takeProgram_51 : decode cX3_takeProgram 51 = .ok (.getfield 27, 3) := by decide +kernel
theorem dX3_takeProgram_54 : decode cX3_takeProgram 54 = .ok (.getfield 45, 3) := by decide +kernel
theorem dX3_takeProgram_57 : decode cX3_takeProgram 57 = .ok (.bipush 7, 2) := by decide +kernel
theorem dX3_takeProgram_59 : decode cX3_takeProgram 59 = .ok (.aaload, 1) := by decide +kernel
theorem dX3_takeProgram_60 : decode cX3_takeProgram 60 = .ok (.iload_n 1, 1) := by decide +kernel
theorem dX3_takeProgram_61 : decode cX3_takeProgram 61 = .ok (.iload_n 2, 1) := by decide +kernel
theorem dX3_takeProgram_62 : decode cX3_takeProgram 62 = .ok (.iastore, 1) := by decide +kernel
theorem dX3_takeProgram_63 : decode cX3_takeProgram 63 = .ok (.aload_n 0, 1) := by decide +kernel
theorem dX3_takeProgram_64 : decode cX3_takeProgram 64 = .ok (.dup, 1) := by decide +kernel
theorem dX3_takeProgram_65 : decode cX3_takeProgram 65 = .ok (.getfield 63, 3) := by decide +kernel
theorem dX3_takeProgram_68 : decode cX3_takeProgram 68 = .ok (.iload_n 2, 1) := by decide +kernel
theorem dX3_takeProgram_69 : decode cX3_takeProgram 69 = .ok (.iadd, 1) := by decide +kernel
theorem dX3_takeProgram_70 : decode cX3_takeProgram 70 = .ok (.putfield 63, 3) := by decide +kernel
theorem dX3_takeProgram_73 : decode cX3_takeProgram 73 = .ok (.iconst 1, 1) := by decide +kernel
theorem dX3_takeProgram_74 : decode cX3_takeProgram 74 = .ok (.ireturn, 1) := by decide +kernel
def F_X3_takeProgram (l1 : Int32) (V : sv_V) : Option (Int32 × sv_V) := (F_X3_takeU2  V).bind (fun (x3, V1) => if (V1.1 16 6) = 0 then (if (400 : Int32) < x3 then (some ((0 : Int32), V1)) else (if ((V1.1 16 4) + x3) ≤ (V1.1 16 5) then ((cr 7 (6 : Int32).toNatClampNeg).bind (fun b7 => (sv_len 0 b7).bind (fun n9 => if sx_in l1 n9 = true then sx_let (sv_I V1 b7 l1.toNatClampNeg (V1.1 16 4)) (fun V12 => (cr 7 (7 : Int32).toNatClampNeg).bind (fun b13 => (sv_len 0 b13).bind (fun n15 => if sx_in l1 n15 = true then sx_let (sv_I V12 b13 l1.toNatClampNeg x3) (fun V18 => sx_let (sv_I V18 16 4 ((V18.1 16 4) + x3)) (fun V19 => some ((1 : Int32), V19))) else none))) else none))) else (some ((0 : Int32), V1)))) else (some ((0 : Int32), V1)))
set_option maxRecDepth 20000 in
theorem t_X3_takeProgram {g : sx_G} (hG : sx_Go g) {P : Option Value → sv_V → Prop} {r : Int32} {Vr : sv_V} (hP : P (some (.int r)) Vr) {l1 : Int32} {V : sv_V} (h : F_X3_takeProgram l1 V = some (r, Vr)) : sv_N g qX3_takeProgram 2 0 [(0, .ref 16), (1, .int l1)] [] V P := by
  unfold F_X3_takeProgram at h
  refine sx_aload_n (pc := 0) dX3_takeProgram_0 sx_m0 ?_
  obtain ⟨⟨x3, V1⟩, g2, h⟩ := sx_bnd h
  refine sv_cV (pc := 1) (y := qX3_takeU2) (o := (some (.int x3))) (as := []) (V1 := V1) hG dX3_takeProgram_1 l_X3_89 y0X3_takeU2 yvX3_takeU2 rfl (Nat.le_of_ble_eq_true rfl) lay_16 kr_3 (by decide) (Nat.le_of_ble_eq_true rfl) rfl rfl rfl (t_X3_takeU2 hG ⟨rfl, rfl⟩ g2) ?_
  refine sx_istore_n (pc := 4) (lo' := [(2, .int x3), (0, .ref 16), (1, .int l1)]) dX3_takeProgram_4 (by decide) rfl ?_
  refine sx_aload_n (pc := 5) dX3_takeProgram_5 sx_m1 ?_
  refine sv_getZ (pc := 6) hG dX3_takeProgram_6 f_3_69 lay_16 rfl ?_
  refine sx_if_ne (pc := 9) (tgt := 32) dX3_takeProgram_9 (by decide) (fun c4 => ?_) (fun c4 => ?_)
  · have h := sx_neg c4 h
    refine sx_iconst (pc := 32) (v := 0) dX3_takeProgram_32 (by decide) ?_
    exact sv_zret (pc := 33) dX3_takeProgram_33 rfl rfl h hP
  · have h := sx_pos c4 h
    refine sx_iload_n (pc := 12) dX3_takeProgram_12 sx_m0 ?_
    refine sx_sipush (pc := 13) (v := 400) dX3_takeProgram_13 (by decide) ?_
    refine sx_icmp_gt (pc := 16) (tgt := 32) dX3_takeProgram_16 (by decide) (fun c5 => ?_) (fun c5 => ?_)
    · have h := sx_pos c5 h
      refine sx_iconst (pc := 32) (v := 0) dX3_takeProgram_32 (by decide) ?_
      exact sv_zret (pc := 33) dX3_takeProgram_33 rfl rfl h hP
    · have h := sx_neg c5 h
      refine sx_aload_n (pc := 19) dX3_takeProgram_19 sx_m1 ?_
      refine sv_getI (pc := 20) hG dX3_takeProgram_20 f_3_63 lay_16 rfl ?_
      refine sx_iload_n (pc := 23) dX3_takeProgram_23 sx_m0 ?_
      refine sx_iadd (pc := 24) dX3_takeProgram_24 ?_
      refine sx_aload_n (pc := 25) dX3_takeProgram_25 sx_m1 ?_
      refine sv_getI (pc := 26) hG dX3_takeProgram_26 f_3_66 lay_16 rfl ?_
      refine sx_icmp_le (pc := 29) (tgt := 34) dX3_takeProgram_29 (by decide) (fun c6 => ?_) (fun c6 => ?_)
      · have h := sx_pos c6 h
        refine sx_aload_n (pc := 34) dX3_takeProgram_34 sx_m1 ?_
        refine sv_getO (pc := 35) hG dX3_takeProgram_35 f_3_27 lay_16 rfl cr_16_0 ?_
        refine sv_getA (pc := 38) hG dX3_takeProgram_38 f_3_45 lay_2 rfl cr_2_16 ?_
        refine sx_bipush (pc := 41) (v := 6) dX3_takeProgram_41 (by decide) ?_
        obtain ⟨b7, g8, h⟩ := sx_bnd h
        refine sv_aald (pc := 43) hG dX3_takeProgram_43 (by decide) lay_7 (by decide) g8 ?_
        refine sx_iload_n (pc := 44) dX3_takeProgram_44 sx_m2 ?_
        refine sx_aload_n (pc := 45) dX3_takeProgram_45 sx_m1 ?_
        refine sv_getI (pc := 46) hG dX3_takeProgram_46 f_3_63 lay_16 rfl ?_
        obtain ⟨n9, g10, h⟩ := sx_bnd h
        obtain ⟨g11, h⟩ := sx_grd h
        obtain ⟨V12, hV12⟩ : ∃ z : sv_V, z = sv_I V1 b7 l1.toNatClampNeg (V1.1 16 4) := ⟨_, rfl⟩
        have h := sx_letE hV12 h
        refine sv_iast (pc := 49) hG dX3_takeProgram_49 (sv_len_e g10) g11 hV12 ?_
        refine sx_aload_n (pc := 50) dX3_takeProgram_50 sx_m1 ?_
        refine sv_getO (pc := 51) hG dX3_takeProgram_51 f_3_27 lay_16 rfl cr_16_0 ?_
        refine sv_getA (pc := 54) hG dX3_takeProgram_54 f_3_45 lay_2 rfl cr_2_16 ?_
        refine sx_bipush (pc := 57) (v := 7) dX3_takeProgram_57 (by decide) ?_
        obtain ⟨b13, g14, h⟩ := sx_bnd h
        refine sv_aald (pc := 59) hG dX3_takeProgram_59 (by decide) lay_7 (by decide) g14 ?_
        refine sx_iload_n (pc := 60) dX3_takeProgram_60 sx_m2 ?_
        refine sx_iload_n (pc := 61) dX3_takeProgram_61 sx_m0 ?_
        obtain ⟨n15, g16, h⟩ := sx_bnd h
        obtain ⟨g17, h⟩ := sx_grd h
        obtain ⟨V18, hV18⟩ : ∃ z : sv_V, z = sv_I V12 b13 l1.toNatClampNeg x3 := ⟨_, rfl⟩
        have h := sx_letE hV18 h
        refine sv_iast (pc := 62) hG dX3_takeProgram_62 (sv_len_e g16) g17 hV18 ?_
        refine sx_aload_n (pc := 63) dX3_takeProgram_63 sx_m1 ?_
        refine sx_dup (pc := 64) dX3_takeProgram_64 rfl ?_
        refine sv_getI (pc := 65) hG dX3_takeProgram_65 f_3_63 lay_16 rfl ?_
        refine sx_iload_n (pc := 68) dX3_takeProgram_68 sx_m0 ?_
        refine sx_iadd (pc := 69) dX3_takeProgram_69 ?_
        obtain ⟨V19, hV19⟩ : ∃ z : sv_V, z = sv_I V18 16 4 ((V18.1 16 4) + x3) := ⟨_, rfl⟩
        have h := sx_letE hV19 h
        refine sv_putI (pc := 70) hG dX3_takeProgram_70 f_3_63 lay_16 rfl hV19 ?_
        refine sx_iconst (pc := 73) (v := 1) dX3_takeProgram_73 (by decide) ?_
        exact sv_zret (pc := 74) dX3_takeProgram_74 rfl rfl h hP
      · have h := sx_neg c6 h
        refine sx_iconst (pc := 32) (v := 0) dX3_takeProgram_32 (by decide) ?_
        exact sv_zret (pc := 33) dX3_takeProgram_33 rfl rfl h hP
theorem dX3_takeFlags_0 : decode cX3_takeFlags 0 = .ok (.iconst 0, 1) := by decide +kernel
theorem dX3_takeFlags_1 : decode cX3_takeFlags 1 = .ok (.istore_n 2, 1) := by decide +kernel
theorem dX3_takeFlags_2 : decode cX3_takeFlags 2 = .ok (.iconst 0, 1) := by decide +kernel
theorem dX3_takeFlags_3 : decode cX3_takeFlags 3 = .ok (.istore_n 3, 1) := by decide +kernel
theorem dX3_takeFlags_4 : decode cX3_takeFlags 4 = .ok (.iload_n 3, 1) := by decide +kernel
theorem dX3_takeFlags_5 : decode cX3_takeFlags 5 = .ok (.iload_n 1, 1) := by decide +kernel
theorem dX3_takeFlags_6 : decode cX3_takeFlags 6 = .ok (.if_icmp .ge 89, 3) := by decide +kernel
theorem dX3_takeFlags_9 : decode cX3_takeFlags 9 = .ok (.iload_n 2, 1) := by decide +kernel
theorem dX3_takeFlags_10 : decode cX3_takeFlags 10 = .ok (.iload_n 1, 1) := by decide +kernel
theorem dX3_takeFlags_11 : decode cX3_takeFlags 11 = .ok (.if_icmp .ge 84, 3) := by decide +kernel
theorem dX3_takeFlags_14 : decode cX3_takeFlags 14 = .ok (.aload_n 0, 1) := by decide +kernel
theorem dX3_takeFlags_15 : decode cX3_takeFlags 15 = .ok (.invokevirtual 121, 3) := by decide +kernel
theorem dX3_takeFlags_18 : decode cX3_takeFlags 18 = .ok (.istore 4, 2) := by decide +kernel
theorem dX3_takeFlags_20 : decode cX3_takeFlags 20 = .ok (.iload 4, 2) := by decide +kernel
theorem dX3_takeFlags_22 : decode cX3_takeFlags 22 = .ok (.bipush 8, 2) := by decide +kernel
theorem dX3_takeFlags_24 : decode cX3_takeFlags 24 = .ok (.iand, 1) := by decide +kernel
theorem dX3_takeFlags_25 : decode cX3_takeFlags 25 = .ok (.ifCond .eq 10, 3) := by decide +kernel
theorem dX3_takeFlags_28 : decode cX3_takeFlags 28 = .ok (.aload_n 0, 1) := by decide +kernel
theorem dX3_takeFlags_29 : decode cX3_takeFlags 29 = .ok (.invokevirtual 121, 3) := by decide +kernel
theorem dX3_takeFlags_32 : decode cX3_takeFlags 32 = .ok (.goto 4, 3) := by decide +kernel
theorem dX3_takeFlags_35 : decode cX3_takeFlags 35 = .ok (.iconst 0, 1) := by decide +kernel
theorem dX3_takeFlags_36 : decode cX3_takeFlags 36 = .ok (.istore 5, 2) := by decide +kernel
theorem dX3_takeFlags_38 : decode cX3_takeFlags 38 = .ok (.aload_n 0, 1) := by decide +kernel
theorem dX3_takeFlags_39 : decode cX3_takeFlags 39 = .ok (.getfield 69, 3) := by decide +kernel
theorem dX3_takeFlags_42 : decode cX3_takeFlags 42 = .ok (.ifCond .ne 11, 3) := by decide +kernel
theorem dX3_takeFlags_45 : decode cX3_takeFlags 45 = .ok (.iload_n 2, 1) := by decide +kernel
theorem dX3_takeFlags_46 : decode cX3_takeFlags 46 = .ok (.iload 5, 2) := by decide +kernel
theorem dX3_takeFlags_48 : decode cX3_takeFlags 48 = .ok (.iadd, 1) := by decide +kernel
theorem dX3_takeFlags_49 : decode cX3_takeFlags 49 = .ok (.iload_n 1, 1) := by decide +kernel
theorem dX3_takeFlags_50 : decode cX3_takeFlags 50 = .ok (.if_icmp .lt 5, 3) := by decide +kernel
theorem dX3_takeFlags_53 : decode cX3_takeFlags 53 = .ok (.iconst 0, 1) := by decide +kernel
theorem dX3_takeFlags_54 : decode cX3_takeFlags 54 = .ok (.ireturn, 1) := by decide +kernel
theorem dX3_takeFlags_55 : decode cX3_takeFlags 55 = .ok (.iconst 0, 1) := by decide +kernel
theorem dX3_takeFlags_56 : decode cX3_takeFlags 56 = .ok (.istore 6, 2) := by decide +kernel
theorem dX3_takeFlags_58 : decode cX3_takeFlags 58 = .ok (.iload 6, 2) := by decide +kernel
theorem dX3_takeFlags_60 : decode cX3_takeFlags 60 = .ok (.iload 5, 2) := by decide +kernel
theorem dX3_takeFlags_62 : decode cX3_takeFlags 62 = .ok (.if_icmp .gt 20, 3) := by decide +kernel
theorem dX3_takeFlags_65 : decode cX3_takeFlags 65 = .ok (.aload_n 0, 1) := by decide +kernel
theorem dX3_takeFlags_66 : decode cX3_takeFlags 66 = .ok (.getfield 20, 3) := by decide +kernel
theorem dX3_takeFlags_69 : decode cX3_takeFlags 69 = .ok (.iload_n 2, 1) := by decide +kernel
theorem dX3_takeFlags_70 : decode cX3_takeFlags 70 = .ok (.iload 6, 2) := by decide +kernel
theorem dX3_takeFlags_72 : decode cX3_takeFlags 72 = .ok (.iadd, 1) := by decide +kernel
theorem dX3_takeFlags_73 : decode cX3_takeFlags 73 = .ok (.iload 4, 2) := by decide +kernel
theorem dX3_takeFlags_75 : decode cX3_takeFlags 75 = .ok (.iastore, 1) := by decide +kernel
theorem dX3_takeFlags_76 : decode cX3_takeFlags 76 = .ok (.iinc 6 1, 3) := by decide +kernel
theorem dX3_takeFlags_79 : decode cX3_takeFlags 79 = .ok (.goto (-21), 3) := by decide +kernel
theorem dX3_takeFlags_82 : decode cX3_takeFlags 82 = .ok (.iload_n 2, 1) := by decide +kernel
theorem dX3_takeFlags_83 : decode cX3_takeFlags 83 = .ok (.iload 5, 2) := by decide +kernel
theorem dX3_takeFlags_85 : decode cX3_takeFlags 85 = .ok (.iconst 1, 1) := by decide +kernel
theorem dX3_takeFlags_86 : decode cX3_takeFlags 86 = .ok (.iadd, 1) := by decide +kernel
theorem dX3_takeFlags_87 : decode cX3_takeFlags 87 = .ok (.iadd, 1) := by decide +kernel
theorem dX3_takeFlags_88 : decode cX3_takeFlags 88 = .ok (.istore_n 2, 1) := by decide +kernel
theorem dX3_takeFlags_89 : decode cX3_takeFlags 89 = .ok (.iinc 3 1, 3) := by decide +kernel
theorem dX3_takeFlags_92 : decode cX3_takeFlags 92 = .ok (.goto (-88), 3) := by decide +kernel
theorem dX3_takeFlags_95 : decode cX3_takeFlags 95 = .ok (.iconst 1, 1) := by decide +kernel
theorem dX3_takeFlags_96 : decode cX3_takeFlags 96 = .ok (.ireturn, 1) := by decide +kernel
def B_X3_takeFlags_58 (N : Nat) (k4 : Int32 → Int32 → Int32 → sv_V → Option (Int32 × sv_V)) (k58 : Int32 → Int32 → Int32 → Int32 → Int32 → Int32 → sv_V → Option (Int32 × sv_V)) (l1 : Int32) (l2 : Int32) (l3 : Int32) (l4 : Int32) (l5 : Int32) (l6 : Int32) (V : sv_V) : Option (Int32 × sv_V) := if l5 < l6 then (sx_let (l2 + (l5 + (1 : Int32))) (fun x2 => sx_let (l3 + 1) (fun x3 => k4 l1 x2 x3 V))) else (if sx_in (l2 + l6) 100 = true then sx_let (sv_I V 27 (l2 + l6).toNatClampNeg l4) (fun V5 => sx_let (l6 + 1) (fun x6 => k58 l1 l2 l3 l4 l5 x6 V5)) else none)
set_option maxRecDepth 20000 in
theorem tB_X3_takeFlags_58 {g : sx_G} (hG : sx_Go g) {P : Option Value → sv_V → Prop} {r : Int32} {Vr : sv_V} (hP : P (some (.int r)) Vr) {N : Nat} {k4 : Int32 → Int32 → Int32 → sv_V → Option (Int32 × sv_V)} {k58 : Int32 → Int32 → Int32 → Int32 → Int32 → Int32 → sv_V → Option (Int32 × sv_V)} (hk4 : ∀ (l1 : Int32) (l2 : Int32) (l3 : Int32) (V : sv_V), k4 l1 l2 l3 V = some (r, Vr) → sv_N g qX3_takeFlags 2 4 [(0, .ref 16), (1, .int l1), (2, .int l2), (3, .int l3)] [] V P) (hk58 : ∀ (l1 : Int32) (l2 : Int32) (l3 : Int32) (l4 : Int32) (l5 : Int32) (l6 : Int32) (V : sv_V), k58 l1 l2 l3 l4 l5 l6 V = some (r, Vr) → sv_N g qX3_takeFlags 2 58 [(0, .ref 16), (1, .int l1), (2, .int l2), (3, .int l3), (4, .int l4), (5, .int l5), (6, .int l6)] [] V P) {l1 : Int32} {l2 : Int32} {l3 : Int32} {l4 : Int32} {l5 : Int32} {l6 : Int32} {V : sv_V} (h : B_X3_takeFlags_58 N k4 k58 l1 l2 l3 l4 l5 l6 V = some (r, Vr)) : sv_N g qX3_takeFlags 2 58 [(0, .ref 16), (1, .int l1), (2, .int l2), (3, .int l3), (4, .int l4), (5, .int l5), (6, .int l6)] [] V P := by
  unfold B_X3_takeFlags_58 at h
  refine sx_iload (pc := 58) dX3_takeFlags_58 sx_m6 ?_
  refine sx_iload (pc := 60) dX3_takeFlags_60 sx_m5 ?_
  refine sx_icmp_gt (pc := 62) (tgt := 82) dX3_takeFlags_62 (by decide) (fun c1 => ?_) (fun c1 => ?_)
  · have h := sx_pos c1 h
    refine sx_iload_n (pc := 82) dX3_takeFlags_82 sx_m2 ?_
    refine sx_iload (pc := 83) dX3_takeFlags_83 sx_m5 ?_
    refine sx_iconst (pc := 85) (v := 1) dX3_takeFlags_85 (by decide) ?_
    refine sx_iadd (pc := 86) dX3_takeFlags_86 ?_
    refine sx_iadd (pc := 87) dX3_takeFlags_87 ?_
    refine sv_tI (fun x2 hx2 => ?_)
    have h := sx_letE hx2 h
    refine sx_istore_n (pc := 88) (lo' := [(2, .int x2), (0, .ref 16), (1, .int l1), (3, .int l3), (4, .int l4), (5, .int l5), (6, .int l6)]) dX3_takeFlags_88 (by decide) rfl ?_
    obtain ⟨x3, hx3⟩ : ∃ z : Int32, z = l3 + 1 := ⟨_, rfl⟩
    have h := sx_letE hx3 h
    refine sx_iinc (pc := 89) (v := x3) (lo' := [(3, .int x3), (2, .int x2), (0, .ref 16), (1, .int l1), (4, .int l4), (5, .int l5), (6, .int l6)]) dX3_takeFlags_89 sx_m3 (by rw [hx3]; rfl) (by decide) rfl ?_
    refine sx_goto (pc := 92) (tgt := 4) dX3_takeFlags_92 (by decide) ?_
    refine sx_wk (sx_s1 sx_m2 (sx_s1 sx_m3 (sx_s1 sx_m1 (sx_s1 sx_m0 sx_s0)))) ?_
    exact hk4 _ _ _ _ h
  · have h := sx_neg c1 h
    refine sx_aload_n (pc := 65) dX3_takeFlags_65 sx_m0 ?_
    refine sv_getA (pc := 66) hG dX3_takeFlags_66 f_3_20 lay_16 rfl cr_16_2 ?_
    refine sx_iload_n (pc := 69) dX3_takeFlags_69 sx_m2 ?_
    refine sx_iload (pc := 70) dX3_takeFlags_70 sx_m6 ?_
    refine sx_iadd (pc := 72) dX3_takeFlags_72 ?_
    refine sx_iload (pc := 73) dX3_takeFlags_73 sx_m4 ?_
    obtain ⟨g4, h⟩ := sx_grd h
    obtain ⟨V5, hV5⟩ : ∃ z : sv_V, z = sv_I V 27 (l2 + l6).toNatClampNeg l4 := ⟨_, rfl⟩
    have h := sx_letE hV5 h
    refine sv_iast (pc := 75) hG dX3_takeFlags_75 lay_27 g4 hV5 ?_
    obtain ⟨x6, hx6⟩ : ∃ z : Int32, z = l6 + 1 := ⟨_, rfl⟩
    have h := sx_letE hx6 h
    refine sx_iinc (pc := 76) (v := x6) (lo' := [(6, .int x6), (0, .ref 16), (1, .int l1), (2, .int l2), (3, .int l3), (4, .int l4), (5, .int l5)]) dX3_takeFlags_76 sx_m6 (by rw [hx6]; rfl) (by decide) rfl ?_
    refine sx_goto (pc := 79) (tgt := 58) dX3_takeFlags_79 (by decide) ?_
    refine sx_wk (sx_s1 sx_m1 (sx_s1 sx_m2 (sx_s1 sx_m3 (sx_s1 sx_m4 (sx_s1 sx_m5 (sx_s1 sx_m6 (sx_s1 sx_m0 sx_s0))))))) ?_
    exact hk58 _ _ _ _ _ _ _ h
theorem tL_X3_takeFlags_58 {g : sx_G} (hG : sx_Go g) {P : Option Value → sv_V → Prop} {r : Int32} {Vr : sv_V} (hP : P (some (.int r)) Vr) {N : Nat} {k4 : Int32 → Int32 → Int32 → sv_V → Option (Int32 × sv_V)} (hk4 : ∀ (l1 : Int32) (l2 : Int32) (l3 : Int32) (V : sv_V), k4 l1 l2 l3 V = some (r, Vr) → sv_N g qX3_takeFlags 2 4 [(0, .ref 16), (1, .int l1), (2, .int l2), (3, .int l3)] [] V P) : ∀ (n : Nat) (l1 : Int32) (l2 : Int32) (l3 : Int32) (l4 : Int32) (l5 : Int32) (l6 : Int32) (V : sv_V), sx_lp7 (B_X3_takeFlags_58 N k4) n l1 l2 l3 l4 l5 l6 V = some (r, Vr) → sv_N g qX3_takeFlags 2 58 [(0, .ref 16), (1, .int l1), (2, .int l2), (3, .int l3), (4, .int l4), (5, .int l5), (6, .int l6)] [] V P :=
  sx_lp7_ind (fun k0 ih _ _ _ _ _ _ V h => tB_X3_takeFlags_58 hG hP hk4 ih h)
def B_X3_takeFlags_36 (N : Nat) (k4 : Int32 → Int32 → Int32 → sv_V → Option (Int32 × sv_V)) (l1 : Int32) (l2 : Int32) (l3 : Int32) (l4 : Int32) (s0 : Int32) (V : sv_V) : Option (Int32 × sv_V) := if (V.1 16 6) = 0 then (if (l2 + s0) < l1 then (sx_lp7 (B_X3_takeFlags_58 N k4) N l1 l2 l3 l4 s0 (0 : Int32) V) else (some ((0 : Int32), V))) else (some ((0 : Int32), V))
set_option maxRecDepth 20000 in
theorem tB_X3_takeFlags_36 {g : sx_G} (hG : sx_Go g) {P : Option Value → sv_V → Prop} {r : Int32} {Vr : sv_V} (hP : P (some (.int r)) Vr) {N : Nat} {k4 : Int32 → Int32 → Int32 → sv_V → Option (Int32 × sv_V)} (hk4 : ∀ (l1 : Int32) (l2 : Int32) (l3 : Int32) (V : sv_V), k4 l1 l2 l3 V = some (r, Vr) → sv_N g qX3_takeFlags 2 4 [(0, .ref 16), (1, .int l1), (2, .int l2), (3, .int l3)] [] V P) {l1 : Int32} {l2 : Int32} {l3 : Int32} {l4 : Int32} {s0 : Int32} {V : sv_V} (h : B_X3_takeFlags_36 N k4 l1 l2 l3 l4 s0 V = some (r, Vr)) : sv_N g qX3_takeFlags 2 36 [(0, .ref 16), (1, .int l1), (2, .int l2), (3, .int l3), (4, .int l4)] [.int s0] V P := by
  unfold B_X3_takeFlags_36 at h
  refine sx_istore (pc := 36) (lo' := [(5, .int s0), (0, .ref 16), (1, .int l1), (2, .int l2), (3, .int l3), (4, .int l4)]) dX3_takeFlags_36 (by decide) rfl ?_
  refine sx_aload_n (pc := 38) dX3_takeFlags_38 sx_m1 ?_
  refine sv_getZ (pc := 39) hG dX3_takeFlags_39 f_3_69 lay_16 rfl ?_
  refine sx_if_ne (pc := 42) (tgt := 53) dX3_takeFlags_42 (by decide) (fun c7 => ?_) (fun c7 => ?_)
  · have h := sx_neg c7 h
    refine sx_iconst (pc := 53) (v := 0) dX3_takeFlags_53 (by decide) ?_
    exact sv_zret (pc := 54) dX3_takeFlags_54 rfl rfl h hP
  · have h := sx_pos c7 h
    refine sx_iload_n (pc := 45) dX3_takeFlags_45 sx_m3 ?_
    refine sx_iload (pc := 46) dX3_takeFlags_46 sx_m0 ?_
    refine sx_iadd (pc := 48) dX3_takeFlags_48 ?_
    refine sx_iload_n (pc := 49) dX3_takeFlags_49 sx_m2 ?_
    refine sx_icmp_lt (pc := 50) (tgt := 55) dX3_takeFlags_50 (by decide) (fun c8 => ?_) (fun c8 => ?_)
    · have h := sx_pos c8 h
      refine sx_iconst (pc := 55) (v := 0) dX3_takeFlags_55 (by decide) ?_
      refine sx_istore (pc := 56) (lo' := [(6, .int (0 : Int32)), (5, .int s0), (0, .ref 16), (1, .int l1), (2, .int l2), (3, .int l3), (4, .int l4)]) dX3_takeFlags_56 (by decide) rfl ?_
      refine sx_wk (sx_s1 sx_m2 (sx_s1 sx_m3 (sx_s1 sx_m4 (sx_s1 sx_m5 (sx_s1 sx_m6 (sx_s1 sx_m1 (sx_s1 sx_m0 sx_s0))))))) ?_
      exact tL_X3_takeFlags_58 hG hP hk4 N _ _ _ _ _ _ _ h
    · have h := sx_neg c8 h
      refine sx_iconst (pc := 53) (v := 0) dX3_takeFlags_53 (by decide) ?_
      exact sv_zret (pc := 54) dX3_takeFlags_54 rfl rfl h hP
def B_X3_takeFlags_4 (N : Nat) (k4 : Int32 → Int32 → Int32 → sv_V → Option (Int32 × sv_V)) (l1 : Int32) (l2 : Int32) (l3 : Int32) (V : sv_V) : Option (Int32 × sv_V) := if l1 ≤ l3 then (some ((1 : Int32), V)) else (if l1 ≤ l2 then (some ((1 : Int32), V)) else ((F_X3_takeU1  V).bind (fun (x13, V11) => if (x13 &&& (8 : Int32)) = 0 then (B_X3_takeFlags_36 N k4 l1 l2 l3 x13 (0 : Int32) V11) else ((F_X3_takeU1  V11).bind (fun (x17, V15) => B_X3_takeFlags_36 N k4 l1 l2 l3 x13 x17 V15)))))
set_option maxRecDepth 20000 in
theorem tB_X3_takeFlags_4 {g : sx_G} (hG : sx_Go g) {P : Option Value → sv_V → Prop} {r : Int32} {Vr : sv_V} (hP : P (some (.int r)) Vr) {N : Nat} {k4 : Int32 → Int32 → Int32 → sv_V → Option (Int32 × sv_V)} (hk4 : ∀ (l1 : Int32) (l2 : Int32) (l3 : Int32) (V : sv_V), k4 l1 l2 l3 V = some (r, Vr) → sv_N g qX3_takeFlags 2 4 [(0, .ref 16), (1, .int l1), (2, .int l2), (3, .int l3)] [] V P) {l1 : Int32} {l2 : Int32} {l3 : Int32} {V : sv_V} (h : B_X3_takeFlags_4 N k4 l1 l2 l3 V = some (r, Vr)) : sv_N g qX3_takeFlags 2 4 [(0, .ref 16), (1, .int l1), (2, .int l2), (3, .int l3)] [] V P := by
  unfold B_X3_takeFlags_4 at h
  refine sx_iload_n (pc := 4) dX3_takeFlags_4 sx_m3 ?_
  refine sx_iload_n (pc := 5) dX3_takeFlags_5 sx_m1 ?_
  refine sx_icmp_ge (pc := 6) (tgt := 95) dX3_takeFlags_6 (by decide) (fun c9 => ?_) (fun c9 => ?_)
  · have h := sx_pos c9 h
    refine sx_iconst (pc := 95) (v := 1) dX3_takeFlags_95 (by decide) ?_
    exact sv_zret (pc := 96) dX3_takeFlags_96 rfl rfl h hP
  · have h := sx_neg c9 h
    refine sx_iload_n (pc := 9) dX3_takeFlags_9 sx_m2 ?_
    refine sx_iload_n (pc := 10) dX3_takeFlags_10 sx_m1 ?_
    refine sx_icmp_ge (pc := 11) (tgt := 95) dX3_takeFlags_11 (by decide) (fun c10 => ?_) (fun c10 => ?_)
    · have h := sx_pos c10 h
      refine sx_iconst (pc := 95) (v := 1) dX3_takeFlags_95 (by decide) ?_
      exact sv_zret (pc := 96) dX3_takeFlags_96 rfl rfl h hP
    · have h := sx_neg c10 h
      refine sx_aload_n (pc := 14) dX3_takeFlags_14 sx_m0 ?_
      obtain ⟨⟨x13, V11⟩, g12, h⟩ := sx_bnd h
      refine sv_cV (pc := 15) (y := qX3_takeU1) (o := (some (.int x13))) (as := []) (V1 := V11) hG dX3_takeFlags_15 l_X3_121 y0X3_takeU1 yvX3_takeU1 rfl (Nat.le_of_ble_eq_true rfl) lay_16 kr_3 (by decide) (Nat.le_of_ble_eq_true rfl) rfl rfl rfl (t_X3_takeU1 hG ⟨rfl, rfl⟩ g12) ?_
      refine sx_istore (pc := 18) (lo' := [(4, .int x13), (0, .ref 16), (1, .int l1), (2, .int l2), (3, .int l3)]) dX3_takeFlags_18 (by decide) rfl ?_
      refine sx_iload (pc := 20) dX3_takeFlags_20 sx_m0 ?_
      refine sx_bipush (pc := 22) (v := 8) dX3_takeFlags_22 (by decide) ?_
      refine sx_iand (pc := 24) dX3_takeFlags_24 ?_
      refine sx_if_eq (pc := 25) (tgt := 35) dX3_takeFlags_25 (by decide) (fun c14 => ?_) (fun c14 => ?_)
      · have h := sx_pos c14 h
        refine sx_iconst (pc := 35) (v := 0) dX3_takeFlags_35 (by decide) ?_
        refine sx_wk (sx_s1 sx_m1 (sx_s1 sx_m2 (sx_s1 sx_m3 (sx_s1 sx_m4 (sx_s1 sx_m0 sx_s0))))) ?_
        exact tB_X3_takeFlags_36 hG hP hk4 h
      · have h := sx_neg c14 h
        refine sx_aload_n (pc := 28) dX3_takeFlags_28 sx_m1 ?_
        obtain ⟨⟨x17, V15⟩, g16, h⟩ := sx_bnd h
        refine sv_cV (pc := 29) (y := qX3_takeU1) (o := (some (.int x17))) (as := []) (V1 := V15) hG dX3_takeFlags_29 l_X3_121 y0X3_takeU1 yvX3_takeU1 rfl (Nat.le_of_ble_eq_true rfl) lay_16 kr_3 (by decide) (Nat.le_of_ble_eq_true rfl) rfl rfl rfl (t_X3_takeU1 hG ⟨rfl, rfl⟩ g16) ?_
        refine sx_goto (pc := 32) (tgt := 36) dX3_takeFlags_32 (by decide) ?_
        refine sx_wk (sx_s1 sx_m1 (sx_s1 sx_m2 (sx_s1 sx_m3 (sx_s1 sx_m4 (sx_s1 sx_m0 sx_s0))))) ?_
        exact tB_X3_takeFlags_36 hG hP hk4 h
theorem tL_X3_takeFlags_4 {g : sx_G} (hG : sx_Go g) {P : Option Value → sv_V → Prop} {r : Int32} {Vr : sv_V} (hP : P (some (.int r)) Vr) {N : Nat}   : ∀ (n : Nat) (l1 : Int32) (l2 : Int32) (l3 : Int32) (V : sv_V), sx_lp4 (B_X3_takeFlags_4 N ) n l1 l2 l3 V = some (r, Vr) → sv_N g qX3_takeFlags 2 4 [(0, .ref 16), (1, .int l1), (2, .int l2), (3, .int l3)] [] V P :=
  sx_lp4_ind (fun k0 ih _ _ _ V h => tB_X3_takeFlags_4 hG hP ih h)
def F_X3_takeFlags (N : Nat) (l1 : Int32) (V : sv_V) : Option (Int32 × sv_V) := sx_lp4 (B_X3_takeFlags_4 N ) N l1 (0 : Int32) (0 : Int32) V
set_option maxRecDepth 20000 in
theorem t_X3_takeFlags {g : sx_G} (hG : sx_Go g) {P : Option Value → sv_V → Prop} {r : Int32} {Vr : sv_V} (hP : P (some (.int r)) Vr) {N : Nat} {l1 : Int32} {V : sv_V} (h : F_X3_takeFlags N l1 V = some (r, Vr)) : sv_N g qX3_takeFlags 2 0 [(0, .ref 16), (1, .int l1)] [] V P := by
  unfold F_X3_takeFlags at h
  refine sx_iconst (pc := 0) (v := 0) dX3_takeFlags_0 (by decide) ?_
  refine sx_istore_n (pc := 1) (lo' := [(2, .int (0 : Int32)), (0, .ref 16), (1, .int l1)]) dX3_takeFlags_1 (by decide) rfl ?_
  refine sx_iconst (pc := 2) (v := 0) dX3_takeFlags_2 (by decide) ?_
  refine sx_istore_n (pc := 3) (lo' := [(3, .int (0 : Int32)), (2, .int (0 : Int32)), (0, .ref 16), (1, .int l1)]) dX3_takeFlags_3 (by decide) rfl ?_
  refine sx_wk (sx_s1 sx_m2 (sx_s1 sx_m3 (sx_s1 sx_m1 (sx_s1 sx_m0 sx_s0)))) ?_
  exact tL_X3_takeFlags_4 hG hP  N _ _ _ _ h
theorem dX3_takePlaces_0 : decode cX3_takePlaces 0 = .ok (.iconst 0, 1) := by decide +kernel
theorem dX3_takePlaces_1 : decode cX3_takePlaces 1 = .ok (.istore 5, 2) := by decide +kernel
theorem dX3_takePlaces_3 : decode cX3_takePlaces 3 = .ok (.iconst 0, 1) := by decide +kernel
theorem dX3_takePlaces_4 : decode cX3_takePlaces 4 = .ok (.istore 6, 2) := by decide +kernel
theorem dX3_takePlaces_6 : decode cX3_takePlaces 6 = .ok (.iload 6, 2) := by decide +kernel
theorem dX3_takePlaces_8 : decode cX3_takePlaces 8 = .ok (.iload_n 2, 1) := by decide +kernel
theorem dX3_takePlaces_9 : decode cX3_takePlaces 9 = .ok (.if_icmp .ge 88, 3) := by decide +kernel
theorem dX3_takePlaces_12 : decode cX3_takePlaces 12 = .ok (.aload_n 0, 1) := by decide +kernel
theorem dX3_takePlaces_13 : decode cX3_takePlaces 13 = .ok (.getfield 20, 3) := by decide +kernel
theorem dX3_takePlaces_16 : decode cX3_takePlaces 16 = .ok (.iload 6, 2) := by decide +kernel
theorem dX3_takePlaces_18 : decode cX3_takePlaces 18 = .ok (.iaload, 1) := by decide +kernel
theorem dX3_takePlaces_19 : decode cX3_takePlaces 19 = .ok (.iload 4, 2) := by decide +kernel
theorem dX3_takePlaces_21 : decode cX3_takePlaces 21 = .ok (.iand, 1) := by decide +kernel
theorem dX3_takePlaces_22 : decode cX3_takePlaces 22 = .ok (.ifCond .eq 7, 3) := by decide +kernel
theorem dX3_takePlaces_25 : decode cX3_takePlaces 25 = .ok (.iconst 1, 1) := by decide +kernel
theorem dX3_takePlaces_26 : decode cX3_takePlaces 26 = .ok (.goto 4, 3) := by decide +kernel
theorem dX3_takePlaces_29 : decode cX3_takePlaces 29 = .ok (.iconst 0, 1) := by decide +kernel
theorem dX3_takePlaces_30 : decode cX3_takePlaces 30 = .ok (.istore 7, 2) := by decide +kernel
theorem dX3_takePlaces_32 : decode cX3_takePlaces 32 = .ok (.aload_n 0, 1) := by decide +kernel
theorem dX3_takePlaces_33 : decode cX3_takePlaces 33 = .ok (.getfield 20, 3) := by decide +kernel
theorem dX3_takePlaces_36 : decode cX3_takePlaces 36 = .ok (.iload 6, 2) := by decide +kernel
theorem dX3_takePlaces_38 : decode cX3_takePlaces 38 = .ok (.iaload, 1) := by decide +kernel
theorem dX3_takePlaces_39 : decode cX3_takePlaces 39 = .ok (.iload_n 3, 1) := by decide +kernel
theorem dX3_takePlaces_40 : decode cX3_takePlaces 40 = .ok (.iand, 1) := by decide +kernel
theorem dX3_takePlaces_41 : decode cX3_takePlaces 41 = .ok (.ifCond .eq 30, 3) := by decide +kernel
theorem dX3_takePlaces_44 : decode cX3_takePlaces 44 = .ok (.aload_n 0, 1) := by decide +kernel
theorem dX3_takePlaces_45 : decode cX3_takePlaces 45 = .ok (.invokevirtual 121, 3) := by decide +kernel
theorem dX3_takePlaces_48 : decode cX3_takePlaces 48 = .ok (.istore 8, 2) := by decide +kernel
theorem dX3_takePlaces_50 : decode cX3_takePlaces 50 = .ok (.iload 5, 2) := by decide +kernel
theorem dX3_takePlaces_52 : decode cX3_takePlaces 52 = .ok (.iload 7, 2) := by decide +kernel
theorem dX3_takePlaces_54 : decode cX3_takePlaces 54 = .ok (.ifCond .eq 8, 3) := by decide +kernel
theorem dX3_takePlaces_57 : decode cX3_takePlaces 57 = .ok (.iload 8, 2) := by decide +kernel
theorem dX3_takePlaces_59 : decode cX3_takePlaces 59 = .ok (.goto 6, 3) := by decide +kernel
theorem dX3_takePlaces_62 : decode cX3_takePlaces 62 = .ok (.iload 8, 2) := by decide +kernel
theorem dX3_takePlaces_64 : decode cX3_takePlaces 64 = .ok (.ineg, 1) := by decide +kernel
theorem dX3_takePlaces_65 : decode cX3_takePlaces 65 = .ok (.iadd, 1) := by decide +kernel
theorem dX3_takePlaces_66 : decode cX3_takePlaces 66 = .ok (.istore 5, 2) := by decide +kernel
theorem dX3_takePlaces_68 : decode cX3_takePlaces 68 = .ok (.goto 17, 3) := by decide +kernel
theorem dX3_takePlaces_71 : decode cX3_takePlaces 71 = .ok (.iload 7, 2) := by decide +kernel
theorem dX3_takePlaces_73 : decode cX3_takePlaces 73 = .ok (.ifCond .ne 12, 3) := by decide +kernel
theorem dX3_takePlaces_76 : decode cX3_takePlaces 76 = .ok (.iload 5, 2) := by decide +kernel
theorem dX3_takePlaces_78 : decode cX3_takePlaces 78 = .ok (.aload_n 0, 1) := by decide +kernel
theorem dX3_takePlaces_79 : decode cX3_takePlaces 79 = .ok (.invokevirtual 124, 3) := by decide +kernel
theorem dX3_takePlaces_82 : decode cX3_takePlaces 82 = .ok (.iadd, 1) := by decide +kernel
theorem dX3_takePlaces_83 : decode cX3_takePlaces 83 = .ok (.istore 5, 2) := by decide +kernel
theorem dX3_takePlaces_85 : decode cX3_takePlaces 85 = .ok (.aload_n 1, 1) := by decide +kernel
theorem dX3_takePlaces_86 : decode cX3_takePlaces 86 = .ok (.iload 6, 2) := by decide +kernel
theorem dX3_takePlaces_88 : decode cX3_takePlaces 88 = .ok (.iload 5, 2) := by decide +kernel
theorem dX3_takePlaces_90 : decode cX3_takePlaces 90 = .ok (.iastore, 1) := by decide +kernel
theorem dX3_takePlaces_91 : decode cX3_takePlaces 91 = .ok (.iinc 6 1, 3) := by decide +kernel
theorem dX3_takePlaces_94 : decode cX3_takePlaces 94 = .ok (.goto (-88), 3) := by decide +kernel
theorem dX3_takePlaces_97 : decode cX3_takePlaces 97 = .ok (.return_, 1) := by decide +kernel
def B_X3_takePlaces_85 (N : Nat) (k6 : Nat → Int32 → Int32 → Int32 → Int32 → Int32 → sv_V → Option sv_V) (l1 : Nat) (l2 : Int32) (l3 : Int32) (l4 : Int32) (l5 : Int32) (l6 : Int32) (V : sv_V) : Option sv_V := (sv_len 0 l1).bind (fun n1 => if sx_in l6 n1 = true then sx_let (sv_I V l1 l6.toNatClampNeg l5) (fun V4 => sx_let (l6 + 1) (fun x5 => k6 l1 l2 l3 l4 l5 x5 V4)) else none)
set_option maxRecDepth 20000 in
theorem tB_X3_takePlaces_85 {g : sx_G} (hG : sx_Go g) {P : Option Value → sv_V → Prop} {Vr : sv_V} (hP : P none Vr) {N : Nat} {k6 : Nat → Int32 → Int32 → Int32 → Int32 → Int32 → sv_V → Option sv_V} (hk6 : ∀ (l1 : Nat) (l2 : Int32) (l3 : Int32) (l4 : Int32) (l5 : Int32) (l6 : Int32) (V : sv_V), k6 l1 l2 l3 l4 l5 l6 V = some Vr → sv_N g qX3_takePlaces 2 6 [(0, .ref 16), (1, .ref l1), (2, .int l2), (3, .int l3), (4, .int l4), (5, .int l5), (6, .int l6)] [] V P) {l1 : Nat} {l2 : Int32} {l3 : Int32} {l4 : Int32} {l5 : Int32} {l6 : Int32} {V : sv_V} (h : B_X3_takePlaces_85 N k6 l1 l2 l3 l4 l5 l6 V = some Vr) : sv_N g qX3_takePlaces 2 85 [(0, .ref 16), (1, .ref l1), (2, .int l2), (3, .int l3), (4, .int l4), (5, .int l5), (6, .int l6)] [] V P := by
  unfold B_X3_takePlaces_85 at h
  refine sx_aload_n (pc := 85) dX3_takePlaces_85 sx_m1 ?_
  refine sx_iload (pc := 86) dX3_takePlaces_86 sx_m6 ?_
  refine sx_iload (pc := 88) dX3_takePlaces_88 sx_m5 ?_
  obtain ⟨n1, g2, h⟩ := sx_bnd h
  obtain ⟨g3, h⟩ := sx_grd h
  obtain ⟨V4, hV4⟩ : ∃ z : sv_V, z = sv_I V l1 l6.toNatClampNeg l5 := ⟨_, rfl⟩
  have h := sx_letE hV4 h
  refine sv_iast (pc := 90) hG dX3_takePlaces_90 (sv_len_e g2) g3 hV4 ?_
  obtain ⟨x5, hx5⟩ : ∃ z : Int32, z = l6 + 1 := ⟨_, rfl⟩
  have h := sx_letE hx5 h
  refine sx_iinc (pc := 91) (v := x5) (lo' := [(6, .int x5), (0, .ref 16), (1, .ref l1), (2, .int l2), (3, .int l3), (4, .int l4), (5, .int l5)]) dX3_takePlaces_91 sx_m6 (by rw [hx5]; rfl) (by decide) rfl ?_
  refine sx_goto (pc := 94) (tgt := 6) dX3_takePlaces_94 (by decide) ?_
  refine sx_wk (sx_s1 sx_m1 (sx_s1 sx_m2 (sx_s1 sx_m3 (sx_s1 sx_m4 (sx_s1 sx_m5 (sx_s1 sx_m6 (sx_s1 sx_m0 sx_s0))))))) ?_
  exact hk6 _ _ _ _ _ _ _ h
def B_X3_takePlaces_65 (N : Nat) (k6 : Nat → Int32 → Int32 → Int32 → Int32 → Int32 → sv_V → Option sv_V) (l1 : Nat) (l2 : Int32) (l3 : Int32) (l4 : Int32) (l6 : Int32) (s0 : Int32) (s1 : Int32) (V : sv_V) : Option sv_V := sx_let (s0 + s1) (fun x6 => B_X3_takePlaces_85 N k6 l1 l2 l3 l4 x6 l6 V)
set_option maxRecDepth 20000 in
theorem tB_X3_takePlaces_65 {g : sx_G} (hG : sx_Go g) {P : Option Value → sv_V → Prop} {Vr : sv_V} (hP : P none Vr) {N : Nat} {k6 : Nat → Int32 → Int32 → Int32 → Int32 → Int32 → sv_V → Option sv_V} (hk6 : ∀ (l1 : Nat) (l2 : Int32) (l3 : Int32) (l4 : Int32) (l5 : Int32) (l6 : Int32) (V : sv_V), k6 l1 l2 l3 l4 l5 l6 V = some Vr → sv_N g qX3_takePlaces 2 6 [(0, .ref 16), (1, .ref l1), (2, .int l2), (3, .int l3), (4, .int l4), (5, .int l5), (6, .int l6)] [] V P) {l1 : Nat} {l2 : Int32} {l3 : Int32} {l4 : Int32} {l6 : Int32} {s0 : Int32} {s1 : Int32} {V : sv_V} (h : B_X3_takePlaces_65 N k6 l1 l2 l3 l4 l6 s0 s1 V = some Vr) : sv_N g qX3_takePlaces 2 65 [(0, .ref 16), (1, .ref l1), (2, .int l2), (3, .int l3), (4, .int l4), (6, .int l6)] [.int s1, .int s0] V P := by
  unfold B_X3_takePlaces_65 at h
  refine sx_iadd (pc := 65) dX3_takePlaces_65 ?_
  refine sv_tI (fun x6 hx6 => ?_)
  have h := sx_letE hx6 h
  refine sx_istore (pc := 66) (lo' := [(5, .int x6), (0, .ref 16), (1, .ref l1), (2, .int l2), (3, .int l3), (4, .int l4), (6, .int l6)]) dX3_takePlaces_66 (by decide) rfl ?_
  refine sx_goto (pc := 68) (tgt := 85) dX3_takePlaces_68 (by decide) ?_
  refine sx_wk (sx_s1 sx_m1 (sx_s1 sx_m2 (sx_s1 sx_m3 (sx_s1 sx_m4 (sx_s1 sx_m5 (sx_s1 sx_m0 (sx_s1 sx_m6 sx_s0))))))) ?_
  exact tB_X3_takePlaces_85 hG hP hk6 h
def B_X3_takePlaces_30 (N : Nat) (k6 : Nat → Int32 → Int32 → Int32 → Int32 → Int32 → sv_V → Option sv_V) (l1 : Nat) (l2 : Int32) (l3 : Int32) (l4 : Int32) (l5 : Int32) (l6 : Int32) (s0 : Int32) (V : sv_V) : Option sv_V := if sx_in l6 100 = true then if ((V.1 27 l6.toNatClampNeg) &&& l3) = 0 then (if s0 = 0 then ((F_X3_takeS2  V).bind (fun (x12, V10) => sx_let (l5 + x12) (fun x13 => B_X3_takePlaces_85 N k6 l1 l2 l3 l4 x13 l6 V10))) else (B_X3_takePlaces_85 N k6 l1 l2 l3 l4 l5 l6 V)) else ((F_X3_takeU1  V).bind (fun (x16, V14) => if s0 = 0 then (B_X3_takePlaces_65 N k6 l1 l2 l3 l4 l6 l5 (-x16) V14) else (B_X3_takePlaces_65 N k6 l1 l2 l3 l4 l6 l5 x16 V14))) else none
set_option maxRecDepth 20000 in
theorem tB_X3_takePlaces_30 {g : sx_G} (hG : sx_Go g) {P : Option Value → sv_V → Prop} {Vr : sv_V} (hP : P none Vr) {N : Nat} {k6 : Nat → Int32 → Int32 → Int32 → Int32 → Int32 → sv_V → Option sv_V} (hk6 : ∀ (l1 : Nat) (l2 : Int32) (l3 : Int32) (l4 : Int32) (l5 : Int32) (l6 : Int32) (V : sv_V), k6 l1 l2 l3 l4 l5 l6 V = some Vr → sv_N g qX3_takePlaces 2 6 [(0, .ref 16), (1, .ref l1), (2, .int l2), (3, .int l3), (4, .int l4), (5, .int l5), (6, .int l6)] [] V P) {l1 : Nat} {l2 : Int32} {l3 : Int32} {l4 : Int32} {l5 : Int32} {l6 : Int32} {s0 : Int32} {V : sv_V} (h : B_X3_takePlaces_30 N k6 l1 l2 l3 l4 l5 l6 s0 V = some Vr) : sv_N g qX3_takePlaces 2 30 [(0, .ref 16), (1, .ref l1), (2, .int l2), (3, .int l3), (4, .int l4), (5, .int l5), (6, .int l6)] [.int s0] V P := by
  unfold B_X3_takePlaces_30 at h
  refine sx_istore (pc := 30) (lo' := [(7, .int s0), (0, .ref 16), (1, .ref l1), (2, .int l2), (3, .int l3), (4, .int l4), (5, .int l5), (6, .int l6)]) dX3_takePlaces_30 (by decide) rfl ?_
  refine sx_aload_n (pc := 32) dX3_takePlaces_32 sx_m1 ?_
  refine sv_getA (pc := 33) hG dX3_takePlaces_33 f_3_20 lay_16 rfl cr_16_2 ?_
  refine sx_iload (pc := 36) dX3_takePlaces_36 sx_m7 ?_
  obtain ⟨g7, h⟩ := sx_grd h
  refine sv_iald (pc := 38) hG dX3_takePlaces_38 lay_27 g7 ?_
  refine sx_iload_n (pc := 39) dX3_takePlaces_39 sx_m4 ?_
  refine sx_iand (pc := 40) dX3_takePlaces_40 ?_
  refine sx_if_eq (pc := 41) (tgt := 71) dX3_takePlaces_41 (by decide) (fun c8 => ?_) (fun c8 => ?_)
  · have h := sx_pos c8 h
    refine sx_iload (pc := 71) dX3_takePlaces_71 sx_m0 ?_
    refine sx_if_ne (pc := 73) (tgt := 85) dX3_takePlaces_73 (by decide) (fun c9 => ?_) (fun c9 => ?_)
    · have h := sx_neg c9 h
      refine sx_wk (sx_s1 sx_m1 (sx_s1 sx_m2 (sx_s1 sx_m3 (sx_s1 sx_m4 (sx_s1 sx_m5 (sx_s1 sx_m6 (sx_s1 sx_m7 sx_s0))))))) ?_
      exact tB_X3_takePlaces_85 hG hP hk6 h
    · have h := sx_pos c9 h
      refine sx_iload (pc := 76) dX3_takePlaces_76 sx_m6 ?_
      refine sx_aload_n (pc := 78) dX3_takePlaces_78 sx_m1 ?_
      obtain ⟨⟨x12, V10⟩, g11, h⟩ := sx_bnd h
      refine sv_cV (pc := 79) (y := qX3_takeS2) (o := (some (.int x12))) (as := []) (V1 := V10) hG dX3_takePlaces_79 l_X3_124 y0X3_takeS2 yvX3_takeS2 rfl (Nat.le_of_ble_eq_true rfl) lay_16 kr_3 (by decide) (Nat.le_of_ble_eq_true rfl) rfl rfl rfl (t_X3_takeS2 hG ⟨rfl, rfl⟩ g11) ?_
      refine sx_iadd (pc := 82) dX3_takePlaces_82 ?_
      refine sv_tI (fun x13 hx13 => ?_)
      have h := sx_letE hx13 h
      refine sx_istore (pc := 83) (lo' := [(5, .int x13), (7, .int s0), (0, .ref 16), (1, .ref l1), (2, .int l2), (3, .int l3), (4, .int l4), (6, .int l6)]) dX3_takePlaces_83 (by decide) rfl ?_
      refine sx_wk (sx_s1 sx_m2 (sx_s1 sx_m3 (sx_s1 sx_m4 (sx_s1 sx_m5 (sx_s1 sx_m6 (sx_s1 sx_m0 (sx_s1 sx_m7 sx_s0))))))) ?_
      exact tB_X3_takePlaces_85 hG hP hk6 h
  · have h := sx_neg c8 h
    refine sx_aload_n (pc := 44) dX3_takePlaces_44 sx_m1 ?_
    obtain ⟨⟨x16, V14⟩, g15, h⟩ := sx_bnd h
    refine sv_cV (pc := 45) (y := qX3_takeU1) (o := (some (.int x16))) (as := []) (V1 := V14) hG dX3_takePlaces_45 l_X3_121 y0X3_takeU1 yvX3_takeU1 rfl (Nat.le_of_ble_eq_true rfl) lay_16 kr_3 (by decide) (Nat.le_of_ble_eq_true rfl) rfl rfl rfl (t_X3_takeU1 hG ⟨rfl, rfl⟩ g15) ?_
    refine sx_istore (pc := 48) (lo' := [(8, .int x16), (7, .int s0), (0, .ref 16), (1, .ref l1), (2, .int l2), (3, .int l3), (4, .int l4), (5, .int l5), (6, .int l6)]) dX3_takePlaces_48 (by decide) rfl ?_
    refine sx_iload (pc := 50) dX3_takePlaces_50 sx_m7 ?_
    refine sx_iload (pc := 52) dX3_takePlaces_52 sx_m1 ?_
    refine sx_if_eq (pc := 54) (tgt := 62) dX3_takePlaces_54 (by decide) (fun c17 => ?_) (fun c17 => ?_)
    · have h := sx_pos c17 h
      refine sx_iload (pc := 62) dX3_takePlaces_62 sx_m0 ?_
      refine sx_ineg (pc := 64) dX3_takePlaces_64 ?_
      refine sx_wk (sx_s1 sx_m2 (sx_s1 sx_m3 (sx_s1 sx_m4 (sx_s1 sx_m5 (sx_s1 sx_m6 (sx_s1 sx_m8 sx_s0)))))) ?_
      exact tB_X3_takePlaces_65 hG hP hk6 h
    · have h := sx_neg c17 h
      refine sx_iload (pc := 57) dX3_takePlaces_57 sx_m0 ?_
      refine sx_goto (pc := 59) (tgt := 65) dX3_takePlaces_59 (by decide) ?_
      refine sx_wk (sx_s1 sx_m2 (sx_s1 sx_m3 (sx_s1 sx_m4 (sx_s1 sx_m5 (sx_s1 sx_m6 (sx_s1 sx_m8 sx_s0)))))) ?_
      exact tB_X3_takePlaces_65 hG hP hk6 h
def B_X3_takePlaces_6 (N : Nat) (k6 : Nat → Int32 → Int32 → Int32 → Int32 → Int32 → sv_V → Option sv_V) (l1 : Nat) (l2 : Int32) (l3 : Int32) (l4 : Int32) (l5 : Int32) (l6 : Int32) (V : sv_V) : Option sv_V := if l2 ≤ l6 then (some V) else (if sx_in l6 100 = true then if ((V.1 27 l6.toNatClampNeg) &&& l4) = 0 then (B_X3_takePlaces_30 N k6 l1 l2 l3 l4 l5 l6 (0 : Int32) V) else (B_X3_takePlaces_30 N k6 l1 l2 l3 l4 l5 l6 (1 : Int32) V) else none)
set_option maxRecDepth 20000 in
theorem tB_X3_takePlaces_6 {g : sx_G} (hG : sx_Go g) {P : Option Value → sv_V → Prop} {Vr : sv_V} (hP : P none Vr) {N : Nat} {k6 : Nat → Int32 → Int32 → Int32 → Int32 → Int32 → sv_V → Option sv_V} (hk6 : ∀ (l1 : Nat) (l2 : Int32) (l3 : Int32) (l4 : Int32) (l5 : Int32) (l6 : Int32) (V : sv_V), k6 l1 l2 l3 l4 l5 l6 V = some Vr → sv_N g qX3_takePlaces 2 6 [(0, .ref 16), (1, .ref l1), (2, .int l2), (3, .int l3), (4, .int l4), (5, .int l5), (6, .int l6)] [] V P) {l1 : Nat} {l2 : Int32} {l3 : Int32} {l4 : Int32} {l5 : Int32} {l6 : Int32} {V : sv_V} (h : B_X3_takePlaces_6 N k6 l1 l2 l3 l4 l5 l6 V = some Vr) : sv_N g qX3_takePlaces 2 6 [(0, .ref 16), (1, .ref l1), (2, .int l2), (3, .int l3), (4, .int l4), (5, .int l5), (6, .int l6)] [] V P := by
  unfold B_X3_takePlaces_6 at h
  refine sx_iload (pc := 6) dX3_takePlaces_6 sx_m6 ?_
  refine sx_iload_n (pc := 8) dX3_takePlaces_8 sx_m2 ?_
  refine sx_icmp_ge (pc := 9) (tgt := 97) dX3_takePlaces_9 (by decide) (fun c18 => ?_) (fun c18 => ?_)
  · have h := sx_pos c18 h
    exact sv_vret (pc := 97) dX3_takePlaces_97 rfl h hP
  · have h := sx_neg c18 h
    refine sx_aload_n (pc := 12) dX3_takePlaces_12 sx_m0 ?_
    refine sv_getA (pc := 13) hG dX3_takePlaces_13 f_3_20 lay_16 rfl cr_16_2 ?_
    refine sx_iload (pc := 16) dX3_takePlaces_16 sx_m6 ?_
    obtain ⟨g19, h⟩ := sx_grd h
    refine sv_iald (pc := 18) hG dX3_takePlaces_18 lay_27 g19 ?_
    refine sx_iload (pc := 19) dX3_takePlaces_19 sx_m4 ?_
    refine sx_iand (pc := 21) dX3_takePlaces_21 ?_
    refine sx_if_eq (pc := 22) (tgt := 29) dX3_takePlaces_22 (by decide) (fun c20 => ?_) (fun c20 => ?_)
    · have h := sx_pos c20 h
      refine sx_iconst (pc := 29) (v := 0) dX3_takePlaces_29 (by decide) ?_
      refine sx_wk (sx_s1 sx_m0 (sx_s1 sx_m1 (sx_s1 sx_m2 (sx_s1 sx_m3 (sx_s1 sx_m4 (sx_s1 sx_m5 (sx_s1 sx_m6 sx_s0))))))) ?_
      exact tB_X3_takePlaces_30 hG hP hk6 h
    · have h := sx_neg c20 h
      refine sx_iconst (pc := 25) (v := 1) dX3_takePlaces_25 (by decide) ?_
      refine sx_goto (pc := 26) (tgt := 30) dX3_takePlaces_26 (by decide) ?_
      refine sx_wk (sx_s1 sx_m0 (sx_s1 sx_m1 (sx_s1 sx_m2 (sx_s1 sx_m3 (sx_s1 sx_m4 (sx_s1 sx_m5 (sx_s1 sx_m6 sx_s0))))))) ?_
      exact tB_X3_takePlaces_30 hG hP hk6 h
theorem tL_X3_takePlaces_6 {g : sx_G} (hG : sx_Go g) {P : Option Value → sv_V → Prop} {Vr : sv_V} (hP : P none Vr) {N : Nat}   : ∀ (n : Nat) (l1 : Nat) (l2 : Int32) (l3 : Int32) (l4 : Int32) (l5 : Int32) (l6 : Int32) (V : sv_V), sx_lp7 (B_X3_takePlaces_6 N ) n l1 l2 l3 l4 l5 l6 V = some Vr → sv_N g qX3_takePlaces 2 6 [(0, .ref 16), (1, .ref l1), (2, .int l2), (3, .int l3), (4, .int l4), (5, .int l5), (6, .int l6)] [] V P :=
  sx_lp7_ind (fun k0 ih _ _ _ _ _ _ V h => tB_X3_takePlaces_6 hG hP ih h)
def F_X3_takePlaces (N : Nat) (l1 : Nat) (l2 : Int32) (l3 : Int32) (l4 : Int32) (V : sv_V) : Option sv_V := sx_lp7 (B_X3_takePlaces_6 N ) N l1 l2 l3 l4 (0 : Int32) (0 : Int32) V
set_option maxRecDepth 20000 in
theorem t_X3_takePlaces {g : sx_G} (hG : sx_Go g) {P : Option Value → sv_V → Prop} {Vr : sv_V} (hP : P none Vr) {N : Nat} {l1 : Nat} {l2 : Int32} {l3 : Int32} {l4 : Int32} {V : sv_V} (h : F_X3_takePlaces N l1 l2 l3 l4 V = some Vr) : sv_N g qX3_takePlaces 2 0 [(0, .ref 16), (1, .ref l1), (2, .int l2), (3, .int l3), (4, .int l4)] [] V P := by
  unfold F_X3_takePlaces at h
  refine sx_iconst (pc := 0) (v := 0) dX3_takePlaces_0 (by decide) ?_
  refine sx_istore (pc := 1) (lo' := [(5, .int (0 : Int32)), (0, .ref 16), (1, .ref l1), (2, .int l2), (3, .int l3), (4, .int l4)]) dX3_takePlaces_1 (by decide) rfl ?_
  refine sx_iconst (pc := 3) (v := 0) dX3_takePlaces_3 (by decide) ?_
  refine sx_istore (pc := 4) (lo' := [(6, .int (0 : Int32)), (5, .int (0 : Int32)), (0, .ref 16), (1, .ref l1), (2, .int l2), (3, .int l3), (4, .int l4)]) dX3_takePlaces_4 (by decide) rfl ?_
  refine sx_wk (sx_s1 sx_m2 (sx_s1 sx_m3 (sx_s1 sx_m4 (sx_s1 sx_m5 (sx_s1 sx_m6 (sx_s1 sx_m1 (sx_s1 sx_m0 sx_s0))))))) ?_
  exact tL_X3_takePlaces_6 hG hP  N _ _ _ _ _ _ _ h
theorem dX3_takePart_0 : decode cX3_takePart 0 = .ok (.aload_n 0, 1) := by decide +kernel
theorem dX3_takePart_1 : decode cX3_takePart 1 = .ok (.aload_n 0, 1) := by decide +kernel
theorem dX3_takePart_2 : decode cX3_takePart 2 = .ok (.invokevirtual 89, 3) := by decide +kernel
theorem dX3_takePart_5 : decode cX3_takePart 5 = .ok (.putfield 133, 3) := by decide +kernel
theorem dX3_takePart_8 : decode cX3_takePart 8 = .ok (.aload_n 0, 1) := by decide +kernel
theorem dX3_takePart_9 : decode cX3_takePart 9 = .ok (.aload_n 0, 1) := by decide +kernel
theorem dX3_takePart_10 : decode cX3_takePart 10 = .ok (.invokevirtual 89, 3) := by decide +kernel
theorem dX3_takePart_13 : decode cX3_takePart 13 = .ok (.putfield 130, 3) := by decide +kernel
theorem dX3_takePart_16 : decode cX3_takePart 16 = .ok (.aload_n 0, 1) := by decide +kernel
theorem dX3_takePart_17 : decode cX3_takePart 17 = .ok (.getfield 133, 3) := by decide +kernel
theorem dX3_takePart_20 : decode cX3_takePart 20 = .ok (.iconst 1, 1) := by decide +kernel
theorem dX3_takePart_21 : decode cX3_takePart 21 = .ok (.iand, 1) := by decide +kernel
theorem dX3_takePart_22 : decode cX3_takePart 22 = .ok (.ifCond .eq 7, 3) := by decide +kernel
theorem dX3_takePart_25 : decode cX3_takePart 25 = .ok (.iconst 1, 1) := by decide +kernel
theorem dX3_takePart_26 : decode cX3_takePart 26 = .ok (.goto 4, 3) := by decide +kernel
theorem dX3_takePart_29 : decode cX3_takePart 29 = .ok (.iconst 0, 1) := by decide +kernel
theorem dX3_takePart_30 : decode cX3_takePart 30 = .ok (.istore_n 1, 1) := by decide +kernel
theorem dX3_takePart_31 : decode cX3_takePart 31 = .ok (.aload_n 0, 1) := by decide +kernel
theorem dX3_takePart_32 : decode cX3_takePart 32 = .ok (.iload_n 1, 1) := by decide +kernel
theorem dX3_takePart_33 : decode cX3_takePart 33 = .ok (.ifCond .eq 10, 3) := by decide +kernel
theorem dX3_takePart_36 : decode cX3_takePart 36 = .ok (.aload_n 0, 1) := by decide +kernel
theorem dX3_takePart_37 : decode cX3_takePart 37 = .ok (.invokevirtual 89, 3) := by decide +kernel
theorem dX3_takePart_40 : decode cX3_takePart 40 = .ok (.goto 7, 3) := by decide +kernel
theorem dX3_takePart_43 : decode cX3_takePart 43 = .ok (.aload_n 0, 1) := by decide +kernel
theorem dX3_takePart_44 : decode cX3_takePart 44 = .ok (.invokevirtual 121, 3) := by decide +kernel
theorem dX3_takePart_47 : decode cX3_takePart 47 = .ok (.putfield 136, 3) := by decide +kernel
theorem dX3_takePart_50 : decode cX3_takePart 50 = .ok (.aload_n 0, 1) := by decide +kernel
theorem dX3_takePart_51 : decode cX3_takePart 51 = .ok (.iload_n 1, 1) := by decide +kernel
theorem dX3_takePart_52 : decode cX3_takePart 52 = .ok (.ifCond .eq 10, 3) := by decide +kernel
theorem dX3_takePart_55 : decode cX3_takePart 55 = .ok (.aload_n 0, 1) := by decide +kernel
theorem dX3_takePart_56 : decode cX3_takePart 56 = .ok (.invokevirtual 89, 3) := by decide +kernel
theorem dX3_takePart_59 : decode cX3_takePart 59 = .ok (.goto 7, 3) := by decide +kernel
theorem dX3_takePart_62 : decode cX3_takePart 62 = .ok (.aload_n 0, 1) := by decide +kernel
theorem dX3_takePart_63 : decode cX3_takePart 63 = .ok (.invokevirtual 121, 3) := by decide +kernel
theorem dX3_takePart_66 : decode cX3_takePart 66 = .ok (.putfield 139, 3) := by decide +kernel
theorem dX3_takePart_69 : decode cX3_takePart 69 = .ok (.aload_n 0, 1) := by decide +kernel
theorem dX3_takePart_70 : decode cX3_takePart 70 = .ok (.getfield 133, 3) := by decide +kernel
theorem dX3_takePart_73 : decode cX3_takePart 73 = .ok (.iconst 2, 1) := by decide +kernel
theorem dX3_takePart_74 : decode cX3_takePart 74 = .ok (.iand, 1) := by decide +kernel
theorem dX3_takePart_75 : decode cX3_takePart 75 = .ok (.ifCond .eq 45, 3) := by decide +kernel
theorem dX3_takePart_78 : decode cX3_takePart 78 = .ok (.aload_n 0, 1) := by decide +kernel
theorem dX3_takePart_79 : decode cX3_takePart 79 = .ok (.iload_n 1, 1) := by decide +kernel
theorem dX3_takePart_80 : decode cX3_takePart 80 = .ok (.ifCond .eq 11, 3) := by decide +kernel
theorem dX3_takePart_83 : decode cX3_takePart 83 = .ok (.aload_n 0, 1) := by decide +kernel
theorem dX3_takePart_84 : decode cX3_takePart 84 = .ok (.getfield 136, 3) := by decide +kernel
theorem dX3_takePart_87 : decode cX3_takePart 87 = .ok (.i2s, 1) := by decide +kernel
theorem dX3_takePart_88 : decode cX3_takePart 88 = .ok (.goto 8, 3) := by decide +kernel
theorem dX3_takePart_91 : decode cX3_takePart 91 = .ok (.aload_n 0, 1) := by decide +kernel
theorem dX3_takePart_92 : decode cX3_takePart 92 = .ok (.getfield 136, 3) := by decide +kernel
theorem dX3_takePart_95 : decode cX3_takePart 95 = .ok (.i2b, 1) := by decide +kernel
theorem dX3_takePart_96 : decode cX3_takePart 96 = .ok (.putfield 136, 3) := by decide +kernel
theorem dX3_takePart_99 : decode cX3_takePart 99 = .ok (.aload_n 0, 1) := by decide +kernel
theorem dX3_takePart_100 : decode cX3_takePart 100 = .ok (.iload_n 1, 1) := by decide +kernel
theorem dX3_takePart_101 : decode cX3_takePart 101 = .ok (.ifCond .eq 11, 3) := by decide +kernel
theorem dX3_takePart_104 : decode cX3_takePart 104 = .ok (.aload_n 0, 1) := by decide +kernel
theorem dX3_takePart_105 : decode cX3_takePart 105 = .ok (.getfield 139, 3) := by decide +kernel
theorem dX3_takePart_108 : decode cX3_takePart 108 = .ok (.i2s, 1) := by decide +kernel
theorem dX3_takePart_109 : decode cX3_takePart 109 = .ok (.goto 8, 3) := by decide +kernel
theorem dX3_takePart_112 : decode cX3_takePart 112 = .ok (.aload_n 0, 1) := by decide +kernel
theorem dX3_takePart_113 : decode cX3_takePart 113 = .ok (.getfield 139, 3) := by decide +kernel
theorem dX3_takePart_116 : decode cX3_takePart 116 = .ok (.i2b, 1) := by decide +kernel
theorem dX3_takePart_117 : decode cX3_takePart 117 = .ok (.putfield 139, 3) := by decide +kernel
theorem dX3_takePart_120 : decode cX3_takePart 120 = .ok (.aload_n 0, 1) := by decide +kernel
theorem dX3_takePart_121 : decode cX3_takePart 121 = .ok (.sipush 16384, 3) := by decide +kernel
theorem dX3_takePart_124 : decode cX3_takePart 124 = .ok (.putfield 142, 3) := by decide +kernel
theorem dX3_takePart_127 : decode cX3_takePart 127 = .ok (.aload_n 0, 1) := by decide +kernel
theorem dX3_takePart_128 : decode cX3_takePart 128 = .ok (.iconst 0, 1) := by decide +kernel
theorem dX3_takePart_129 : decode cX3_takePart 129 = .ok (.putfield 145, 3) := by decide +kernel
theorem dX3_takePart_132 : decode cX3_takePart 132 = .ok (.aload_n 0, 1) := by decide +kernel
theorem dX3_takePart_133 : decode cX3_takePart 133 = .ok (.iconst 0, 1) := by decide +kernel
theorem dX3_takePart_134 : decode cX3_takePart 134 = .ok (.putfield 148, 3) := by decide +kernel
theorem dX3_takePart_137 : decode cX3_takePart 137 = .ok (.aload_n 0, 1) := by decide +kernel
theorem dX3_takePart_138 : decode cX3_takePart 138 = .ok (.sipush 16384, 3) := by decide +kernel
theorem dX3_takePart_141 : decode cX3_takePart 141 = .ok (.putfield 151, 3) := by decide +kernel
theorem dX3_takePart_144 : decode cX3_takePart 144 = .ok (.aload_n 0, 1) := by decide +kernel
theorem dX3_takePart_145 : decode cX3_takePart 145 = .ok (.getfield 133, 3) := by decide +kernel
theorem dX3_takePart_148 : decode cX3_takePart 148 = .ok (.bipush 8, 2) := by decide +kernel
theorem dX3_takePart_150 : decode cX3_takePart 150 = .ok (.iand, 1) := by decide +kernel
theorem dX3_takePart_151 : decode cX3_takePart 151 = .ok (.ifCond .eq 22, 3) := by decide +kernel
theorem dX3_takePart_154 : decode cX3_takePart 154 = .ok (.aload_n 0, 1) := by decide +kernel
theorem dX3_takePart_155 : decode cX3_takePart 155 = .ok (.aload_n 0, 1) := by decide +kernel
theorem dX3_takePart_156 : decode cX3_takePart 156 = .ok (.invokevirtual 124, 3) := by decide +kernel
theorem dX3_takePart_159 : decode cX3_takePart 159 = .ok (.putfield 142, 3) := by decide +kernel
theorem dX3_takePart_162 : decode cX3_takePart 162 = .ok (.aload_n 0, 1) := by decide +kernel
theorem dX3_takePart_163 : decode cX3_takePart 163 = .ok (.aload_n 0, 1) := by decide +kernel
theorem dX3_takePart_164 : decode cX3_takePart 164 = .ok (.getfield 142, 3) := by decide +kernel
theorem dX3_takePart_167 : decode cX3_takePart 167 = .ok (.putfield 151, 3) := by decide +kernel
theorem dX3_takePart_170 : decode cX3_takePart 170 = .ok (.goto 75, 3) := by decide +kernel
theorem dX3_takePart_173 : decode cX3_takePart 173 = .ok (.aload_n 0, 1) := by decide +kernel
theorem dX3_takePart_174 : decode cX3_takePart 174 = .ok (.getfield 133, 3) := by decide +kernel
theorem dX3_takePart_177 : decode cX3_takePart 177 = .ok (.bipush 64, 2) := by decide +kernel
theorem dX3_takePart_179 : decode cX3_takePart 179 = .ok (.iand, 1) := by decide +kernel
theorem dX3_takePart_180 : decode cX3_takePart 180 = .ok (.ifCond .eq 22, 3) := by decide +kernel
theorem dX3_takePart_183 : decode cX3_takePart 183 = .ok (.aload_n 0, 1) := by decide +kernel
theorem dX3_takePart_184 : decode cX3_takePart 184 = .ok (.aload_n 0, 1) := by decide +kernel
theorem dX3_takePart_185 : decode cX3_takePart 185 = .ok (.invokevirtual 124, 3) := by decide +kernel
theorem dX3_takePart_188 : decode cX3_takePart 188 = .ok (.putfield 142, 3) := by decide +kernel
theorem dX3_takePart_191 : decode cX3_takePart 191 = .ok (.aload_n 0, 1) := by decide +kernel
theorem dX3_takePart_192 : decode cX3_takePart 192 = .ok (.aload_n 0, 1) := by decide +kernel
theorem dX3_takePart_193 : decode cX3_takePart 193 = .ok (.invokevirtual 124, 3) := by decide +kernel
theorem dX3_takePart_196 : decode cX3_takePart 196 = .ok (.putfield 151, 3) := by decide +kernel
theorem dX3_takePart_199 : decode cX3_takePart 199 = .ok (.goto 46, 3) := by decide +kernel
theorem dX3_takePart_202 : decode cX3_takePart 202 = .ok (.aload_n 0, 1) := by decide +kernel
theorem dX3_takePart_203 : decode cX3_takePart 203 = .ok (.getfield 133, 3) := by decide +kernel
theorem dX3_takePart_206 : decode cX3_takePart 206 = .ok (.sipush 128, 3) := by decide +kernel
theorem dX3_takePart_209 : decode cX3_takePart 209 = .ok (.iand, 1) := by decide +kernel
theorem dX3_takePart_210 : decode cX3_takePart 210 = .ok (.ifCond .eq 35, 3) := by decide +kernel
theorem dX3_takePart_213 : decode cX3_takePart 213 = .ok (.aload_n 0, 1) := by decide +kernel
theorem dX3_takePart_214 : decode cX3_takePart 214 = .ok (.aload_n 0, 1) := by decide +kernel
theorem dX3_takePart_215 : decode cX3_takePart 215 = .ok (.invokevirtual 124, 3) := by decide +kernel
theorem dX3_takePart_218 : decode cX3_takePart 218 = .ok (.putfield 142, 3) := by decide +kernel
theorem dX3_takePart_221 : decode cX3_takePart 221 = .ok (.aload_n 0, 1) := by decide +kernel
theorem dX3_takePart_222 : decode cX3_takePart 222 = .ok (.aload_n 0, 1) := by decide +kernel
theorem dX3_takePart_223 : decode cX3_takePart 223 = .ok (.invokevirtual 124, 3) := by decide +kernel
theorem dX3_takePart_226 : decode cX3_takePart 226 = .ok (.putfield 145, 3) := by decide +kernel
theorem dX3_takePart_229 : decode cX3_takePart 229 = .ok (.aload_n 0, 1) := by decide +kernel
theorem dX3_takePart_230 : decode cX3_takePart 230 = .ok (.aload_n 0, 1) := by decide +kernel
theorem dX3_takePart_231 : decode cX3_takePart 231 = .ok (.invokevirtual 124, 3) := by decide +kernel
theorem dX3_takePart_234 : decode cX3_takePart 234 = .ok (.putfield 148, 3) := by decide +kernel
theorem dX3_takePart_237 : decode cX3_takePart 237 = .ok (.aload_n 0, 1) := by decide +kernel
theorem dX3_takePart_238 : decode cX3_takePart 238 = .ok (.aload_n 0, 1) := by decide +kernel
theorem dX3_takePart_239 : decode cX3_takePart 239 = .ok (.invokevirtual 124, 3) := by decide +kernel
theorem dX3_takePart_242 : decode cX3_takePart 242 = .ok (.putfield 151, 3) := by decide +kernel
theorem dX3_takePart_245 : decode cX3_takePart 245 = .ok (.return_, 1) := by decide +kernel
def B_X3_takePart_120   (V : sv_V) : Option sv_V := sx_let (sv_I V 16 11 (16384 : Int32)) (fun V1 => sx_let (sv_I V1 16 12 (0 : Int32)) (fun V2 => sx_let (sv_I V2 16 13 (0 : Int32)) (fun V3 => sx_let (sv_I V3 16 14 (16384 : Int32)) (fun V4 => if ((V4.1 16 7) &&& (8 : Int32)) = 0 then (if ((V4.1 16 7) &&& (64 : Int32)) = 0 then (if ((V4.1 16 7) &&& (128 : Int32)) = 0 then (some V4) else ((F_X3_takeS2  V4).bind (fun (x10, V8) => sx_let (sv_I V8 16 11 x10) (fun V11 => (F_X3_takeS2  V11).bind (fun (x14, V12) => sx_let (sv_I V12 16 12 x14) (fun V15 => (F_X3_takeS2  V15).bind (fun (x18, V16) => sx_let (sv_I V16 16 13 x18) (fun V19 => (F_X3_takeS2  V19).bind (fun (x22, V20) => sx_let (sv_I V20 16 14 x22) (fun V23 => some V23)))))))))) else ((F_X3_takeS2  V4).bind (fun (x26, V24) => sx_let (sv_I V24 16 11 x26) (fun V27 => (F_X3_takeS2  V27).bind (fun (x30, V28) => sx_let (sv_I V28 16 14 x30) (fun V31 => some V31)))))) else ((F_X3_takeS2  V4).bind (fun (x34, V32) => sx_let (sv_I V32 16 11 x34) (fun V35 => sx_let (sv_I V35 16 14 (V35.1 16 11)) (fun V36 => some V36))))))))
set_option maxRecDepth 20000 in
theorem tB_X3_takePart_120 {g : sx_G} (hG : sx_Go g) {P : Option Value → sv_V → Prop} {Vr : sv_V} (hP : P none Vr)    {V : sv_V} (h : B_X3_takePart_120   V = some Vr) : sv_N g qX3_takePart 2 120 [(0, .ref 16)] [] V P := by
  unfold B_X3_takePart_120 at h
  refine sx_aload_n (pc := 120) dX3_takePart_120 sx_m0 ?_
  refine sx_sipush (pc := 121) (v := 16384) dX3_takePart_121 (by decide) ?_
  obtain ⟨V1, hV1⟩ : ∃ z : sv_V, z = sv_I V 16 11 (16384 : Int32) := ⟨_, rfl⟩
  have h := sx_letE hV1 h
  refine sv_putI (pc := 124) hG dX3_takePart_124 f_3_142 lay_16 rfl hV1 ?_
  refine sx_aload_n (pc := 127) dX3_takePart_127 sx_m0 ?_
  refine sx_iconst (pc := 128) (v := 0) dX3_takePart_128 (by decide) ?_
  obtain ⟨V2, hV2⟩ : ∃ z : sv_V, z = sv_I V1 16 12 (0 : Int32) := ⟨_, rfl⟩
  have h := sx_letE hV2 h
  refine sv_putI (pc := 129) hG dX3_takePart_129 f_3_145 lay_16 rfl hV2 ?_
  refine sx_aload_n (pc := 132) dX3_takePart_132 sx_m0 ?_
  refine sx_iconst (pc := 133) (v := 0) dX3_takePart_133 (by decide) ?_
  obtain ⟨V3, hV3⟩ : ∃ z : sv_V, z = sv_I V2 16 13 (0 : Int32) := ⟨_, rfl⟩
  have h := sx_letE hV3 h
  refine sv_putI (pc := 134) hG dX3_takePart_134 f_3_148 lay_16 rfl hV3 ?_
  refine sx_aload_n (pc := 137) dX3_takePart_137 sx_m0 ?_
  refine sx_sipush (pc := 138) (v := 16384) dX3_takePart_138 (by decide) ?_
  obtain ⟨V4, hV4⟩ : ∃ z : sv_V, z = sv_I V3 16 14 (16384 : Int32) := ⟨_, rfl⟩
  have h := sx_letE hV4 h
  refine sv_putI (pc := 141) hG dX3_takePart_141 f_3_151 lay_16 rfl hV4 ?_
  refine sx_aload_n (pc := 144) dX3_takePart_144 sx_m0 ?_
  refine sv_getI (pc := 145) hG dX3_takePart_145 f_3_133 lay_16 rfl ?_
  refine sx_bipush (pc := 148) (v := 8) dX3_takePart_148 (by decide) ?_
  refine sx_iand (pc := 150) dX3_takePart_150 ?_
  refine sx_if_eq (pc := 151) (tgt := 173) dX3_takePart_151 (by decide) (fun c5 => ?_) (fun c5 => ?_)
  · have h := sx_pos c5 h
    refine sx_aload_n (pc := 173) dX3_takePart_173 sx_m0 ?_
    refine sv_getI (pc := 174) hG dX3_takePart_174 f_3_133 lay_16 rfl ?_
    refine sx_bipush (pc := 177) (v := 64) dX3_takePart_177 (by decide) ?_
    refine sx_iand (pc := 179) dX3_takePart_179 ?_
    refine sx_if_eq (pc := 180) (tgt := 202) dX3_takePart_180 (by decide) (fun c6 => ?_) (fun c6 => ?_)
    · have h := sx_pos c6 h
      refine sx_aload_n (pc := 202) dX3_takePart_202 sx_m0 ?_
      refine sv_getI (pc := 203) hG dX3_takePart_203 f_3_133 lay_16 rfl ?_
      refine sx_sipush (pc := 206) (v := 128) dX3_takePart_206 (by decide) ?_
      refine sx_iand (pc := 209) dX3_takePart_209 ?_
      refine sx_if_eq (pc := 210) (tgt := 245) dX3_takePart_210 (by decide) (fun c7 => ?_) (fun c7 => ?_)
      · have h := sx_pos c7 h
        exact sv_vret (pc := 245) dX3_takePart_245 rfl h hP
      · have h := sx_neg c7 h
        refine sx_aload_n (pc := 213) dX3_takePart_213 sx_m0 ?_
        refine sx_aload_n (pc := 214) dX3_takePart_214 sx_m0 ?_
        obtain ⟨⟨x10, V8⟩, g9, h⟩ := sx_bnd h
        refine sv_cV (pc := 215) (y := qX3_takeS2) (o := (some (.int x10))) (as := []) (V1 := V8) hG dX3_takePart_215 l_X3_124 y0X3_takeS2 yvX3_takeS2 rfl (Nat.le_of_ble_eq_true rfl) lay_16 kr_3 (by decide) (Nat.le_of_ble_eq_true rfl) rfl rfl rfl (t_X3_takeS2 hG ⟨rfl, rfl⟩ g9) ?_
        obtain ⟨V11, hV11⟩ : ∃ z : sv_V, z = sv_I V8 16 11 x10 := ⟨_, rfl⟩
        have h := sx_letE hV11 h
        refine sv_putI (pc := 218) hG dX3_takePart_218 f_3_142 lay_16 rfl hV11 ?_
        refine sx_aload_n (pc := 221) dX3_takePart_221 sx_m0 ?_
        refine sx_aload_n (pc := 222) dX3_takePart_222 sx_m0 ?_
        obtain ⟨⟨x14, V12⟩, g13, h⟩ := sx_bnd h
        refine sv_cV (pc := 223) (y := qX3_takeS2) (o := (some (.int x14))) (as := []) (V1 := V12) hG dX3_takePart_223 l_X3_124 y0X3_takeS2 yvX3_takeS2 rfl (Nat.le_of_ble_eq_true rfl) lay_16 kr_3 (by decide) (Nat.le_of_ble_eq_true rfl) rfl rfl rfl (t_X3_takeS2 hG ⟨rfl, rfl⟩ g13) ?_
        obtain ⟨V15, hV15⟩ : ∃ z : sv_V, z = sv_I V12 16 12 x14 := ⟨_, rfl⟩
        have h := sx_letE hV15 h
        refine sv_putI (pc := 226) hG dX3_takePart_226 f_3_145 lay_16 rfl hV15 ?_
        refine sx_aload_n (pc := 229) dX3_takePart_229 sx_m0 ?_
        refine sx_aload_n (pc := 230) dX3_takePart_230 sx_m0 ?_
        obtain ⟨⟨x18, V16⟩, g17, h⟩ := sx_bnd h
        refine sv_cV (pc := 231) (y := qX3_takeS2) (o := (some (.int x18))) (as := []) (V1 := V16) hG dX3_takePart_231 l_X3_124 y0X3_takeS2 yvX3_takeS2 rfl (Nat.le_of_ble_eq_true rfl) lay_16 kr_3 (by decide) (Nat.le_of_ble_eq_true rfl) rfl rfl rfl (t_X3_takeS2 hG ⟨rfl, rfl⟩ g17) ?_
        obtain ⟨V19, hV19⟩ : ∃ z : sv_V, z = sv_I V16 16 13 x18 := ⟨_, rfl⟩
        have h := sx_letE hV19 h
        refine sv_putI (pc := 234) hG dX3_takePart_234 f_3_148 lay_16 rfl hV19 ?_
        refine sx_aload_n (pc := 237) dX3_takePart_237 sx_m0 ?_
        refine sx_aload_n (pc := 238) dX3_takePart_238 sx_m0 ?_
        obtain ⟨⟨x22, V20⟩, g21, h⟩ := sx_bnd h
        refine sv_cV (pc := 239) (y := qX3_takeS2) (o := (some (.int x22))) (as := []) (V1 := V20) hG dX3_takePart_239 l_X3_124 y0X3_takeS2 yvX3_takeS2 rfl (Nat.le_of_ble_eq_true rfl) lay_16 kr_3 (by decide) (Nat.le_of_ble_eq_true rfl) rfl rfl rfl (t_X3_takeS2 hG ⟨rfl, rfl⟩ g21) ?_
        obtain ⟨V23, hV23⟩ : ∃ z : sv_V, z = sv_I V20 16 14 x22 := ⟨_, rfl⟩
        have h := sx_letE hV23 h
        refine sv_putI (pc := 242) hG dX3_takePart_242 f_3_151 lay_16 rfl hV23 ?_
        exact sv_vret (pc := 245) dX3_takePart_245 rfl h hP
    · have h := sx_neg c6 h
      refine sx_aload_n (pc := 183) dX3_takePart_183 sx_m0 ?_
      refine sx_aload_n (pc := 184) dX3_takePart_184 sx_m0 ?_
      obtain ⟨⟨x26, V24⟩, g25, h⟩ := sx_bnd h
      refine sv_cV (pc := 185) (y := qX3_takeS2) (o := (some (.int x26))) (as := []) (V1 := V24) hG dX3_takePart_185 l_X3_124 y0X3_takeS2 yvX3_takeS2 rfl (Nat.le_of_ble_eq_true rfl) lay_16 kr_3 (by decide) (Nat.le_of_ble_eq_true rfl) rfl rfl rfl (t_X3_takeS2 hG ⟨rfl, rfl⟩ g25) ?_
      obtain ⟨V27, hV27⟩ : ∃ z : sv_V, z = sv_I V24 16 11 x26 := ⟨_, rfl⟩
      have h := sx_letE hV27 h
      refine sv_putI (pc := 188) hG dX3_takePart_188 f_3_142 lay_16 rfl hV27 ?_
      refine sx_aload_n (pc := 191) dX3_takePart_191 sx_m0 ?_
      refine sx_aload_n (pc := 192) dX3_takePart_192 sx_m0 ?_
      obtain ⟨⟨x30, V28⟩, g29, h⟩ := sx_bnd h
      refine sv_cV (pc := 193) (y := qX3_takeS2) (o := (some (.int x30))) (as := []) (V1 := V28) hG dX3_takePart_193 l_X3_124 y0X3_takeS2 yvX3_takeS2 rfl (Nat.le_of_ble_eq_true rfl) lay_16 kr_3 (by decide) (Nat.le_of_ble_eq_true rfl) rfl rfl rfl (t_X3_takeS2 hG ⟨rfl, rfl⟩ g29) ?_
      obtain ⟨V31, hV31⟩ : ∃ z : sv_V, z = sv_I V28 16 14 x30 := ⟨_, rfl⟩
      have h := sx_letE hV31 h
      refine sv_putI (pc := 196) hG dX3_takePart_196 f_3_151 lay_16 rfl hV31 ?_
      refine sx_goto (pc := 199) (tgt := 245) dX3_takePart_199 (by decide) ?_
      exact sv_vret (pc := 245) dX3_takePart_245 rfl h hP
  · have h := sx_neg c5 h
    refine sx_aload_n (pc := 154) dX3_takePart_154 sx_m0 ?_
    refine sx_aload_n (pc := 155) dX3_takePart_155 sx_m0 ?_
    obtain ⟨⟨x34, V32⟩, g33, h⟩ := sx_bnd h
    refine sv_cV (pc := 156) (y := qX3_takeS2) (o := (some (.int x34))) (as := []) (V1 := V32) hG dX3_takePart_156 l_X3_124 y0X3_takeS2 yvX3_takeS2 rfl (Nat.le_of_ble_eq_true rfl) lay_16 kr_3 (by decide) (Nat.le_of_ble_eq_true rfl) rfl rfl rfl (t_X3_takeS2 hG ⟨rfl, rfl⟩ g33) ?_
    obtain ⟨V35, hV35⟩ : ∃ z : sv_V, z = sv_I V32 16 11 x34 := ⟨_, rfl⟩
    have h := sx_letE hV35 h
    refine sv_putI (pc := 159) hG dX3_takePart_159 f_3_142 lay_16 rfl hV35 ?_
    refine sx_aload_n (pc := 162) dX3_takePart_162 sx_m0 ?_
    refine sx_aload_n (pc := 163) dX3_takePart_163 sx_m0 ?_
    refine sv_getI (pc := 164) hG dX3_takePart_164 f_3_142 lay_16 rfl ?_
    obtain ⟨V36, hV36⟩ : ∃ z : sv_V, z = sv_I V35 16 14 (V35.1 16 11) := ⟨_, rfl⟩
    have h := sx_letE hV36 h
    refine sv_putI (pc := 167) hG dX3_takePart_167 f_3_151 lay_16 rfl hV36 ?_
    refine sx_goto (pc := 170) (tgt := 245) dX3_takePart_170 (by decide) ?_
    exact sv_vret (pc := 245) dX3_takePart_245 rfl h hP
def B_X3_takePart_117  (s1 : Int32) (V : sv_V) : Option sv_V := sx_let (sv_I V 16 10 s1) (fun V37 => B_X3_takePart_120   V37)
set_option maxRecDepth 20000 in
theorem tB_X3_takePart_117 {g : sx_G} (hG : sx_Go g) {P : Option Value → sv_V → Prop} {Vr : sv_V} (hP : P none Vr)   {s1 : Int32} {V : sv_V} (h : B_X3_takePart_117  s1 V = some Vr) : sv_N g qX3_takePart 2 117 [(0, .ref 16)] [.int s1, .ref 16] V P := by
  unfold B_X3_takePart_117 at h
  obtain ⟨V37, hV37⟩ : ∃ z : sv_V, z = sv_I V 16 10 s1 := ⟨_, rfl⟩
  have h := sx_letE hV37 h
  refine sv_putI (pc := 117) hG dX3_takePart_117 f_3_139 lay_16 rfl hV37 ?_
  refine sx_wk (sx_s1 sx_m0 sx_s0) ?_
  exact tB_X3_takePart_120 hG hP  h
def B_X3_takePart_96  (l1 : Int32) (s1 : Int32) (V : sv_V) : Option sv_V := sx_let (sv_I V 16 9 s1) (fun V38 => if l1 = 0 then (B_X3_takePart_117  ((V38.1 16 10).toInt8.toInt32) V38) else (B_X3_takePart_117  ((V38.1 16 10).toInt16.toInt32) V38))
set_option maxRecDepth 20000 in
theorem tB_X3_takePart_96 {g : sx_G} (hG : sx_Go g) {P : Option Value → sv_V → Prop} {Vr : sv_V} (hP : P none Vr)   {l1 : Int32} {s1 : Int32} {V : sv_V} (h : B_X3_takePart_96  l1 s1 V = some Vr) : sv_N g qX3_takePart 2 96 [(0, .ref 16), (1, .int l1)] [.int s1, .ref 16] V P := by
  unfold B_X3_takePart_96 at h
  obtain ⟨V38, hV38⟩ : ∃ z : sv_V, z = sv_I V 16 9 s1 := ⟨_, rfl⟩
  have h := sx_letE hV38 h
  refine sv_putI (pc := 96) hG dX3_takePart_96 f_3_136 lay_16 rfl hV38 ?_
  refine sx_aload_n (pc := 99) dX3_takePart_99 sx_m0 ?_
  refine sx_iload_n (pc := 100) dX3_takePart_100 sx_m1 ?_
  refine sx_if_eq (pc := 101) (tgt := 112) dX3_takePart_101 (by decide) (fun c39 => ?_) (fun c39 => ?_)
  · have h := sx_pos c39 h
    refine sx_aload_n (pc := 112) dX3_takePart_112 sx_m0 ?_
    refine sv_getI (pc := 113) hG dX3_takePart_113 f_3_139 lay_16 rfl ?_
    refine sx_i2b (pc := 116) dX3_takePart_116 ?_
    refine sx_wk (sx_s1 sx_m0 sx_s0) ?_
    exact tB_X3_takePart_117 hG hP  h
  · have h := sx_neg c39 h
    refine sx_aload_n (pc := 104) dX3_takePart_104 sx_m0 ?_
    refine sv_getI (pc := 105) hG dX3_takePart_105 f_3_139 lay_16 rfl ?_
    refine sx_i2s (pc := 108) dX3_takePart_108 ?_
    refine sx_goto (pc := 109) (tgt := 117) dX3_takePart_109 (by decide) ?_
    refine sx_wk (sx_s1 sx_m0 sx_s0) ?_
    exact tB_X3_takePart_117 hG hP  h
def B_X3_takePart_66  (l1 : Int32) (s1 : Int32) (V : sv_V) : Option sv_V := sx_let (sv_I V 16 10 s1) (fun V40 => if ((V40.1 16 7) &&& (2 : Int32)) = 0 then (B_X3_takePart_120   V40) else (if l1 = 0 then (B_X3_takePart_96  l1 ((V40.1 16 9).toInt8.toInt32) V40) else (B_X3_takePart_96  l1 ((V40.1 16 9).toInt16.toInt32) V40)))
set_option maxRecDepth 20000 in
theorem tB_X3_takePart_66 {g : sx_G} (hG : sx_Go g) {P : Option Value → sv_V → Prop} {Vr : sv_V} (hP : P none Vr)   {l1 : Int32} {s1 : Int32} {V : sv_V} (h : B_X3_takePart_66  l1 s1 V = some Vr) : sv_N g qX3_takePart 2 66 [(0, .ref 16), (1, .int l1)] [.int s1, .ref 16] V P := by
  unfold B_X3_takePart_66 at h
  obtain ⟨V40, hV40⟩ : ∃ z : sv_V, z = sv_I V 16 10 s1 := ⟨_, rfl⟩
  have h := sx_letE hV40 h
  refine sv_putI (pc := 66) hG dX3_takePart_66 f_3_139 lay_16 rfl hV40 ?_
  refine sx_aload_n (pc := 69) dX3_takePart_69 sx_m0 ?_
  refine sv_getI (pc := 70) hG dX3_takePart_70 f_3_133 lay_16 rfl ?_
  refine sx_iconst (pc := 73) (v := 2) dX3_takePart_73 (by decide) ?_
  refine sx_iand (pc := 74) dX3_takePart_74 ?_
  refine sx_if_eq (pc := 75) (tgt := 120) dX3_takePart_75 (by decide) (fun c41 => ?_) (fun c41 => ?_)
  · have h := sx_pos c41 h
    refine sx_wk (sx_s1 sx_m0 sx_s0) ?_
    exact tB_X3_takePart_120 hG hP  h
  · have h := sx_neg c41 h
    refine sx_aload_n (pc := 78) dX3_takePart_78 sx_m0 ?_
    refine sx_iload_n (pc := 79) dX3_takePart_79 sx_m1 ?_
    refine sx_if_eq (pc := 80) (tgt := 91) dX3_takePart_80 (by decide) (fun c42 => ?_) (fun c42 => ?_)
    · have h := sx_pos c42 h
      refine sx_aload_n (pc := 91) dX3_takePart_91 sx_m0 ?_
      refine sv_getI (pc := 92) hG dX3_takePart_92 f_3_136 lay_16 rfl ?_
      refine sx_i2b (pc := 95) dX3_takePart_95 ?_
      refine sx_wk (sx_s1 sx_m0 (sx_s1 sx_m1 sx_s0)) ?_
      exact tB_X3_takePart_96 hG hP  h
    · have h := sx_neg c42 h
      refine sx_aload_n (pc := 83) dX3_takePart_83 sx_m0 ?_
      refine sv_getI (pc := 84) hG dX3_takePart_84 f_3_136 lay_16 rfl ?_
      refine sx_i2s (pc := 87) dX3_takePart_87 ?_
      refine sx_goto (pc := 88) (tgt := 96) dX3_takePart_88 (by decide) ?_
      refine sx_wk (sx_s1 sx_m0 (sx_s1 sx_m1 sx_s0)) ?_
      exact tB_X3_takePart_96 hG hP  h
def B_X3_takePart_47  (l1 : Int32) (s1 : Int32) (V : sv_V) : Option sv_V := sx_let (sv_I V 16 9 s1) (fun V43 => if l1 = 0 then ((F_X3_takeU1  V43).bind (fun (x47, V45) => B_X3_takePart_66  l1 x47 V45)) else ((F_X3_takeU2  V43).bind (fun (x50, V48) => B_X3_takePart_66  l1 x50 V48)))
set_option maxRecDepth 20000 in
theorem tB_X3_takePart_47 {g : sx_G} (hG : sx_Go g) {P : Option Value → sv_V → Prop} {Vr : sv_V} (hP : P none Vr)   {l1 : Int32} {s1 : Int32} {V : sv_V} (h : B_X3_takePart_47  l1 s1 V = some Vr) : sv_N g qX3_takePart 2 47 [(0, .ref 16), (1, .int l1)] [.int s1, .ref 16] V P := by
  unfold B_X3_takePart_47 at h
  obtain ⟨V43, hV43⟩ : ∃ z : sv_V, z = sv_I V 16 9 s1 := ⟨_, rfl⟩
  have h := sx_letE hV43 h
  refine sv_putI (pc := 47) hG dX3_takePart_47 f_3_136 lay_16 rfl hV43 ?_
  refine sx_aload_n (pc := 50) dX3_takePart_50 sx_m0 ?_
  refine sx_iload_n (pc := 51) dX3_takePart_51 sx_m1 ?_
  refine sx_if_eq (pc := 52) (tgt := 62) dX3_takePart_52 (by decide) (fun c44 => ?_) (fun c44 => ?_)
  · have h := sx_pos c44 h
    refine sx_aload_n (pc := 62) dX3_takePart_62 sx_m0 ?_
    obtain ⟨⟨x47, V45⟩, g46, h⟩ := sx_bnd h
    refine sv_cV (pc := 63) (y := qX3_takeU1) (o := (some (.int x47))) (as := []) (V1 := V45) hG dX3_takePart_63 l_X3_121 y0X3_takeU1 yvX3_takeU1 rfl (Nat.le_of_ble_eq_true rfl) lay_16 kr_3 (by decide) (Nat.le_of_ble_eq_true rfl) rfl rfl rfl (t_X3_takeU1 hG ⟨rfl, rfl⟩ g46) ?_
    refine sx_wk (sx_s1 sx_m0 (sx_s1 sx_m1 sx_s0)) ?_
    exact tB_X3_takePart_66 hG hP  h
  · have h := sx_neg c44 h
    refine sx_aload_n (pc := 55) dX3_takePart_55 sx_m0 ?_
    obtain ⟨⟨x50, V48⟩, g49, h⟩ := sx_bnd h
    refine sv_cV (pc := 56) (y := qX3_takeU2) (o := (some (.int x50))) (as := []) (V1 := V48) hG dX3_takePart_56 l_X3_89 y0X3_takeU2 yvX3_takeU2 rfl (Nat.le_of_ble_eq_true rfl) lay_16 kr_3 (by decide) (Nat.le_of_ble_eq_true rfl) rfl rfl rfl (t_X3_takeU2 hG ⟨rfl, rfl⟩ g49) ?_
    refine sx_goto (pc := 59) (tgt := 66) dX3_takePart_59 (by decide) ?_
    refine sx_wk (sx_s1 sx_m0 (sx_s1 sx_m1 sx_s0)) ?_
    exact tB_X3_takePart_66 hG hP  h
def B_X3_takePart_30  (s0 : Int32) (V : sv_V) : Option sv_V := if s0 = 0 then ((F_X3_takeU1  V).bind (fun (x54, V52) => B_X3_takePart_47  s0 x54 V52)) else ((F_X3_takeU2  V).bind (fun (x57, V55) => B_X3_takePart_47  s0 x57 V55))
set_option maxRecDepth 20000 in
theorem tB_X3_takePart_30 {g : sx_G} (hG : sx_Go g) {P : Option Value → sv_V → Prop} {Vr : sv_V} (hP : P none Vr)   {s0 : Int32} {V : sv_V} (h : B_X3_takePart_30  s0 V = some Vr) : sv_N g qX3_takePart 2 30 [(0, .ref 16)] [.int s0] V P := by
  unfold B_X3_takePart_30 at h
  refine sx_istore_n (pc := 30) (lo' := [(1, .int s0), (0, .ref 16)]) dX3_takePart_30 (by decide) rfl ?_
  refine sx_aload_n (pc := 31) dX3_takePart_31 sx_m1 ?_
  refine sx_iload_n (pc := 32) dX3_takePart_32 sx_m0 ?_
  refine sx_if_eq (pc := 33) (tgt := 43) dX3_takePart_33 (by decide) (fun c51 => ?_) (fun c51 => ?_)
  · have h := sx_pos c51 h
    refine sx_aload_n (pc := 43) dX3_takePart_43 sx_m1 ?_
    obtain ⟨⟨x54, V52⟩, g53, h⟩ := sx_bnd h
    refine sv_cV (pc := 44) (y := qX3_takeU1) (o := (some (.int x54))) (as := []) (V1 := V52) hG dX3_takePart_44 l_X3_121 y0X3_takeU1 yvX3_takeU1 rfl (Nat.le_of_ble_eq_true rfl) lay_16 kr_3 (by decide) (Nat.le_of_ble_eq_true rfl) rfl rfl rfl (t_X3_takeU1 hG ⟨rfl, rfl⟩ g53) ?_
    refine sx_wk (sx_s1 sx_m1 (sx_s1 sx_m0 sx_s0)) ?_
    exact tB_X3_takePart_47 hG hP  h
  · have h := sx_neg c51 h
    refine sx_aload_n (pc := 36) dX3_takePart_36 sx_m1 ?_
    obtain ⟨⟨x57, V55⟩, g56, h⟩ := sx_bnd h
    refine sv_cV (pc := 37) (y := qX3_takeU2) (o := (some (.int x57))) (as := []) (V1 := V55) hG dX3_takePart_37 l_X3_89 y0X3_takeU2 yvX3_takeU2 rfl (Nat.le_of_ble_eq_true rfl) lay_16 kr_3 (by decide) (Nat.le_of_ble_eq_true rfl) rfl rfl rfl (t_X3_takeU2 hG ⟨rfl, rfl⟩ g56) ?_
    refine sx_goto (pc := 40) (tgt := 47) dX3_takePart_40 (by decide) ?_
    refine sx_wk (sx_s1 sx_m1 (sx_s1 sx_m0 sx_s0)) ?_
    exact tB_X3_takePart_47 hG hP  h
def F_X3_takePart  (V : sv_V) : Option sv_V := (F_X3_takeU2  V).bind (fun (x60, V58) => sx_let (sv_I V58 16 7 x60) (fun V61 => (F_X3_takeU2  V61).bind (fun (x64, V62) => sx_let (sv_I V62 16 8 x64) (fun V65 => if ((V65.1 16 7) &&& (1 : Int32)) = 0 then (B_X3_takePart_30  (0 : Int32) V65) else (B_X3_takePart_30  (1 : Int32) V65)))))
set_option maxRecDepth 20000 in
theorem t_X3_takePart {g : sx_G} (hG : sx_Go g) {P : Option Value → sv_V → Prop} {Vr : sv_V} (hP : P none Vr)  {V : sv_V} (h : F_X3_takePart  V = some Vr) : sv_N g qX3_takePart 2 0 [(0, .ref 16)] [] V P := by
  unfold F_X3_takePart at h
  refine sx_aload_n (pc := 0) dX3_takePart_0 sx_m0 ?_
  refine sx_aload_n (pc := 1) dX3_takePart_1 sx_m0 ?_
  obtain ⟨⟨x60, V58⟩, g59, h⟩ := sx_bnd h
  refine sv_cV (pc := 2) (y := qX3_takeU2) (o := (some (.int x60))) (as := []) (V1 := V58) hG dX3_takePart_2 l_X3_89 y0X3_takeU2 yvX3_takeU2 rfl (Nat.le_of_ble_eq_true rfl) lay_16 kr_3 (by decide) (Nat.le_of_ble_eq_true rfl) rfl rfl rfl (t_X3_takeU2 hG ⟨rfl, rfl⟩ g59) ?_
  obtain ⟨V61, hV61⟩ : ∃ z : sv_V, z = sv_I V58 16 7 x60 := ⟨_, rfl⟩
  have h := sx_letE hV61 h
  refine sv_putI (pc := 5) hG dX3_takePart_5 f_3_133 lay_16 rfl hV61 ?_
  refine sx_aload_n (pc := 8) dX3_takePart_8 sx_m0 ?_
  refine sx_aload_n (pc := 9) dX3_takePart_9 sx_m0 ?_
  obtain ⟨⟨x64, V62⟩, g63, h⟩ := sx_bnd h
  refine sv_cV (pc := 10) (y := qX3_takeU2) (o := (some (.int x64))) (as := []) (V1 := V62) hG dX3_takePart_10 l_X3_89 y0X3_takeU2 yvX3_takeU2 rfl (Nat.le_of_ble_eq_true rfl) lay_16 kr_3 (by decide) (Nat.le_of_ble_eq_true rfl) rfl rfl rfl (t_X3_takeU2 hG ⟨rfl, rfl⟩ g63) ?_
  obtain ⟨V65, hV65⟩ : ∃ z : sv_V, z = sv_I V62 16 8 x64 := ⟨_, rfl⟩
  have h := sx_letE hV65 h
  refine sv_putI (pc := 13) hG dX3_takePart_13 f_3_130 lay_16 rfl hV65 ?_
  refine sx_aload_n (pc := 16) dX3_takePart_16 sx_m0 ?_
  refine sv_getI (pc := 17) hG dX3_takePart_17 f_3_133 lay_16 rfl ?_
  refine sx_iconst (pc := 20) (v := 1) dX3_takePart_20 (by decide) ?_
  refine sx_iand (pc := 21) dX3_takePart_21 ?_
  refine sx_if_eq (pc := 22) (tgt := 29) dX3_takePart_22 (by decide) (fun c66 => ?_) (fun c66 => ?_)
  · have h := sx_pos c66 h
    refine sx_iconst (pc := 29) (v := 0) dX3_takePart_29 (by decide) ?_
    refine sx_wk (sx_s1 sx_m0 sx_s0) ?_
    exact tB_X3_takePart_30 hG hP  h
  · have h := sx_neg c66 h
    refine sx_iconst (pc := 25) (v := 1) dX3_takePart_25 (by decide) ?_
    refine sx_goto (pc := 26) (tgt := 30) dX3_takePart_26 (by decide) ?_
    refine sx_wk (sx_s1 sx_m0 sx_s0) ?_
    exact tB_X3_takePart_30 hG hP  h
theorem dX4_directoryHolds_0 : decode cX4_directoryHolds 0 = .ok (.aload_n 0, 1) := by decide +kernel
theorem dX4_directoryHolds_1 : decode cX4_directoryHolds 1 = .ok (.getfield 9, 3) := by decide +kernel
theorem dX4_directoryHolds_4 : decode cX4_directoryHolds 4 = .ok (.iconst 4, 1) := by decide +kernel
theorem dX4_directoryHolds_5 : decode cX4_directoryHolds 5 = .ok (.invokevirtual 64, 3) := by decide +kernel
theorem dX4_directoryHolds_8 : decode cX4_directoryHolds 8 = .ok (.istore_n 1, 1) := by decide +kernel
theorem dX4_directoryHolds_9 : decode cX4_directoryHolds 9 = .ok (.aload_n 0, 1) := by decide +kernel
theorem dX4_directoryHolds_10 : decode cX4_directoryHolds 10 = .ok (.getfield 9, 3) := by decide +kernel
theorem dX4_directoryHolds_13 : decode cX4_directoryHolds 13 = .ok (.getfield 70, 3) := by decide +kernel
theorem dX4_directoryHolds_16 : decode cX4_directoryHolds 16 = .ok (.bipush 12, 2) := by decide +kernel
theorem dX4_directoryHolds_18 : decode cX4_directoryHolds 18 = .ok (.if_icmp .lt 29, 3) := by decide +kernel
theorem dX4_directoryHolds_21 : decode cX4_directoryHolds 21 = .ok (.aload_n 0, 1) := by decide +kernel
theorem dX4_directoryHolds_22 : decode cX4_directoryHolds 22 = .ok (.getfield 9, 3) := by decide +kernel
theorem dX4_directoryHolds_25 : decode cX4_directoryHolds 25 = .ok (.iconst 0, 1) := by decide +kernel
theorem dX4_directoryHolds_26 : decode cX4_directoryHolds 26 = .ok (.invokevirtual 74, 3) := by decide +kernel
theorem dX4_directoryHolds_29 : decode cX4_directoryHolds 29 = .ok (.ldc2_w 78, 3) := by decide +kernel
theorem dX4_directoryHolds_32 : decode cX4_directoryHolds 32 = .ok (.lcmp, 1) := by decide +kernel
theorem dX4_directoryHolds_33 : decode cX4_directoryHolds 33 = .ok (.ifCond .ne 14, 3) := by decide +kernel
theorem dX4_directoryHolds_36 : decode cX4_directoryHolds 36 = .ok (.iload_n 1, 1) := by decide +kernel
theorem dX4_directoryHolds_37 : decode cX4_directoryHolds 37 = .ok (.iconst 1, 1) := by decide +kernel
theorem dX4_directoryHolds_38 : decode cX4_directoryHolds 38 = .ok (.if_icmp .lt 9, 3) := by decide +kernel
theorem dX4_directoryHolds_41 : decode cX4_directoryHolds 41 = .ok (.iload_n 1, 1) := by decide +kernel
theorem dX4_directoryHolds_42 : decode cX4_directoryHolds 42 = .ok (.bipush 16, 2) := by decide +kernel
theorem dX4_directoryHolds_44 : decode cX4_directoryHolds 44 = .ok (.if_icmp .le 5, 3) := by decide +kernel
theorem dX4_directoryHolds_47 : decode cX4_directoryHolds 47 = .ok (.iconst 0, 1) := by decide +kernel
theorem dX4_directoryHolds_48 : decode cX4_directoryHolds 48 = .ok (.ireturn, 1) := by decide +kernel
theorem dX4_directoryHolds_49 : decode cX4_directoryHolds 49 = .ok (.iconst 0, 1) := by decide +kernel
theorem dX4_directoryHolds_50 : decode cX4_directoryHolds 50 = .ok (.istore_n 2, 1) := by decide +kernel
theorem dX4_directoryHolds_51 : decode cX4_directoryHolds 51 = .ok (.iconst 1, 1) := by decide +kernel
theorem dX4_directoryHolds_52 : decode cX4_directoryHolds 52 = .ok (.istore_n 3, 1) := by decide +kernel
theorem dX4_directoryHolds_53 : decode cX4_directoryHolds 53 = .ok (.iload_n 3, 1) := by decide +kernel
theorem dX4_directoryHolds_54 : decode cX4_directoryHolds 54 = .ok (.iconst 4, 1) := by decide +kernel
theorem dX4_directoryHolds_55 : decode cX4_directoryHolds 55 = .ok (.if_icmp .gt 18, 3) := by decide +kernel
theorem dX4_directoryHolds_58 : decode cX4_directoryHolds 58 = .ok (.iconst 1, 1) := by decide +kernel
theorem dX4_directoryHolds_59 : decode cX4_directoryHolds 59 = .ok (.iload_n 3, 1) := by decide +kernel
theorem dX4_directoryHolds_60 : decode cX4_directoryHolds 60 = .ok (.ishl, 1) := by decide +kernel
theorem dX4_directoryHolds_61 : decode cX4_directoryHolds 61 = .ok (.iload_n 1, 1) := by decide +kernel
theorem dX4_directoryHolds_62 : decode cX4_directoryHolds 62 = .ok (.if_icmp .gt 5, 3) := by decide +kernel
theorem dX4_directoryHolds_65 : decode cX4_directoryHolds 65 = .ok (.iload_n 3, 1) := by decide +kernel
theorem dX4_directoryHolds_66 : decode cX4_directoryHolds 66 = .ok (.istore_n 2, 1) := by decide +kernel
theorem dX4_directoryHolds_67 : decode cX4_directoryHolds 67 = .ok (.iinc 3 1, 3) := by decide +kernel
theorem dX4_directoryHolds_70 : decode cX4_directoryHolds 70 = .ok (.goto (-17), 3) := by decide +kernel
theorem dX4_directoryHolds_73 : decode cX4_directoryHolds 73 = .ok (.bipush 16, 2) := by decide +kernel
theorem dX4_directoryHolds_75 : decode cX4_directoryHolds 75 = .ok (.iload_n 2, 1) := by decide +kernel
theorem dX4_directoryHolds_76 : decode cX4_directoryHolds 76 = .ok (.ishl, 1) := by decide +kernel
theorem dX4_directoryHolds_77 : decode cX4_directoryHolds 77 = .ok (.istore_n 3, 1) := by decide +kernel
theorem dX4_directoryHolds_78 : decode cX4_directoryHolds 78 = .ok (.aload_n 0, 1) := by decide +kernel
theorem dX4_directoryHolds_79 : decode cX4_directoryHolds 79 = .ok (.getfield 9, 3) := by decide +kernel
theorem dX4_directoryHolds_82 : decode cX4_directoryHolds 82 = .ok (.iload_n 1, 1) := by decide +kernel
theorem dX4_directoryHolds_83 : decode cX4_directoryHolds 83 = .ok (.putfield 80, 3) := by decide +kernel
theorem dX4_directoryHolds_86 : decode cX4_directoryHolds 86 = .ok (.aload_n 0, 1) := by decide +kernel
theorem dX4_directoryHolds_87 : decode cX4_directoryHolds 87 = .ok (.getfield 9, 3) := by decide +kernel
theorem dX4_directoryHolds_90 : decode cX4_directoryHolds 90 = .ok (.bipush 6, 2) := by decide +kernel
theorem dX4_directoryHolds_92 : decode cX4_directoryHolds 92 = .ok (.invokevirtual 64, 3) := by decide +kernel
theorem dX4_directoryHolds_95 : decode cX4_directoryHolds 95 = .ok (.iload_n 3, 1) := by decide +kernel
theorem dX4_directoryHolds_96 : decode cX4_directoryHolds 96 = .ok (.if_icmp .ne 55, 3) := by decide +kernel
theorem dX4_directoryHolds_99 : decode cX4_directoryHolds 99 = .ok (.aload_n 0, 1) := by decide +kernel
theorem dX4_directoryHolds_100 : decode cX4_directoryHolds 100 = .ok (.getfield 9, 3) := by decide +kernel
theorem dX4_directoryHolds_103 : decode cX4_directoryHolds 103 = .ok (.bipush 8, 2) := by decide +kernel
theorem dX4_directoryHolds_105 : decode cX4_directoryHolds 105 = .ok (.invokevirtual 64, 3) := by decide +kernel
theorem dX4_directoryHolds_108 : decode cX4_directoryHolds 108 = .ok (.iload_n 2, 1) := by decide +kernel
theorem dX4_directoryHolds_109 : decode cX4_directoryHolds 109 = .ok (.if_icmp .ne 42, 3) := by decide +kernel
theorem dX4_directoryHolds_112 : decode cX4_directoryHolds 112 = .ok (.aload_n 0, 1) := by decide +kernel
theorem dX4_directoryHolds_113 : decode cX4_directoryHolds 113 = .ok (.getfield 9, 3) := by decide +kernel
theorem dX4_directoryHolds_116 : decode cX4_directoryHolds 116 = .ok (.bipush 10, 2) := by decide +kernel
theorem dX4_directoryHolds_118 : decode cX4_directoryHolds 118 = .ok (.invokevirtual 64, 3) := by decide +kernel
theorem dX4_directoryHolds_121 : decode cX4_directoryHolds 121 = .ok (.bipush 16, 2) := by decide +kernel
theorem dX4_directoryHolds_123 : decode cX4_directoryHolds 123 = .ok (.iload_n 1, 1) := by decide +kernel
theorem dX4_directoryHolds_124 : decode cX4_directoryHolds 124 = .ok (.imul, 1) := by decide +kernel
theorem dX4_directoryHolds_125 : decode cX4_directoryHolds 125 = .ok (.iload_n 3, 1) := by decide +kernel
theorem dX4_directoryHolds_126 : decode cX4_directoryHolds 126 = .ok (.isub, 1) := by decide +kernel
theorem dX4_directoryHolds_127 : decode cX4_directoryHolds 127 = .ok (.if_icmp .ne 24, 3) := by decide +kernel
theorem dX4_directoryHolds_130 : decode cX4_directoryHolds 130 = .ok (.bipush 12, 2) := by decide +kernel
theorem dX4_directoryHolds_132 : decode cX4_directoryHolds 132 = .ok (.bipush 16, 2) := by decide +kernel
theorem dX4_directoryHolds_134 : decode cX4_directoryHolds 134 = .ok (.iload_n 1, 1) := by decide +kernel
theorem dX4_directoryHolds_135 : decode cX4_directoryHolds 135 = .ok (.imul, 1) := by decide +kernel
theorem dX4_directoryHolds_136 : decode cX4_directoryHolds 136 = .ok (.iadd, 1) := by decide +kernel
theorem dX4_directoryHolds_137 : decode cX4_directoryHolds 137 = .ok (.aload_n 0, 1) := by decide +kernel
theorem dX4_directoryHolds_138 : decode cX4_directoryHolds 138 = .ok (.getfield 9, 3) := by decide +kernel
theorem dX4_directoryHolds_141 : decode cX4_directoryHolds 141 = .ok (.getfield 70, 3) := by decide +kernel
theorem dX4_directoryHolds_144 : decode cX4_directoryHolds 144 = .ok (.if_icmp .gt 7, 3) := by decide +kernel
theorem dX4_directoryHolds_147 : decode cX4_directoryHolds 147 = .ok (.iconst 1, 1) := by decide +kernel
theorem dX4_directoryHolds_148 : decode cX4_directoryHolds 148 = .ok (.goto 4, 3) := by decide +kernel
theorem dX4_directoryHolds_151 : decode cX4_directoryHolds 151 = .ok (.iconst 0, 1) := by decide +kernel
theorem dX4_directoryHolds_152 : decode cX4_directoryHolds 152 = .ok (.ireturn, 1) := by decide +kernel
def B_X4_directoryHolds_67 (N : Nat) (k53 : Int32 → Int32 → Int32 → sv_V → Option (Int32 × sv_V)) (l1 : Int32) (l2 : Int32) (l3 : Int32) (V : sv_V) : Option (Int32 × sv_V) := sx_let (l3 + 1) (fun x1 => k53 l1 l2 x1 V)
set_option maxRecDepth 20000 in
theorem tB_X4_directoryHolds_67 {g : sx_G} (hG : sx_Go g) {P : Option Value → sv_V → Prop} {r : Int32} {Vr : sv_V} (hP : P (some (.int r)) Vr) {N : Nat} {k53 : Int32 → Int32 → Int32 → sv_V → Option (Int32 × sv_V)} (hk53 : ∀ (l1 : Int32) (l2 : Int32) (l3 : Int32) (V : sv_V), k53 l1 l2 l3 V = some (r, Vr) → sv_N g qX4_directoryHolds 2 53 [(0, .ref 29), (1, .int l1), (2, .int l2), (3, .int l3)] [] V P) {l1 : Int32} {l2 : Int32} {l3 : Int32} {V : sv_V} (h : B_X4_directoryHolds_67 N k53 l1 l2 l3 V = some (r, Vr)) : sv_N g qX4_directoryHolds 2 67 [(0, .ref 29), (1, .int l1), (2, .int l2), (3, .int l3)] [] V P := by
  unfold B_X4_directoryHolds_67 at h
  obtain ⟨x1, hx1⟩ : ∃ z : Int32, z = l3 + 1 := ⟨_, rfl⟩
  have h := sx_letE hx1 h
  refine sx_iinc (pc := 67) (v := x1) (lo' := [(3, .int x1), (0, .ref 29), (1, .int l1), (2, .int l2)]) dX4_directoryHolds_67 sx_m3 (by rw [hx1]; rfl) (by decide) rfl ?_
  refine sx_goto (pc := 70) (tgt := 53) dX4_directoryHolds_70 (by decide) ?_
  refine sx_wk (sx_s1 sx_m1 (sx_s1 sx_m2 (sx_s1 sx_m3 (sx_s1 sx_m0 sx_s0)))) ?_
  exact hk53 _ _ _ _ h
def B_X4_directoryHolds_53 (N : Nat) (k53 : Int32 → Int32 → Int32 → sv_V → Option (Int32 × sv_V)) (l1 : Int32) (l2 : Int32) (l3 : Int32) (V : sv_V) : Option (Int32 × sv_V) := if (4 : Int32) < l3 then (sx_let ((16 : Int32) <<< (l2 &&& 31)) (fun x3 => sx_let (sv_I V 2 5 l1) (fun V4 => (F_X2_u2 (6 : Int32) V4).bind (fun (x7, V5) => if x7 = x3 then ((F_X2_u2 (8 : Int32) V5).bind (fun (x11, V9) => if x11 = l2 then ((F_X2_u2 (10 : Int32) V9).bind (fun (x15, V13) => if x15 = (((16 : Int32) * l1) - x3) then (if (V13.1 2 1) < ((12 : Int32) + ((16 : Int32) * l1)) then (some ((0 : Int32), V13)) else (some ((1 : Int32), V13))) else (some ((0 : Int32), V13)))) else (some ((0 : Int32), V9)))) else (some ((0 : Int32), V5)))))) else (if l1 < ((1 : Int32) <<< (l3 &&& 31)) then (B_X4_directoryHolds_67 N k53 l1 l2 l3 V) else (B_X4_directoryHolds_67 N k53 l1 l3 l3 V))
set_option maxRecDepth 20000 in
theorem tB_X4_directoryHolds_53 {g : sx_G} (hG : sx_Go g) {P : Option Value → sv_V → Prop} {r : Int32} {Vr : sv_V} (hP : P (some (.int r)) Vr) {N : Nat} {k53 : Int32 → Int32 → Int32 → sv_V → Option (Int32 × sv_V)} (hk53 : ∀ (l1 : Int32) (l2 : Int32) (l3 : Int32) (V : sv_V), k53 l1 l2 l3 V = some (r, Vr) → sv_N g qX4_directoryHolds 2 53 [(0, .ref 29), (1, .int l1), (2, .int l2), (3, .int l3)] [] V P) {l1 : Int32} {l2 : Int32} {l3 : Int32} {V : sv_V} (h : B_X4_directoryHolds_53 N k53 l1 l2 l3 V = some (r, Vr)) : sv_N g qX4_directoryHolds 2 53 [(0, .ref 29), (1, .int l1), (2, .int l2), (3, .int l3)] [] V P := by
  unfold B_X4_directoryHolds_53 at h
  refine sx_iload_n (pc := 53) dX4_directoryHolds_53 sx_m3 ?_
  refine sx_iconst (pc := 54) (v := 4) dX4_directoryHolds_54 (by decide) ?_
  refine sx_icmp_gt (pc := 55) (tgt := 73) dX4_directoryHolds_55 (by decide) (fun c2 => ?_) (fun c2 => ?_)
  · have h := sx_pos c2 h
    refine sx_bipush (pc := 73) (v := 16) dX4_directoryHolds_73 (by decide) ?_
    refine sx_iload_n (pc := 75) dX4_directoryHolds_75 sx_m2 ?_
    refine sx_ishl (pc := 76) dX4_directoryHolds_76 ?_
    refine sv_tI (fun x3 hx3 => ?_)
    have h := sx_letE hx3 h
    refine sx_istore_n (pc := 77) (lo' := [(3, .int x3), (0, .ref 29), (1, .int l1), (2, .int l2)]) dX4_directoryHolds_77 (by decide) rfl ?_
    refine sx_aload_n (pc := 78) dX4_directoryHolds_78 sx_m1 ?_
    refine sv_getO (pc := 79) hG dX4_directoryHolds_79 f_4_9 lay_29 rfl cr_29_0 ?_
    refine sx_iload_n (pc := 82) dX4_directoryHolds_82 sx_m2 ?_
    obtain ⟨V4, hV4⟩ : ∃ z : sv_V, z = sv_I V 2 5 l1 := ⟨_, rfl⟩
    have h := sx_letE hV4 h
    refine sv_putI (pc := 83) hG dX4_directoryHolds_83 f_4_80 lay_2 rfl hV4 ?_
    refine sx_aload_n (pc := 86) dX4_directoryHolds_86 sx_m1 ?_
    refine sv_getO (pc := 87) hG dX4_directoryHolds_87 f_4_9 lay_29 rfl cr_29_0 ?_
    refine sx_bipush (pc := 90) (v := 6) dX4_directoryHolds_90 (by decide) ?_
    obtain ⟨⟨x7, V5⟩, g6, h⟩ := sx_bnd h
    refine sv_cV (pc := 92) (y := qX2_u2) (o := (some (.int x7))) (as := [.int (6 : Int32)]) (V1 := V5) hG dX4_directoryHolds_92 l_X4_64 y0X2_u2 yvX2_u2 rfl (Nat.le_of_ble_eq_true rfl) lay_2 kr_2 (by decide) (Nat.le_of_ble_eq_true rfl) rfl rfl rfl (t_X2_u2 hG ⟨rfl, rfl⟩ g6) ?_
    refine sx_iload_n (pc := 95) dX4_directoryHolds_95 sx_m0 ?_
    refine sx_icmp_ne (pc := 96) (tgt := 151) dX4_directoryHolds_96 (by decide) (fun c8 => ?_) (fun c8 => ?_)
    · have h := sx_neg c8 h
      refine sx_iconst (pc := 151) (v := 0) dX4_directoryHolds_151 (by decide) ?_
      exact sv_zret (pc := 152) dX4_directoryHolds_152 rfl rfl h hP
    · have h := sx_pos c8 h
      refine sx_aload_n (pc := 99) dX4_directoryHolds_99 sx_m1 ?_
      refine sv_getO (pc := 100) hG dX4_directoryHolds_100 f_4_9 lay_29 rfl cr_29_0 ?_
      refine sx_bipush (pc := 103) (v := 8) dX4_directoryHolds_103 (by decide) ?_
      obtain ⟨⟨x11, V9⟩, g10, h⟩ := sx_bnd h
      refine sv_cV (pc := 105) (y := qX2_u2) (o := (some (.int x11))) (as := [.int (8 : Int32)]) (V1 := V9) hG dX4_directoryHolds_105 l_X4_64 y0X2_u2 yvX2_u2 rfl (Nat.le_of_ble_eq_true rfl) lay_2 kr_2 (by decide) (Nat.le_of_ble_eq_true rfl) rfl rfl rfl (t_X2_u2 hG ⟨rfl, rfl⟩ g10) ?_
      refine sx_iload_n (pc := 108) dX4_directoryHolds_108 sx_m3 ?_
      refine sx_icmp_ne (pc := 109) (tgt := 151) dX4_directoryHolds_109 (by decide) (fun c12 => ?_) (fun c12 => ?_)
      · have h := sx_neg c12 h
        refine sx_iconst (pc := 151) (v := 0) dX4_directoryHolds_151 (by decide) ?_
        exact sv_zret (pc := 152) dX4_directoryHolds_152 rfl rfl h hP
      · have h := sx_pos c12 h
        refine sx_aload_n (pc := 112) dX4_directoryHolds_112 sx_m1 ?_
        refine sv_getO (pc := 113) hG dX4_directoryHolds_113 f_4_9 lay_29 rfl cr_29_0 ?_
        refine sx_bipush (pc := 116) (v := 10) dX4_directoryHolds_116 (by decide) ?_
        obtain ⟨⟨x15, V13⟩, g14, h⟩ := sx_bnd h
        refine sv_cV (pc := 118) (y := qX2_u2) (o := (some (.int x15))) (as := [.int (10 : Int32)]) (V1 := V13) hG dX4_directoryHolds_118 l_X4_64 y0X2_u2 yvX2_u2 rfl (Nat.le_of_ble_eq_true rfl) lay_2 kr_2 (by decide) (Nat.le_of_ble_eq_true rfl) rfl rfl rfl (t_X2_u2 hG ⟨rfl, rfl⟩ g14) ?_
        refine sx_bipush (pc := 121) (v := 16) dX4_directoryHolds_121 (by decide) ?_
        refine sx_iload_n (pc := 123) dX4_directoryHolds_123 sx_m2 ?_
        refine sx_imul (pc := 124) dX4_directoryHolds_124 ?_
        refine sx_iload_n (pc := 125) dX4_directoryHolds_125 sx_m0 ?_
        refine sx_isub (pc := 126) dX4_directoryHolds_126 ?_
        refine sx_icmp_ne (pc := 127) (tgt := 151) dX4_directoryHolds_127 (by decide) (fun c16 => ?_) (fun c16 => ?_)
        · have h := sx_neg c16 h
          refine sx_iconst (pc := 151) (v := 0) dX4_directoryHolds_151 (by decide) ?_
          exact sv_zret (pc := 152) dX4_directoryHolds_152 rfl rfl h hP
        · have h := sx_pos c16 h
          refine sx_bipush (pc := 130) (v := 12) dX4_directoryHolds_130 (by decide) ?_
          refine sx_bipush (pc := 132) (v := 16) dX4_directoryHolds_132 (by decide) ?_
          refine sx_iload_n (pc := 134) dX4_directoryHolds_134 sx_m2 ?_
          refine sx_imul (pc := 135) dX4_directoryHolds_135 ?_
          refine sx_iadd (pc := 136) dX4_directoryHolds_136 ?_
          refine sx_aload_n (pc := 137) dX4_directoryHolds_137 sx_m1 ?_
          refine sv_getO (pc := 138) hG dX4_directoryHolds_138 f_4_9 lay_29 rfl cr_29_0 ?_
          refine sv_getI (pc := 141) hG dX4_directoryHolds_141 f_4_70 lay_2 rfl ?_
          refine sx_icmp_gt (pc := 144) (tgt := 151) dX4_directoryHolds_144 (by decide) (fun c17 => ?_) (fun c17 => ?_)
          · have h := sx_pos c17 h
            refine sx_iconst (pc := 151) (v := 0) dX4_directoryHolds_151 (by decide) ?_
            exact sv_zret (pc := 152) dX4_directoryHolds_152 rfl rfl h hP
          · have h := sx_neg c17 h
            refine sx_iconst (pc := 147) (v := 1) dX4_directoryHolds_147 (by decide) ?_
            refine sx_goto (pc := 148) (tgt := 152) dX4_directoryHolds_148 (by decide) ?_
            exact sv_zret (pc := 152) dX4_directoryHolds_152 rfl rfl h hP
  · have h := sx_neg c2 h
    refine sx_iconst (pc := 58) (v := 1) dX4_directoryHolds_58 (by decide) ?_
    refine sx_iload_n (pc := 59) dX4_directoryHolds_59 sx_m3 ?_
    refine sx_ishl (pc := 60) dX4_directoryHolds_60 ?_
    refine sx_iload_n (pc := 61) dX4_directoryHolds_61 sx_m1 ?_
    refine sx_icmp_gt (pc := 62) (tgt := 67) dX4_directoryHolds_62 (by decide) (fun c18 => ?_) (fun c18 => ?_)
    · have h := sx_pos c18 h
      refine sx_wk (sx_s1 sx_m0 (sx_s1 sx_m1 (sx_s1 sx_m2 (sx_s1 sx_m3 sx_s0)))) ?_
      exact tB_X4_directoryHolds_67 hG hP hk53 h
    · have h := sx_neg c18 h
      refine sx_iload_n (pc := 65) dX4_directoryHolds_65 sx_m3 ?_
      refine sx_istore_n (pc := 66) (lo' := [(2, .int l3), (0, .ref 29), (1, .int l1), (3, .int l3)]) dX4_directoryHolds_66 (by decide) rfl ?_
      refine sx_wk (sx_s1 sx_m1 (sx_s1 sx_m2 (sx_s1 sx_m0 (sx_s1 sx_m3 sx_s0)))) ?_
      exact tB_X4_directoryHolds_67 hG hP hk53 h
theorem tL_X4_directoryHolds_53 {g : sx_G} (hG : sx_Go g) {P : Option Value → sv_V → Prop} {r : Int32} {Vr : sv_V} (hP : P (some (.int r)) Vr) {N : Nat}   : ∀ (n : Nat) (l1 : Int32) (l2 : Int32) (l3 : Int32) (V : sv_V), sx_lp4 (B_X4_directoryHolds_53 N ) n l1 l2 l3 V = some (r, Vr) → sv_N g qX4_directoryHolds 2 53 [(0, .ref 29), (1, .int l1), (2, .int l2), (3, .int l3)] [] V P :=
  sx_lp4_ind (fun k0 ih _ _ _ V h => tB_X4_directoryHolds_53 hG hP ih h)
def F_X4_directoryHolds (N : Nat)  (V : sv_V) : Option (Int32 × sv_V) := (F_X2_u2 (4 : Int32) V).bind (fun (x21, V19) => if (V19.1 2 1) < (12 : Int32) then (some ((0 : Int32), V19)) else ((F_X2_u4 (0 : Int32) V19).bind (fun (x25, V23) => if (lg_cmp x25 (65536 : Int64)) = 0 then (if x21 < (1 : Int32) then (some ((0 : Int32), V23)) else (if x21 ≤ (16 : Int32) then (sx_lp4 (B_X4_directoryHolds_53 N ) N x21 (0 : Int32) (1 : Int32) V23) else (some ((0 : Int32), V23)))) else (some ((0 : Int32), V23)))))
set_option maxRecDepth 20000 in
theorem t_X4_directoryHolds {g : sx_G} (hG : sx_Go g) {P : Option Value → sv_V → Prop} {r : Int32} {Vr : sv_V} (hP : P (some (.int r)) Vr) {N : Nat}  {V : sv_V} (h : F_X4_directoryHolds N  V = some (r, Vr)) : sv_N g qX4_directoryHolds 2 0 [(0, .ref 29)] [] V P := by
  unfold F_X4_directoryHolds at h
  refine sx_aload_n (pc := 0) dX4_directoryHolds_0 sx_m0 ?_
  refine sv_getO (pc := 1) hG dX4_directoryHolds_1 f_4_9 lay_29 rfl cr_29_0 ?_
  refine sx_iconst (pc := 4) (v := 4) dX4_directoryHolds_4 (by decide) ?_
  obtain ⟨⟨x21, V19⟩, g20, h⟩ := sx_bnd h
  refine sv_cV (pc := 5) (y := qX2_u2) (o := (some (.int x21))) (as := [.int (4 : Int32)]) (V1 := V19) hG dX4_directoryHolds_5 l_X4_64 y0X2_u2 yvX2_u2 rfl (Nat.le_of_ble_eq_true rfl) lay_2 kr_2 (by decide) (Nat.le_of_ble_eq_true rfl) rfl rfl rfl (t_X2_u2 hG ⟨rfl, rfl⟩ g20) ?_
  refine sx_istore_n (pc := 8) (lo' := [(1, .int x21), (0, .ref 29)]) dX4_directoryHolds_8 (by decide) rfl ?_
  refine sx_aload_n (pc := 9) dX4_directoryHolds_9 sx_m1 ?_
  refine sv_getO (pc := 10) hG dX4_directoryHolds_10 f_4_9 lay_29 rfl cr_29_0 ?_
  refine sv_getI (pc := 13) hG dX4_directoryHolds_13 f_4_70 lay_2 rfl ?_
  refine sx_bipush (pc := 16) (v := 12) dX4_directoryHolds_16 (by decide) ?_
  refine sx_icmp_lt (pc := 18) (tgt := 47) dX4_directoryHolds_18 (by decide) (fun c22 => ?_) (fun c22 => ?_)
  · have h := sx_pos c22 h
    refine sx_iconst (pc := 47) (v := 0) dX4_directoryHolds_47 (by decide) ?_
    exact sv_zret (pc := 48) dX4_directoryHolds_48 rfl rfl h hP
  · have h := sx_neg c22 h
    refine sx_aload_n (pc := 21) dX4_directoryHolds_21 sx_m1 ?_
    refine sv_getO (pc := 22) hG dX4_directoryHolds_22 f_4_9 lay_29 rfl cr_29_0 ?_
    refine sx_iconst (pc := 25) (v := 0) dX4_directoryHolds_25 (by decide) ?_
    obtain ⟨⟨x25, V23⟩, g24, h⟩ := sx_bnd h
    refine sv_cV (pc := 26) (y := qX2_u4) (o := (some (.long x25))) (as := [.int (0 : Int32)]) (V1 := V23) hG dX4_directoryHolds_26 l_X4_74 y0X2_u4 yvX2_u4 rfl (Nat.le_of_ble_eq_true rfl) lay_2 kr_2 (by decide) (Nat.le_of_ble_eq_true rfl) rfl rfl rfl (t_X2_u4 hG ⟨rfl, rfl⟩ g24) ?_
    refine sx_ldc2 (pc := 29) dX4_directoryHolds_29 k_X4_78 ?_
    refine sx_lcmp (pc := 32) dX4_directoryHolds_32 ?_
    refine sx_if_ne (pc := 33) (tgt := 47) dX4_directoryHolds_33 (by decide) (fun c26 => ?_) (fun c26 => ?_)
    · have h := sx_neg c26 h
      refine sx_iconst (pc := 47) (v := 0) dX4_directoryHolds_47 (by decide) ?_
      exact sv_zret (pc := 48) dX4_directoryHolds_48 rfl rfl h hP
    · have h := sx_pos c26 h
      refine sx_iload_n (pc := 36) dX4_directoryHolds_36 sx_m0 ?_
      refine sx_iconst (pc := 37) (v := 1) dX4_directoryHolds_37 (by decide) ?_
      refine sx_icmp_lt (pc := 38) (tgt := 47) dX4_directoryHolds_38 (by decide) (fun c27 => ?_) (fun c27 => ?_)
      · have h := sx_pos c27 h
        refine sx_iconst (pc := 47) (v := 0) dX4_directoryHolds_47 (by decide) ?_
        exact sv_zret (pc := 48) dX4_directoryHolds_48 rfl rfl h hP
      · have h := sx_neg c27 h
        refine sx_iload_n (pc := 41) dX4_directoryHolds_41 sx_m0 ?_
        refine sx_bipush (pc := 42) (v := 16) dX4_directoryHolds_42 (by decide) ?_
        refine sx_icmp_le (pc := 44) (tgt := 49) dX4_directoryHolds_44 (by decide) (fun c28 => ?_) (fun c28 => ?_)
        · have h := sx_pos c28 h
          refine sx_iconst (pc := 49) (v := 0) dX4_directoryHolds_49 (by decide) ?_
          refine sx_istore_n (pc := 50) (lo' := [(2, .int (0 : Int32)), (1, .int x21), (0, .ref 29)]) dX4_directoryHolds_50 (by decide) rfl ?_
          refine sx_iconst (pc := 51) (v := 1) dX4_directoryHolds_51 (by decide) ?_
          refine sx_istore_n (pc := 52) (lo' := [(3, .int (1 : Int32)), (2, .int (0 : Int32)), (1, .int x21), (0, .ref 29)]) dX4_directoryHolds_52 (by decide) rfl ?_
          refine sx_wk (sx_s1 sx_m3 (sx_s1 sx_m2 (sx_s1 sx_m1 (sx_s1 sx_m0 sx_s0)))) ?_
          exact tL_X4_directoryHolds_53 hG hP  N _ _ _ _ h
        · have h := sx_neg c28 h
          refine sx_iconst (pc := 47) (v := 0) dX4_directoryHolds_47 (by decide) ?_
          exact sv_zret (pc := 48) dX4_directoryHolds_48 rfl rfl h hP
theorem dX4_entry_0 : decode cX4_entry 0 = .ok (.aload_n 0, 1) := by decide +kernel
theorem dX4_entry_1 : decode cX4_entry 1 = .ok (.getfield 9, 3) := by decide +kernel
theorem dX4_entry_4 : decode cX4_entry 4 = .ok (.bipush 12, 2) := by decide +kernel
theorem dX4_entry_6 : decode cX4_entry 6 = .ok (.bipush 16, 2) := by decide +kernel
theorem dX4_entry_8 : decode cX4_entry 8 = .ok (.iload_n 1, 1) := by decide +kernel
theorem dX4_entry_9 : decode cX4_entry 9 = .ok (.imul, 1) := by decide +kernel
theorem dX4_entry_10 : decode cX4_entry 10 = .ok (.iadd, 1) := by decide +kernel
theorem dX4_entry_11 : decode cX4_entry 11 = .ok (.iconst 4, 1) := by decide +kernel
theorem dX4_entry_12 : decode cX4_entry 12 = .ok (.iload_n 2, 1) := by decide +kernel
theorem dX4_entry_13 : decode cX4_entry 13 = .ok (.imul, 1) := by decide +kernel
theorem dX4_entry_14 : decode cX4_entry 14 = .ok (.iadd, 1) := by decide +kernel
theorem dX4_entry_15 : decode cX4_entry 15 = .ok (.invokevirtual 74, 3) := by decide +kernel
theorem dX4_entry_18 : decode cX4_entry 18 = .ok (.lreturn, 1) := by decide +kernel
def F_X4_entry (l1 : Int32) (l2 : Int32) (V : sv_V) : Option (Int64 × sv_V) := (F_X2_u4 (((12 : Int32) + ((16 : Int32) * l1)) + ((4 : Int32) * l2)) V).bind (fun (x3, V1) => some (x3, V1))
set_option maxRecDepth 20000 in
theorem t_X4_entry {g : sx_G} (hG : sx_Go g) {P : Option Value → sv_V → Prop} {r : Int64} {Vr : sv_V} (hP : P (some (.long r)) Vr) {l1 : Int32} {l2 : Int32} {V : sv_V} (h : F_X4_entry l1 l2 V = some (r, Vr)) : sv_N g qX4_entry 2 0 [(0, .ref 29), (1, .int l1), (2, .int l2)] [] V P := by
  unfold F_X4_entry at h
  refine sx_aload_n (pc := 0) dX4_entry_0 sx_m0 ?_
  refine sv_getO (pc := 1) hG dX4_entry_1 f_4_9 lay_29 rfl cr_29_0 ?_
  refine sx_bipush (pc := 4) (v := 12) dX4_entry_4 (by decide) ?_
  refine sx_bipush (pc := 6) (v := 16) dX4_entry_6 (by decide) ?_
  refine sx_iload_n (pc := 8) dX4_entry_8 sx_m1 ?_
  refine sx_imul (pc := 9) dX4_entry_9 ?_
  refine sx_iadd (pc := 10) dX4_entry_10 ?_
  refine sx_iconst (pc := 11) (v := 4) dX4_entry_11 (by decide) ?_
  refine sx_iload_n (pc := 12) dX4_entry_12 sx_m2 ?_
  refine sx_imul (pc := 13) dX4_entry_13 ?_
  refine sx_iadd (pc := 14) dX4_entry_14 ?_
  obtain ⟨⟨x3, V1⟩, g2, h⟩ := sx_bnd h
  refine sv_cV (pc := 15) (y := qX2_u4) (o := (some (.long x3))) (as := [.int (((12 : Int32) + ((16 : Int32) * l1)) + ((4 : Int32) * l2))]) (V1 := V1) hG dX4_entry_15 l_X4_74 y0X2_u4 yvX2_u4 rfl (Nat.le_of_ble_eq_true rfl) lay_2 kr_2 (by decide) (Nat.le_of_ble_eq_true rfl) rfl rfl rfl (t_X2_u4 hG ⟨rfl, rfl⟩ g2) ?_
  exact sv_lret (pc := 18) dX4_entry_18 rfl h hP
theorem dX4_tagsRise_0 : decode cX4_tagsRise 0 = .ok (.iconst 1, 1) := by decide +kernel
theorem dX4_tagsRise_1 : decode cX4_tagsRise 1 = .ok (.istore_n 1, 1) := by decide +kernel
theorem dX4_tagsRise_2 : decode cX4_tagsRise 2 = .ok (.iload_n 1, 1) := by decide +kernel
theorem dX4_tagsRise_3 : decode cX4_tagsRise 3 = .ok (.aload_n 0, 1) := by decide +kernel
theorem dX4_tagsRise_4 : decode cX4_tagsRise 4 = .ok (.getfield 9, 3) := by decide +kernel
theorem dX4_tagsRise_7 : decode cX4_tagsRise 7 = .ok (.getfield 80, 3) := by decide +kernel
theorem dX4_tagsRise_10 : decode cX4_tagsRise 10 = .ok (.if_icmp .ge 29, 3) := by decide +kernel
theorem dX4_tagsRise_13 : decode cX4_tagsRise 13 = .ok (.aload_n 0, 1) := by decide +kernel
theorem dX4_tagsRise_14 : decode cX4_tagsRise 14 = .ok (.iload_n 1, 1) := by decide +kernel
theorem dX4_tagsRise_15 : decode cX4_tagsRise 15 = .ok (.iconst 0, 1) := by decide +kernel
theorem dX4_tagsRise_16 : decode cX4_tagsRise 16 = .ok (.invokevirtual 83, 3) := by decide +kernel
theorem dX4_tagsRise_19 : decode cX4_tagsRise 19 = .ok (.aload_n 0, 1) := by decide +kernel
theorem dX4_tagsRise_20 : decode cX4_tagsRise 20 = .ok (.iload_n 1, 1) := by decide +kernel
theorem dX4_tagsRise_21 : decode cX4_tagsRise 21 = .ok (.iconst 1, 1) := by decide +kernel
theorem dX4_tagsRise_22 : decode cX4_tagsRise 22 = .ok (.isub, 1) := by decide +kernel
theorem dX4_tagsRise_23 : decode cX4_tagsRise 23 = .ok (.iconst 0, 1) := by decide +kernel
theorem dX4_tagsRise_24 : decode cX4_tagsRise 24 = .ok (.invokevirtual 83, 3) := by decide +kernel
theorem dX4_tagsRise_27 : decode cX4_tagsRise 27 = .ok (.lcmp, 1) := by decide +kernel
theorem dX4_tagsRise_28 : decode cX4_tagsRise 28 = .ok (.ifCond .gt 5, 3) := by decide +kernel
theorem dX4_tagsRise_31 : decode cX4_tagsRise 31 = .ok (.iconst 0, 1) := by decide +kernel
theorem dX4_tagsRise_32 : decode cX4_tagsRise 32 = .ok (.ireturn, 1) := by decide +kernel
theorem dX4_tagsRise_33 : decode cX4_tagsRise 33 = .ok (.iinc 1 1, 3) := by decide +kernel
theorem dX4_tagsRise_36 : decode cX4_tagsRise 36 = .ok (.goto (-34), 3) := by decide +kernel
theorem dX4_tagsRise_39 : decode cX4_tagsRise 39 = .ok (.iconst 1, 1) := by decide +kernel
theorem dX4_tagsRise_40 : decode cX4_tagsRise 40 = .ok (.ireturn, 1) := by decide +kernel
def B_X4_tagsRise_2 (N : Nat) (k2 : Int32 → sv_V → Option (Int32 × sv_V)) (l1 : Int32) (V : sv_V) : Option (Int32 × sv_V) := if (V.1 2 5) ≤ l1 then (some ((1 : Int32), V)) else ((F_X4_entry l1 (0 : Int32) V).bind (fun (x4, V2) => (F_X4_entry (l1 - (1 : Int32)) (0 : Int32) V2).bind (fun (x7, V5) => if 0 < (lg_cmp x4 x7) then (sx_let (l1 + 1) (fun x9 => k2 x9 V5)) else (some ((0 : Int32), V5)))))
set_option maxRecDepth 20000 in
theorem tB_X4_tagsRise_2 {g : sx_G} (hG : sx_Go g) {P : Option Value → sv_V → Prop} {r : Int32} {Vr : sv_V} (hP : P (some (.int r)) Vr) {N : Nat} {k2 : Int32 → sv_V → Option (Int32 × sv_V)} (hk2 : ∀ (l1 : Int32) (V : sv_V), k2 l1 V = some (r, Vr) → sv_N g qX4_tagsRise 3 2 [(0, .ref 29), (1, .int l1)] [] V P) {l1 : Int32} {V : sv_V} (h : B_X4_tagsRise_2 N k2 l1 V = some (r, Vr)) : sv_N g qX4_tagsRise 3 2 [(0, .ref 29), (1, .int l1)] [] V P := by
  unfold B_X4_tagsRise_2 at h
  refine sx_iload_n (pc := 2) dX4_tagsRise_2 sx_m1 ?_
  refine sx_aload_n (pc := 3) dX4_tagsRise_3 sx_m0 ?_
  refine sv_getO (pc := 4) hG dX4_tagsRise_4 f_4_9 lay_29 rfl cr_29_0 ?_
  refine sv_getI (pc := 7) hG dX4_tagsRise_7 f_4_80 lay_2 rfl ?_
  refine sx_icmp_ge (pc := 10) (tgt := 39) dX4_tagsRise_10 (by decide) (fun c1 => ?_) (fun c1 => ?_)
  · have h := sx_pos c1 h
    refine sx_iconst (pc := 39) (v := 1) dX4_tagsRise_39 (by decide) ?_
    exact sv_zret (pc := 40) dX4_tagsRise_40 rfl rfl h hP
  · have h := sx_neg c1 h
    refine sx_aload_n (pc := 13) dX4_tagsRise_13 sx_m0 ?_
    refine sx_iload_n (pc := 14) dX4_tagsRise_14 sx_m1 ?_
    refine sx_iconst (pc := 15) (v := 0) dX4_tagsRise_15 (by decide) ?_
    obtain ⟨⟨x4, V2⟩, g3, h⟩ := sx_bnd h
    refine sv_cV (pc := 16) (y := qX4_entry) (o := (some (.long x4))) (as := [.int l1, .int (0 : Int32)]) (V1 := V2) hG dX4_tagsRise_16 l_X4_83 y0X4_entry yvX4_entry rfl (Nat.le_of_ble_eq_true rfl) lay_29 kr_4 (by decide) (Nat.le_of_ble_eq_true rfl) rfl rfl rfl (t_X4_entry hG ⟨rfl, rfl⟩ g3) ?_
    refine sx_aload_n (pc := 19) dX4_tagsRise_19 sx_m0 ?_
    refine sx_iload_n (pc := 20) dX4_tagsRise_20 sx_m1 ?_
    refine sx_iconst (pc := 21) (v := 1) dX4_tagsRise_21 (by decide) ?_
    refine sx_isub (pc := 22) dX4_tagsRise_22 ?_
    refine sx_iconst (pc := 23) (v := 0) dX4_tagsRise_23 (by decide) ?_
    obtain ⟨⟨x7, V5⟩, g6, h⟩ := sx_bnd h
    refine sv_cV (pc := 24) (y := qX4_entry) (o := (some (.long x7))) (as := [.int (l1 - (1 : Int32)), .int (0 : Int32)]) (V1 := V5) hG dX4_tagsRise_24 l_X4_83 y0X4_entry yvX4_entry rfl (Nat.le_of_ble_eq_true rfl) lay_29 kr_4 (by decide) (Nat.le_of_ble_eq_true rfl) rfl rfl rfl (t_X4_entry hG ⟨rfl, rfl⟩ g6) ?_
    refine sx_lcmp (pc := 27) dX4_tagsRise_27 ?_
    refine sx_if_gt (pc := 28) (tgt := 33) dX4_tagsRise_28 (by decide) (fun c8 => ?_) (fun c8 => ?_)
    · have h := sx_pos c8 h
      obtain ⟨x9, hx9⟩ : ∃ z : Int32, z = l1 + 1 := ⟨_, rfl⟩
      have h := sx_letE hx9 h
      refine sx_iinc (pc := 33) (v := x9) (lo' := [(1, .int x9), (0, .ref 29)]) dX4_tagsRise_33 sx_m1 (by rw [hx9]; rfl) (by decide) rfl ?_
      refine sx_goto (pc := 36) (tgt := 2) dX4_tagsRise_36 (by decide) ?_
      refine sx_wk (sx_s1 sx_m1 (sx_s1 sx_m0 sx_s0)) ?_
      exact hk2 _ _ h
    · have h := sx_neg c8 h
      refine sx_iconst (pc := 31) (v := 0) dX4_tagsRise_31 (by decide) ?_
      exact sv_zret (pc := 32) dX4_tagsRise_32 rfl rfl h hP
theorem tL_X4_tagsRise_2 {g : sx_G} (hG : sx_Go g) {P : Option Value → sv_V → Prop} {r : Int32} {Vr : sv_V} (hP : P (some (.int r)) Vr) {N : Nat}   : ∀ (n : Nat) (l1 : Int32) (V : sv_V), sx_lp2 (B_X4_tagsRise_2 N ) n l1 V = some (r, Vr) → sv_N g qX4_tagsRise 3 2 [(0, .ref 29), (1, .int l1)] [] V P :=
  sx_lp2_ind (fun k0 ih _ V h => tB_X4_tagsRise_2 hG hP ih h)
def F_X4_tagsRise (N : Nat)  (V : sv_V) : Option (Int32 × sv_V) := sx_lp2 (B_X4_tagsRise_2 N ) N (1 : Int32) V
set_option maxRecDepth 20000 in
theorem t_X4_tagsRise {g : sx_G} (hG : sx_Go g) {P : Option Value → sv_V → Prop} {r : Int32} {Vr : sv_V} (hP : P (some (.int r)) Vr) {N : Nat}  {V : sv_V} (h : F_X4_tagsRise N  V = some (r, Vr)) : sv_N g qX4_tagsRise 3 0 [(0, .ref 29)] [] V P := by
  unfold F_X4_tagsRise at h
  refine sx_iconst (pc := 0) (v := 1) dX4_tagsRise_0 (by decide) ?_
  refine sx_istore_n (pc := 1) (lo' := [(1, .int (1 : Int32)), (0, .ref 29)]) dX4_tagsRise_1 (by decide) rfl ?_
  refine sx_wk (sx_s1 sx_m1 (sx_s1 sx_m0 sx_s0)) ?_
  exact tL_X4_tagsRise_2 hG hP  N _ _ h
