section
/-! methods: X0_ownCode, X0_has, X0_hasFunction, X2_take, X2_u1, X2_u2, X2_s2, X2_u4, X2_hasTable, X2_hasGlyph, X2_bearingOf, X2_kernOf, X2_findInGroups, X2_findInSegment, X3_goTo, X3_takeU1, X3_takeU2, X3_takeS2, X3_takeProgram, X3_takeFlags, X3_takePlaces, X3_takePart, X4_directoryHolds, X4_entry, X4_tagsRise -/
def ncX0_ownCode : Nat := 740346707984
theorem kcX0_ownCode : CK cX0_ownCode ncX0_ownCode 5 := ⟨by decide +kernel, by decide +kernel⟩
theorem dX0_ownCode_0 : decode cX0_ownCode 0 = .ok (.bipush 64, 2) := dl_o16 kcX0_ownCode 64 (by decide +kernel) (by decide +kernel)
theorem dX0_ownCode_2 : decode cX0_ownCode 2 = .ok (.iload_n 0, 1) := dl_o26 kcX0_ownCode (by decide +kernel)
theorem dX0_ownCode_3 : decode cX0_ownCode 3 = .ok (.iadd, 1) := dl_o96 kcX0_ownCode (by decide +kernel)
theorem dX0_ownCode_4 : decode cX0_ownCode 4 = .ok (.ireturn, 1) := dl_o172 kcX0_ownCode (by decide +kernel)
def F_X0_ownCode (l0 : Int32) (V : sv_V) : Option (Int32 × sv_V) := some ((64 : Int32) + l0, V)
set_option maxRecDepth 20000 in
theorem t_X0_ownCode {g : sx_G} (hG : sx_Go g) {P : Option Value → sv_V → Prop} {r : Int32} {Vr : sv_V} (hP : P (some (.int r)) Vr) {l0 : Int32} {V : sv_V} (h : F_X0_ownCode l0 V = some (r, Vr)) : sv_N g qX0_ownCode 0 0 [(0, .int l0)] [] V P := by
  unfold F_X0_ownCode at h
  refine sx_bipush (pc := 0) (v := 64) dX0_ownCode_0 (by decide) ?_
  refine sx_iload_n (pc := 2) dX0_ownCode_2 sx_m0 ?_
  refine sx_iadd (pc := 3) dX0_ownCode_3 ?_
  exact sv_iret (pc := 4) dX0_ownCode_4 rfl h hP
def ncX0_has : Nat := 70761541903348507349735167599534445594576080778554525843223255835
theorem kcX0_has : CK cX0_has ncX0_has 27 := ⟨by decide +kernel, by decide +kernel⟩
theorem dX0_has_0 : decode cX0_has 0 = .ok (.iload_n 1, 1) := dl_o27 kcX0_has (by decide +kernel)
theorem dX0_has_1 : decode cX0_has 1 = .ok (.ifCond .lt 24, 3) := dl_o155 kcX0_has 24 (by decide +kernel) (by decide +kernel)
theorem dX0_has_4 : decode cX0_has 4 = .ok (.iload_n 1, 1) := dl_o27 kcX0_has (by decide +kernel)
theorem dX0_has_5 : decode cX0_has 5 = .ok (.sipush 320, 3) := dl_o17 kcX0_has 320 (by decide +kernel) (by decide +kernel)
theorem dX0_has_8 : decode cX0_has 8 = .ok (.if_icmp .ge 17, 3) := dl_o162 kcX0_has 17 (by decide +kernel) (by decide +kernel)
theorem dX0_has_11 : decode cX0_has 11 = .ok (.aload_n 0, 1) := dl_o42 kcX0_has (by decide +kernel)
theorem dX0_has_12 : decode cX0_has 12 = .ok (.getfield 18, 3) := dl_o180 kcX0_has (by decide +kernel)
theorem dX0_has_15 : decode cX0_has 15 = .ok (.iload_n 1, 1) := dl_o27 kcX0_has (by decide +kernel)
theorem dX0_has_16 : decode cX0_has 16 = .ok (.iaload, 1) := dl_o46 kcX0_has (by decide +kernel)
theorem dX0_has_17 : decode cX0_has 17 = .ok (.iconst (-1), 1) := dl_o2 kcX0_has (by decide +kernel)
theorem dX0_has_18 : decode cX0_has 18 = .ok (.if_icmp .eq 7, 3) := dl_o159 kcX0_has 7 (by decide +kernel) (by decide +kernel)
theorem dX0_has_21 : decode cX0_has 21 = .ok (.iconst 1, 1) := dl_o4 kcX0_has (by decide +kernel)
theorem dX0_has_22 : decode cX0_has 22 = .ok (.goto 4, 3) := dl_o167 kcX0_has 4 (by decide +kernel) (by decide +kernel)
theorem dX0_has_25 : decode cX0_has 25 = .ok (.iconst 0, 1) := dl_o3 kcX0_has (by decide +kernel)
theorem dX0_has_26 : decode cX0_has 26 = .ok (.ireturn, 1) := dl_o172 kcX0_has (by decide +kernel)
def F_X0_has (l1 : Int32) (V : sv_V) : Option (Int32 × sv_V) := if l1 < 0 then (some ((0 : Int32), V)) else (if (320 : Int32) ≤ l1 then (some ((0 : Int32), V)) else (if sx_in l1 320 = true then if (V.1 76 l1.toNatClampNeg) = (-1 : Int32) then (some ((0 : Int32), V)) else (some ((1 : Int32), V)) else none))
set_option maxRecDepth 20000 in
theorem t_X0_has {g : sx_G} (hG : sx_Go g) {P : Option Value → sv_V → Prop} {r : Int32} {Vr : sv_V} (hP : P (some (.int r)) Vr) {l1 : Int32} {V : sv_V} (h : F_X0_has l1 V = some (r, Vr)) : sv_N g qX0_has 0 0 [(0, .ref 73), (1, .int l1)] [] V P := by
  unfold F_X0_has at h
  refine sx_iload_n (pc := 0) dX0_has_0 sx_m1 ?_
  refine sx_if_lt (pc := 1) (tgt := 25) dX0_has_1 (by decide) (fun c1 => ?_) (fun c1 => ?_)
  · have h := sx_pos c1 h
    refine sx_iconst (pc := 25) (v := 0) dX0_has_25 (by decide) ?_
    exact sv_zret (pc := 26) dX0_has_26 rfl rfl h hP
  · have h := sx_neg c1 h
    refine sx_iload_n (pc := 4) dX0_has_4 sx_m1 ?_
    refine sx_sipush (pc := 5) (v := 320) dX0_has_5 (by decide) ?_
    refine sx_icmp_ge (pc := 8) (tgt := 25) dX0_has_8 (by decide) (fun c2 => ?_) (fun c2 => ?_)
    · have h := sx_pos c2 h
      refine sx_iconst (pc := 25) (v := 0) dX0_has_25 (by decide) ?_
      exact sv_zret (pc := 26) dX0_has_26 rfl rfl h hP
    · have h := sx_neg c2 h
      refine sx_aload_n (pc := 11) dX0_has_11 sx_m0 ?_
      refine sv_getA (pc := 12) hG dX0_has_12 f_0_18 lay_73 rfl cr_73_2 ?_
      refine sx_iload_n (pc := 15) dX0_has_15 sx_m1 ?_
      obtain ⟨g3, h⟩ := sx_grd h
      refine sv_iald (pc := 16) hG dX0_has_16 lay_76 g3 ?_
      refine sx_iconst (pc := 17) (v := (-1)) dX0_has_17 (by decide) ?_
      refine sx_icmp_eq (pc := 18) (tgt := 25) dX0_has_18 (by decide) (fun c4 => ?_) (fun c4 => ?_)
      · have h := sx_pos c4 h
        refine sx_iconst (pc := 25) (v := 0) dX0_has_25 (by decide) ?_
        exact sv_zret (pc := 26) dX0_has_26 rfl rfl h hP
      · have h := sx_neg c4 h
        refine sx_iconst (pc := 21) (v := 1) dX0_has_21 (by decide) ?_
        refine sx_goto (pc := 22) (tgt := 26) dX0_has_22 (by decide) ?_
        exact sv_zret (pc := 26) dX0_has_26 rfl rfl h hP
def ncX0_hasFunction : Nat := 276412273059955106834902998435681428103812815541245152130538267
theorem kcX0_hasFunction : CK cX0_hasFunction ncX0_hasFunction 26 := ⟨by decide +kernel, by decide +kernel⟩
theorem dX0_hasFunction_0 : decode cX0_hasFunction 0 = .ok (.iload_n 1, 1) := dl_o27 kcX0_hasFunction (by decide +kernel)
theorem dX0_hasFunction_1 : decode cX0_hasFunction 1 = .ok (.ifCond .lt 23, 3) := dl_o155 kcX0_hasFunction 23 (by decide +kernel) (by decide +kernel)
theorem dX0_hasFunction_4 : decode cX0_hasFunction 4 = .ok (.iload_n 1, 1) := dl_o27 kcX0_hasFunction (by decide +kernel)
theorem dX0_hasFunction_5 : decode cX0_hasFunction 5 = .ok (.bipush 64, 2) := dl_o16 kcX0_hasFunction 64 (by decide +kernel) (by decide +kernel)
theorem dX0_hasFunction_7 : decode cX0_hasFunction 7 = .ok (.if_icmp .ge 17, 3) := dl_o162 kcX0_hasFunction 17 (by decide +kernel) (by decide +kernel)
theorem dX0_hasFunction_10 : decode cX0_hasFunction 10 = .ok (.aload_n 0, 1) := dl_o42 kcX0_hasFunction (by decide +kernel)
theorem dX0_hasFunction_11 : decode cX0_hasFunction 11 = .ok (.getfield 18, 3) := dl_o180 kcX0_hasFunction (by decide +kernel)
theorem dX0_hasFunction_14 : decode cX0_hasFunction 14 = .ok (.iload_n 1, 1) := dl_o27 kcX0_hasFunction (by decide +kernel)
theorem dX0_hasFunction_15 : decode cX0_hasFunction 15 = .ok (.iaload, 1) := dl_o46 kcX0_hasFunction (by decide +kernel)
theorem dX0_hasFunction_16 : decode cX0_hasFunction 16 = .ok (.iconst (-1), 1) := dl_o2 kcX0_hasFunction (by decide +kernel)
theorem dX0_hasFunction_17 : decode cX0_hasFunction 17 = .ok (.if_icmp .eq 7, 3) := dl_o159 kcX0_hasFunction 7 (by decide +kernel) (by decide +kernel)
theorem dX0_hasFunction_20 : decode cX0_hasFunction 20 = .ok (.iconst 1, 1) := dl_o4 kcX0_hasFunction (by decide +kernel)
theorem dX0_hasFunction_21 : decode cX0_hasFunction 21 = .ok (.goto 4, 3) := dl_o167 kcX0_hasFunction 4 (by decide +kernel) (by decide +kernel)
theorem dX0_hasFunction_24 : decode cX0_hasFunction 24 = .ok (.iconst 0, 1) := dl_o3 kcX0_hasFunction (by decide +kernel)
theorem dX0_hasFunction_25 : decode cX0_hasFunction 25 = .ok (.ireturn, 1) := dl_o172 kcX0_hasFunction (by decide +kernel)
def F_X0_hasFunction (l1 : Int32) (V : sv_V) : Option (Int32 × sv_V) := if l1 < 0 then (some ((0 : Int32), V)) else (if (64 : Int32) ≤ l1 then (some ((0 : Int32), V)) else (if sx_in l1 320 = true then if (V.1 76 l1.toNatClampNeg) = (-1 : Int32) then (some ((0 : Int32), V)) else (some ((1 : Int32), V)) else none))
set_option maxRecDepth 20000 in
theorem t_X0_hasFunction {g : sx_G} (hG : sx_Go g) {P : Option Value → sv_V → Prop} {r : Int32} {Vr : sv_V} (hP : P (some (.int r)) Vr) {l1 : Int32} {V : sv_V} (h : F_X0_hasFunction l1 V = some (r, Vr)) : sv_N g qX0_hasFunction 0 0 [(0, .ref 73), (1, .int l1)] [] V P := by
  unfold F_X0_hasFunction at h
  refine sx_iload_n (pc := 0) dX0_hasFunction_0 sx_m1 ?_
  refine sx_if_lt (pc := 1) (tgt := 24) dX0_hasFunction_1 (by decide) (fun c1 => ?_) (fun c1 => ?_)
  · have h := sx_pos c1 h
    refine sx_iconst (pc := 24) (v := 0) dX0_hasFunction_24 (by decide) ?_
    exact sv_zret (pc := 25) dX0_hasFunction_25 rfl rfl h hP
  · have h := sx_neg c1 h
    refine sx_iload_n (pc := 4) dX0_hasFunction_4 sx_m1 ?_
    refine sx_bipush (pc := 5) (v := 64) dX0_hasFunction_5 (by decide) ?_
    refine sx_icmp_ge (pc := 7) (tgt := 24) dX0_hasFunction_7 (by decide) (fun c2 => ?_) (fun c2 => ?_)
    · have h := sx_pos c2 h
      refine sx_iconst (pc := 24) (v := 0) dX0_hasFunction_24 (by decide) ?_
      exact sv_zret (pc := 25) dX0_hasFunction_25 rfl rfl h hP
    · have h := sx_neg c2 h
      refine sx_aload_n (pc := 10) dX0_hasFunction_10 sx_m0 ?_
      refine sv_getA (pc := 11) hG dX0_hasFunction_11 f_0_18 lay_73 rfl cr_73_2 ?_
      refine sx_iload_n (pc := 14) dX0_hasFunction_14 sx_m1 ?_
      obtain ⟨g3, h⟩ := sx_grd h
      refine sv_iald (pc := 15) hG dX0_hasFunction_15 lay_76 g3 ?_
      refine sx_iconst (pc := 16) (v := (-1)) dX0_hasFunction_16 (by decide) ?_
      refine sx_icmp_eq (pc := 17) (tgt := 24) dX0_hasFunction_17 (by decide) (fun c4 => ?_) (fun c4 => ?_)
      · have h := sx_pos c4 h
        refine sx_iconst (pc := 24) (v := 0) dX0_hasFunction_24 (by decide) ?_
        exact sv_zret (pc := 25) dX0_hasFunction_25 rfl rfl h hP
      · have h := sx_neg c4 h
        refine sx_iconst (pc := 20) (v := 1) dX0_hasFunction_20 (by decide) ?_
        refine sx_goto (pc := 21) (tgt := 25) dX0_hasFunction_21 (by decide) ?_
        exact sv_zret (pc := 25) dX0_hasFunction_25 rfl rfl h hP
def ncX2_take : Nat := 66290795302765660046380655950888657917006612513030955
theorem kcX2_take : CK cX2_take ncX2_take 22 := ⟨by decide +kernel, by decide +kernel⟩
theorem dX2_take_0 : decode cX2_take 0 = .ok (.aload_n 1, 1) := dl_o43 kcX2_take (by decide +kernel)
theorem dX2_take_1 : decode cX2_take 1 = .ok (.iconst 0, 1) := dl_o3 kcX2_take (by decide +kernel)
theorem dX2_take_2 : decode cX2_take 2 = .ok (.aload_n 0, 1) := dl_o42 kcX2_take (by decide +kernel)
theorem dX2_take_3 : decode cX2_take 3 = .ok (.getfield 9, 3) := dl_o180 kcX2_take (by decide +kernel)
theorem dX2_take_6 : decode cX2_take 6 = .ok (.iconst 0, 1) := dl_o3 kcX2_take (by decide +kernel)
theorem dX2_take_7 : decode cX2_take 7 = .ok (.iload_n 2, 1) := dl_o28 kcX2_take (by decide +kernel)
theorem dX2_take_8 : decode cX2_take 8 = .ok (.invokestatic 36, 3) := dl_o184 kcX2_take (by decide +kernel)
theorem dX2_take_11 : decode cX2_take 11 = .ok (.aload_n 0, 1) := dl_o42 kcX2_take (by decide +kernel)
theorem dX2_take_12 : decode cX2_take 12 = .ok (.iload_n 2, 1) := dl_o28 kcX2_take (by decide +kernel)
theorem dX2_take_13 : decode cX2_take 13 = .ok (.putfield 42, 3) := dl_o181 kcX2_take (by decide +kernel)
theorem dX2_take_16 : decode cX2_take 16 = .ok (.aload_n 0, 1) := dl_o42 kcX2_take (by decide +kernel)
theorem dX2_take_17 : decode cX2_take 17 = .ok (.iconst 0, 1) := dl_o3 kcX2_take (by decide +kernel)
theorem dX2_take_18 : decode cX2_take 18 = .ok (.putfield 46, 3) := dl_o181 kcX2_take (by decide +kernel)
theorem dX2_take_21 : decode cX2_take 21 = .ok (.return_, 1) := dl_o177 kcX2_take (by decide +kernel)
def F_X2_take (l1 : Nat) (l2 : Int32) (V : sv_V) : Option sv_V := (sv_len 1 l1).bind (fun n1 => if sv_cpo (0 : Int32) l2 n1 = true then if sv_cpo (0 : Int32) l2 12000 = true then if sv_fb V l1 (0 : Int32).toNatClampNeg l2.toNatClampNeg = true then sx_let (sv_C V l1 (0 : Int32).toNatClampNeg 3 (0 : Int32).toNatClampNeg l2.toNatClampNeg) (fun V6 => sx_let (sv_I V6 2 1 l2) (fun V7 => sx_let (sv_I V7 2 2 (0 : Int32)) (fun V8 => some V8))) else none else none else none)
set_option maxRecDepth 20000 in
theorem t_X2_take {g : sx_G} (hG : sx_Go g) {P : Option Value → sv_V → Prop} {Vr : sv_V} (hP : P none Vr) {l1 : Nat} {l2 : Int32} {V : sv_V} (h : F_X2_take l1 l2 V = some Vr) : sv_N g qX2_take 1 0 [(0, .ref 2), (1, .ref l1), (2, .int l2)] [] V P := by
  unfold F_X2_take at h
  refine sx_aload_n (pc := 0) dX2_take_0 sx_m1 ?_
  refine sx_iconst (pc := 1) (v := 0) dX2_take_1 (by decide) ?_
  refine sx_aload_n (pc := 2) dX2_take_2 sx_m0 ?_
  refine sv_getA (pc := 3) hG dX2_take_3 f_2_9 lay_2 rfl cr_2_0 ?_
  refine sx_iconst (pc := 6) (v := 0) dX2_take_6 (by decide) ?_
  refine sx_iload_n (pc := 7) dX2_take_7 sx_m2 ?_
  obtain ⟨n1, g2, h⟩ := sx_bnd h
  obtain ⟨g3, h⟩ := sx_grd h
  obtain ⟨g4, h⟩ := sx_grd h
  obtain ⟨g5, h⟩ := sx_grd h
  obtain ⟨V6, hV6⟩ : ∃ z : sv_V, z = sv_C V l1 (0 : Int32).toNatClampNeg 3 (0 : Int32).toNatClampNeg l2.toNatClampNeg := ⟨_, rfl⟩
  have h := sx_letE hV6 h
  refine sv_copyB (pc := 8) hG dX2_take_8 l_X2_36 (sv_len_e g2) lay_3 g3 g4 g5 (by decide) (Nat.le_of_ble_eq_true rfl) hV6 ?_
  refine sx_aload_n (pc := 11) dX2_take_11 sx_m0 ?_
  refine sx_iload_n (pc := 12) dX2_take_12 sx_m2 ?_
  obtain ⟨V7, hV7⟩ : ∃ z : sv_V, z = sv_I V6 2 1 l2 := ⟨_, rfl⟩
  have h := sx_letE hV7 h
  refine sv_putI (pc := 13) hG dX2_take_13 f_2_42 lay_2 rfl hV7 ?_
  refine sx_aload_n (pc := 16) dX2_take_16 sx_m0 ?_
  refine sx_iconst (pc := 17) (v := 0) dX2_take_17 (by decide) ?_
  obtain ⟨V8, hV8⟩ : ∃ z : sv_V, z = sv_I V7 2 2 (0 : Int32) := ⟨_, rfl⟩
  have h := sx_letE hV8 h
  refine sv_putZ (pc := 18) hG dX2_take_18 f_2_46 lay_2 rfl rfl hV8 ?_
  exact sv_vret (pc := 21) dX2_take_21 rfl h hP
def ncX2_u1 : Nat := 70761541903394515418115900617837908485860514673782197784628206363
theorem kcX2_u1 : CK cX2_u1 ncX2_u1 27 := ⟨by decide +kernel, by decide +kernel⟩
theorem dX2_u1_0 : decode cX2_u1 0 = .ok (.iload_n 1, 1) := dl_o27 kcX2_u1 (by decide +kernel)
theorem dX2_u1_1 : decode cX2_u1 1 = .ok (.ifCond .lt 24, 3) := dl_o155 kcX2_u1 24 (by decide +kernel) (by decide +kernel)
theorem dX2_u1_4 : decode cX2_u1 4 = .ok (.iload_n 1, 1) := dl_o27 kcX2_u1 (by decide +kernel)
theorem dX2_u1_5 : decode cX2_u1 5 = .ok (.aload_n 0, 1) := dl_o42 kcX2_u1 (by decide +kernel)
theorem dX2_u1_6 : decode cX2_u1 6 = .ok (.getfield 42, 3) := dl_o180 kcX2_u1 (by decide +kernel)
theorem dX2_u1_9 : decode cX2_u1 9 = .ok (.if_icmp .ge 16, 3) := dl_o162 kcX2_u1 16 (by decide +kernel) (by decide +kernel)
theorem dX2_u1_12 : decode cX2_u1 12 = .ok (.aload_n 0, 1) := dl_o42 kcX2_u1 (by decide +kernel)
theorem dX2_u1_13 : decode cX2_u1 13 = .ok (.getfield 9, 3) := dl_o180 kcX2_u1 (by decide +kernel)
theorem dX2_u1_16 : decode cX2_u1 16 = .ok (.iload_n 1, 1) := dl_o27 kcX2_u1 (by decide +kernel)
theorem dX2_u1_17 : decode cX2_u1 17 = .ok (.baload, 1) := dl_o51 kcX2_u1 (by decide +kernel)
theorem dX2_u1_18 : decode cX2_u1 18 = .ok (.sipush 255, 3) := dl_o17 kcX2_u1 255 (by decide +kernel) (by decide +kernel)
theorem dX2_u1_21 : decode cX2_u1 21 = .ok (.iand, 1) := dl_o126 kcX2_u1 (by decide +kernel)
theorem dX2_u1_22 : decode cX2_u1 22 = .ok (.goto 4, 3) := dl_o167 kcX2_u1 4 (by decide +kernel) (by decide +kernel)
theorem dX2_u1_25 : decode cX2_u1 25 = .ok (.iconst 0, 1) := dl_o3 kcX2_u1 (by decide +kernel)
theorem dX2_u1_26 : decode cX2_u1 26 = .ok (.ireturn, 1) := dl_o172 kcX2_u1 (by decide +kernel)
def F_X2_u1 (l1 : Int32) (V : sv_V) : Option (Int32 × sv_V) := if l1 < 0 then (some ((0 : Int32), V)) else (if (V.1 2 1) ≤ l1 then (some ((0 : Int32), V)) else (if sx_in l1 12000 = true then some ((V.1 3 l1.toNatClampNeg) &&& (255 : Int32), V) else none))
set_option maxRecDepth 20000 in
theorem t_X2_u1 {g : sx_G} (hG : sx_Go g) {P : Option Value → sv_V → Prop} {r : Int32} {Vr : sv_V} (hP : P (some (.int r)) Vr) {l1 : Int32} {V : sv_V} (h : F_X2_u1 l1 V = some (r, Vr)) : sv_N g qX2_u1 0 0 [(0, .ref 2), (1, .int l1)] [] V P := by
  unfold F_X2_u1 at h
  refine sx_iload_n (pc := 0) dX2_u1_0 sx_m1 ?_
  refine sx_if_lt (pc := 1) (tgt := 25) dX2_u1_1 (by decide) (fun c1 => ?_) (fun c1 => ?_)
  · have h := sx_pos c1 h
    refine sx_iconst (pc := 25) (v := 0) dX2_u1_25 (by decide) ?_
    exact sv_iret (pc := 26) dX2_u1_26 rfl h hP
  · have h := sx_neg c1 h
    refine sx_iload_n (pc := 4) dX2_u1_4 sx_m1 ?_
    refine sx_aload_n (pc := 5) dX2_u1_5 sx_m0 ?_
    refine sv_getI (pc := 6) hG dX2_u1_6 f_2_42 lay_2 rfl ?_
    refine sx_icmp_ge (pc := 9) (tgt := 25) dX2_u1_9 (by decide) (fun c2 => ?_) (fun c2 => ?_)
    · have h := sx_pos c2 h
      refine sx_iconst (pc := 25) (v := 0) dX2_u1_25 (by decide) ?_
      exact sv_iret (pc := 26) dX2_u1_26 rfl h hP
    · have h := sx_neg c2 h
      refine sx_aload_n (pc := 12) dX2_u1_12 sx_m0 ?_
      refine sv_getA (pc := 13) hG dX2_u1_13 f_2_9 lay_2 rfl cr_2_0 ?_
      refine sx_iload_n (pc := 16) dX2_u1_16 sx_m1 ?_
      obtain ⟨g3, h⟩ := sx_grd h
      refine sv_bald (pc := 17) hG dX2_u1_17 lay_3 g3 ?_
      refine sx_sipush (pc := 18) (v := 255) dX2_u1_18 (by decide) ?_
      refine sx_iand (pc := 21) dX2_u1_21 ?_
      refine sx_goto (pc := 22) (tgt := 26) dX2_u1_22 (by decide) ?_
      exact sv_iret (pc := 26) dX2_u1_26 rfl h hP
def ncX2_u2 : Nat := 24147519263616504142324115288844034886370867614681480052057689638481219062819345240860194979293138295579
theorem kcX2_u2 : CK cX2_u2 ncX2_u2 43 := ⟨by decide +kernel, by decide +kernel⟩
theorem dX2_u2_0 : decode cX2_u2 0 = .ok (.iload_n 1, 1) := dl_o27 kcX2_u2 (by decide +kernel)
theorem dX2_u2_1 : decode cX2_u2 1 = .ok (.ifCond .lt 13, 3) := dl_o155 kcX2_u2 13 (by decide +kernel) (by decide +kernel)
theorem dX2_u2_4 : decode cX2_u2 4 = .ok (.iload_n 1, 1) := dl_o27 kcX2_u2 (by decide +kernel)
theorem dX2_u2_5 : decode cX2_u2 5 = .ok (.iconst 2, 1) := dl_o5 kcX2_u2 (by decide +kernel)
theorem dX2_u2_6 : decode cX2_u2 6 = .ok (.iadd, 1) := dl_o96 kcX2_u2 (by decide +kernel)
theorem dX2_u2_7 : decode cX2_u2 7 = .ok (.aload_n 0, 1) := dl_o42 kcX2_u2 (by decide +kernel)
theorem dX2_u2_8 : decode cX2_u2 8 = .ok (.getfield 42, 3) := dl_o180 kcX2_u2 (by decide +kernel)
theorem dX2_u2_11 : decode cX2_u2 11 = .ok (.if_icmp .le 5, 3) := dl_o164 kcX2_u2 5 (by decide +kernel) (by decide +kernel)
theorem dX2_u2_14 : decode cX2_u2 14 = .ok (.iconst 0, 1) := dl_o3 kcX2_u2 (by decide +kernel)
theorem dX2_u2_15 : decode cX2_u2 15 = .ok (.ireturn, 1) := dl_o172 kcX2_u2 (by decide +kernel)
theorem dX2_u2_16 : decode cX2_u2 16 = .ok (.aload_n 0, 1) := dl_o42 kcX2_u2 (by decide +kernel)
theorem dX2_u2_17 : decode cX2_u2 17 = .ok (.getfield 9, 3) := dl_o180 kcX2_u2 (by decide +kernel)
theorem dX2_u2_20 : decode cX2_u2 20 = .ok (.iload_n 1, 1) := dl_o27 kcX2_u2 (by decide +kernel)
theorem dX2_u2_21 : decode cX2_u2 21 = .ok (.baload, 1) := dl_o51 kcX2_u2 (by decide +kernel)
theorem dX2_u2_22 : decode cX2_u2 22 = .ok (.sipush 255, 3) := dl_o17 kcX2_u2 255 (by decide +kernel) (by decide +kernel)
theorem dX2_u2_25 : decode cX2_u2 25 = .ok (.iand, 1) := dl_o126 kcX2_u2 (by decide +kernel)
theorem dX2_u2_26 : decode cX2_u2 26 = .ok (.bipush 8, 2) := dl_o16 kcX2_u2 8 (by decide +kernel) (by decide +kernel)
theorem dX2_u2_28 : decode cX2_u2 28 = .ok (.ishl, 1) := dl_o120 kcX2_u2 (by decide +kernel)
theorem dX2_u2_29 : decode cX2_u2 29 = .ok (.aload_n 0, 1) := dl_o42 kcX2_u2 (by decide +kernel)
theorem dX2_u2_30 : decode cX2_u2 30 = .ok (.getfield 9, 3) := dl_o180 kcX2_u2 (by decide +kernel)
theorem dX2_u2_33 : decode cX2_u2 33 = .ok (.iload_n 1, 1) := dl_o27 kcX2_u2 (by decide +kernel)
theorem dX2_u2_34 : decode cX2_u2 34 = .ok (.iconst 1, 1) := dl_o4 kcX2_u2 (by decide +kernel)
theorem dX2_u2_35 : decode cX2_u2 35 = .ok (.iadd, 1) := dl_o96 kcX2_u2 (by decide +kernel)
theorem dX2_u2_36 : decode cX2_u2 36 = .ok (.baload, 1) := dl_o51 kcX2_u2 (by decide +kernel)
theorem dX2_u2_37 : decode cX2_u2 37 = .ok (.sipush 255, 3) := dl_o17 kcX2_u2 255 (by decide +kernel) (by decide +kernel)
theorem dX2_u2_40 : decode cX2_u2 40 = .ok (.iand, 1) := dl_o126 kcX2_u2 (by decide +kernel)
theorem dX2_u2_41 : decode cX2_u2 41 = .ok (.ior, 1) := dl_o128 kcX2_u2 (by decide +kernel)
theorem dX2_u2_42 : decode cX2_u2 42 = .ok (.ireturn, 1) := dl_o172 kcX2_u2 (by decide +kernel)
def F_X2_u2 (l1 : Int32) (V : sv_V) : Option (Int32 × sv_V) := if l1 < 0 then (some ((0 : Int32), V)) else (if (l1 + (2 : Int32)) ≤ (V.1 2 1) then (if sx_in l1 12000 = true then if sx_in (l1 + (1 : Int32)) 12000 = true then some ((((V.1 3 l1.toNatClampNeg) &&& (255 : Int32)) <<< ((8 : Int32) &&& 31)) ||| ((V.1 3 (l1 + (1 : Int32)).toNatClampNeg) &&& (255 : Int32)), V) else none else none) else (some ((0 : Int32), V)))
set_option maxRecDepth 20000 in
theorem t_X2_u2 {g : sx_G} (hG : sx_Go g) {P : Option Value → sv_V → Prop} {r : Int32} {Vr : sv_V} (hP : P (some (.int r)) Vr) {l1 : Int32} {V : sv_V} (h : F_X2_u2 l1 V = some (r, Vr)) : sv_N g qX2_u2 0 0 [(0, .ref 2), (1, .int l1)] [] V P := by
  unfold F_X2_u2 at h
  refine sx_iload_n (pc := 0) dX2_u2_0 sx_m1 ?_
  refine sx_if_lt (pc := 1) (tgt := 14) dX2_u2_1 (by decide) (fun c1 => ?_) (fun c1 => ?_)
  · have h := sx_pos c1 h
    refine sx_iconst (pc := 14) (v := 0) dX2_u2_14 (by decide) ?_
    exact sv_iret (pc := 15) dX2_u2_15 rfl h hP
  · have h := sx_neg c1 h
    refine sx_iload_n (pc := 4) dX2_u2_4 sx_m1 ?_
    refine sx_iconst (pc := 5) (v := 2) dX2_u2_5 (by decide) ?_
    refine sx_iadd (pc := 6) dX2_u2_6 ?_
    refine sx_aload_n (pc := 7) dX2_u2_7 sx_m0 ?_
    refine sv_getI (pc := 8) hG dX2_u2_8 f_2_42 lay_2 rfl ?_
    refine sx_icmp_le (pc := 11) (tgt := 16) dX2_u2_11 (by decide) (fun c2 => ?_) (fun c2 => ?_)
    · have h := sx_pos c2 h
      refine sx_aload_n (pc := 16) dX2_u2_16 sx_m0 ?_
      refine sv_getA (pc := 17) hG dX2_u2_17 f_2_9 lay_2 rfl cr_2_0 ?_
      refine sx_iload_n (pc := 20) dX2_u2_20 sx_m1 ?_
      obtain ⟨g3, h⟩ := sx_grd h
      refine sv_bald (pc := 21) hG dX2_u2_21 lay_3 g3 ?_
      refine sx_sipush (pc := 22) (v := 255) dX2_u2_22 (by decide) ?_
      refine sx_iand (pc := 25) dX2_u2_25 ?_
      refine sx_bipush (pc := 26) (v := 8) dX2_u2_26 (by decide) ?_
      refine sx_ishl (pc := 28) dX2_u2_28 ?_
      refine sx_aload_n (pc := 29) dX2_u2_29 sx_m0 ?_
      refine sv_getA (pc := 30) hG dX2_u2_30 f_2_9 lay_2 rfl cr_2_0 ?_
      refine sx_iload_n (pc := 33) dX2_u2_33 sx_m1 ?_
      refine sx_iconst (pc := 34) (v := 1) dX2_u2_34 (by decide) ?_
      refine sx_iadd (pc := 35) dX2_u2_35 ?_
      obtain ⟨g4, h⟩ := sx_grd h
      refine sv_bald (pc := 36) hG dX2_u2_36 lay_3 g4 ?_
      refine sx_sipush (pc := 37) (v := 255) dX2_u2_37 (by decide) ?_
      refine sx_iand (pc := 40) dX2_u2_40 ?_
      refine sx_ior (pc := 41) dX2_u2_41 ?_
      exact sv_iret (pc := 42) dX2_u2_42 rfl h hP
    · have h := sx_neg c2 h
      refine sx_iconst (pc := 14) (v := 0) dX2_u2_14 (by decide) ?_
      exact sv_iret (pc := 15) dX2_u2_15 rfl h hP
def ncX2_s2 : Nat := 5622282452792046624776934107962072567634923770876616316027832389828974450480211518771360209691
theorem kcX2_s2 : CK cX2_s2 ncX2_s2 39 := ⟨by decide +kernel, by decide +kernel⟩
theorem dX2_s2_0 : decode cX2_s2 0 = .ok (.iload_n 1, 1) := dl_o27 kcX2_s2 (by decide +kernel)
theorem dX2_s2_1 : decode cX2_s2 1 = .ok (.ifCond .lt 13, 3) := dl_o155 kcX2_s2 13 (by decide +kernel) (by decide +kernel)
theorem dX2_s2_4 : decode cX2_s2 4 = .ok (.iload_n 1, 1) := dl_o27 kcX2_s2 (by decide +kernel)
theorem dX2_s2_5 : decode cX2_s2 5 = .ok (.iconst 2, 1) := dl_o5 kcX2_s2 (by decide +kernel)
theorem dX2_s2_6 : decode cX2_s2 6 = .ok (.iadd, 1) := dl_o96 kcX2_s2 (by decide +kernel)
theorem dX2_s2_7 : decode cX2_s2 7 = .ok (.aload_n 0, 1) := dl_o42 kcX2_s2 (by decide +kernel)
theorem dX2_s2_8 : decode cX2_s2 8 = .ok (.getfield 42, 3) := dl_o180 kcX2_s2 (by decide +kernel)
theorem dX2_s2_11 : decode cX2_s2 11 = .ok (.if_icmp .le 5, 3) := dl_o164 kcX2_s2 5 (by decide +kernel) (by decide +kernel)
theorem dX2_s2_14 : decode cX2_s2 14 = .ok (.iconst 0, 1) := dl_o3 kcX2_s2 (by decide +kernel)
theorem dX2_s2_15 : decode cX2_s2 15 = .ok (.ireturn, 1) := dl_o172 kcX2_s2 (by decide +kernel)
theorem dX2_s2_16 : decode cX2_s2 16 = .ok (.aload_n 0, 1) := dl_o42 kcX2_s2 (by decide +kernel)
theorem dX2_s2_17 : decode cX2_s2 17 = .ok (.getfield 9, 3) := dl_o180 kcX2_s2 (by decide +kernel)
theorem dX2_s2_20 : decode cX2_s2 20 = .ok (.iload_n 1, 1) := dl_o27 kcX2_s2 (by decide +kernel)
theorem dX2_s2_21 : decode cX2_s2 21 = .ok (.baload, 1) := dl_o51 kcX2_s2 (by decide +kernel)
theorem dX2_s2_22 : decode cX2_s2 22 = .ok (.bipush 8, 2) := dl_o16 kcX2_s2 8 (by decide +kernel) (by decide +kernel)
theorem dX2_s2_24 : decode cX2_s2 24 = .ok (.ishl, 1) := dl_o120 kcX2_s2 (by decide +kernel)
theorem dX2_s2_25 : decode cX2_s2 25 = .ok (.aload_n 0, 1) := dl_o42 kcX2_s2 (by decide +kernel)
theorem dX2_s2_26 : decode cX2_s2 26 = .ok (.getfield 9, 3) := dl_o180 kcX2_s2 (by decide +kernel)
theorem dX2_s2_29 : decode cX2_s2 29 = .ok (.iload_n 1, 1) := dl_o27 kcX2_s2 (by decide +kernel)
theorem dX2_s2_30 : decode cX2_s2 30 = .ok (.iconst 1, 1) := dl_o4 kcX2_s2 (by decide +kernel)
theorem dX2_s2_31 : decode cX2_s2 31 = .ok (.iadd, 1) := dl_o96 kcX2_s2 (by decide +kernel)
theorem dX2_s2_32 : decode cX2_s2 32 = .ok (.baload, 1) := dl_o51 kcX2_s2 (by decide +kernel)
theorem dX2_s2_33 : decode cX2_s2 33 = .ok (.sipush 255, 3) := dl_o17 kcX2_s2 255 (by decide +kernel) (by decide +kernel)
theorem dX2_s2_36 : decode cX2_s2 36 = .ok (.iand, 1) := dl_o126 kcX2_s2 (by decide +kernel)
theorem dX2_s2_37 : decode cX2_s2 37 = .ok (.ior, 1) := dl_o128 kcX2_s2 (by decide +kernel)
theorem dX2_s2_38 : decode cX2_s2 38 = .ok (.ireturn, 1) := dl_o172 kcX2_s2 (by decide +kernel)
def F_X2_s2 (l1 : Int32) (V : sv_V) : Option (Int32 × sv_V) := if l1 < 0 then (some ((0 : Int32), V)) else (if (l1 + (2 : Int32)) ≤ (V.1 2 1) then (if sx_in l1 12000 = true then if sx_in (l1 + (1 : Int32)) 12000 = true then some (((V.1 3 l1.toNatClampNeg) <<< ((8 : Int32) &&& 31)) ||| ((V.1 3 (l1 + (1 : Int32)).toNatClampNeg) &&& (255 : Int32)), V) else none else none) else (some ((0 : Int32), V)))
set_option maxRecDepth 20000 in
theorem t_X2_s2 {g : sx_G} (hG : sx_Go g) {P : Option Value → sv_V → Prop} {r : Int32} {Vr : sv_V} (hP : P (some (.int r)) Vr) {l1 : Int32} {V : sv_V} (h : F_X2_s2 l1 V = some (r, Vr)) : sv_N g qX2_s2 0 0 [(0, .ref 2), (1, .int l1)] [] V P := by
  unfold F_X2_s2 at h
  refine sx_iload_n (pc := 0) dX2_s2_0 sx_m1 ?_
  refine sx_if_lt (pc := 1) (tgt := 14) dX2_s2_1 (by decide) (fun c1 => ?_) (fun c1 => ?_)
  · have h := sx_pos c1 h
    refine sx_iconst (pc := 14) (v := 0) dX2_s2_14 (by decide) ?_
    exact sv_iret (pc := 15) dX2_s2_15 rfl h hP
  · have h := sx_neg c1 h
    refine sx_iload_n (pc := 4) dX2_s2_4 sx_m1 ?_
    refine sx_iconst (pc := 5) (v := 2) dX2_s2_5 (by decide) ?_
    refine sx_iadd (pc := 6) dX2_s2_6 ?_
    refine sx_aload_n (pc := 7) dX2_s2_7 sx_m0 ?_
    refine sv_getI (pc := 8) hG dX2_s2_8 f_2_42 lay_2 rfl ?_
    refine sx_icmp_le (pc := 11) (tgt := 16) dX2_s2_11 (by decide) (fun c2 => ?_) (fun c2 => ?_)
    · have h := sx_pos c2 h
      refine sx_aload_n (pc := 16) dX2_s2_16 sx_m0 ?_
      refine sv_getA (pc := 17) hG dX2_s2_17 f_2_9 lay_2 rfl cr_2_0 ?_
      refine sx_iload_n (pc := 20) dX2_s2_20 sx_m1 ?_
      obtain ⟨g3, h⟩ := sx_grd h
      refine sv_bald (pc := 21) hG dX2_s2_21 lay_3 g3 ?_
      refine sx_bipush (pc := 22) (v := 8) dX2_s2_22 (by decide) ?_
      refine sx_ishl (pc := 24) dX2_s2_24 ?_
      refine sx_aload_n (pc := 25) dX2_s2_25 sx_m0 ?_
      refine sv_getA (pc := 26) hG dX2_s2_26 f_2_9 lay_2 rfl cr_2_0 ?_
      refine sx_iload_n (pc := 29) dX2_s2_29 sx_m1 ?_
      refine sx_iconst (pc := 30) (v := 1) dX2_s2_30 (by decide) ?_
      refine sx_iadd (pc := 31) dX2_s2_31 ?_
      obtain ⟨g4, h⟩ := sx_grd h
      refine sv_bald (pc := 32) hG dX2_s2_32 lay_3 g4 ?_
      refine sx_sipush (pc := 33) (v := 255) dX2_s2_33 (by decide) ?_
      refine sx_iand (pc := 36) dX2_s2_36 ?_
      refine sx_ior (pc := 37) dX2_s2_37 ?_
      exact sv_iret (pc := 38) dX2_s2_38 rfl h hP
    · have h := sx_neg c2 h
      refine sx_iconst (pc := 14) (v := 0) dX2_s2_14 (by decide) ?_
      exact sv_iret (pc := 15) dX2_s2_15 rfl h hP
def ncX2_u4 : Nat := 3869311728250894155396260610452907402429078314
theorem kcX2_u4 : CK cX2_u4 ncX2_u4 19 := ⟨by decide +kernel, by decide +kernel⟩
theorem dX2_u4_0 : decode cX2_u4 0 = .ok (.aload_n 0, 1) := dl_o42 kcX2_u4 (by decide +kernel)
theorem dX2_u4_1 : decode cX2_u4 1 = .ok (.iload_n 1, 1) := dl_o27 kcX2_u4 (by decide +kernel)
theorem dX2_u4_2 : decode cX2_u4 2 = .ok (.invokevirtual 50, 3) := dl_o182 kcX2_u4 (by decide +kernel)
theorem dX2_u4_5 : decode cX2_u4 5 = .ok (.i2l, 1) := dl_o133 kcX2_u4 (by decide +kernel)
theorem dX2_u4_6 : decode cX2_u4 6 = .ok (.bipush 16, 2) := dl_o16 kcX2_u4 16 (by decide +kernel) (by decide +kernel)
theorem dX2_u4_8 : decode cX2_u4 8 = .ok (.lshl, 1) := dl_o121 kcX2_u4 (by decide +kernel)
theorem dX2_u4_9 : decode cX2_u4 9 = .ok (.aload_n 0, 1) := dl_o42 kcX2_u4 (by decide +kernel)
theorem dX2_u4_10 : decode cX2_u4 10 = .ok (.iload_n 1, 1) := dl_o27 kcX2_u4 (by decide +kernel)
theorem dX2_u4_11 : decode cX2_u4 11 = .ok (.iconst 2, 1) := dl_o5 kcX2_u4 (by decide +kernel)
theorem dX2_u4_12 : decode cX2_u4 12 = .ok (.iadd, 1) := dl_o96 kcX2_u4 (by decide +kernel)
theorem dX2_u4_13 : decode cX2_u4 13 = .ok (.invokevirtual 50, 3) := dl_o182 kcX2_u4 (by decide +kernel)
theorem dX2_u4_16 : decode cX2_u4 16 = .ok (.i2l, 1) := dl_o133 kcX2_u4 (by decide +kernel)
theorem dX2_u4_17 : decode cX2_u4 17 = .ok (.lor, 1) := dl_o129 kcX2_u4 (by decide +kernel)
theorem dX2_u4_18 : decode cX2_u4 18 = .ok (.lreturn, 1) := dl_o173 kcX2_u4 (by decide +kernel)
def F_X2_u4 (l1 : Int32) (V : sv_V) : Option (Int64 × sv_V) := (F_X2_u2 l1 V).bind (fun (x3, V1) => (F_X2_u2 (l1 + (2 : Int32)) V1).bind (fun (x6, V4) => some ((x3.toInt64 <<< ((16 : Int32).toInt64 &&& 63)) ||| x6.toInt64, V4)))
set_option maxRecDepth 20000 in
theorem t_X2_u4 {g : sx_G} (hG : sx_Go g) {P : Option Value → sv_V → Prop} {r : Int64} {Vr : sv_V} (hP : P (some (.long r)) Vr) {l1 : Int32} {V : sv_V} (h : F_X2_u4 l1 V = some (r, Vr)) : sv_N g qX2_u4 1 0 [(0, .ref 2), (1, .int l1)] [] V P := by
  unfold F_X2_u4 at h
  refine sx_aload_n (pc := 0) dX2_u4_0 sx_m0 ?_
  refine sx_iload_n (pc := 1) dX2_u4_1 sx_m1 ?_
  obtain ⟨⟨x3, V1⟩, g2, h⟩ := sx_bnd h
  refine sv_cV (pc := 2) (y := qX2_u2) (o := (some (.int x3))) (as := [.int l1]) (V1 := V1) hG dX2_u4_2 l_X2_50 y0X2_u2 yvX2_u2 rfl (Nat.le_of_ble_eq_true rfl) lay_2 kr_2 (by decide) (Nat.le_of_ble_eq_true rfl) rfl rfl rfl (t_X2_u2 hG ⟨rfl, rfl⟩ g2) ?_
  refine sx_i2l (pc := 5) dX2_u4_5 ?_
  refine sx_bipush (pc := 6) (v := 16) dX2_u4_6 (by decide) ?_
  refine sx_lshl (pc := 8) dX2_u4_8 ?_
  refine sx_aload_n (pc := 9) dX2_u4_9 sx_m0 ?_
  refine sx_iload_n (pc := 10) dX2_u4_10 sx_m1 ?_
  refine sx_iconst (pc := 11) (v := 2) dX2_u4_11 (by decide) ?_
  refine sx_iadd (pc := 12) dX2_u4_12 ?_
  obtain ⟨⟨x6, V4⟩, g5, h⟩ := sx_bnd h
  refine sv_cV (pc := 13) (y := qX2_u2) (o := (some (.int x6))) (as := [.int (l1 + (2 : Int32))]) (V1 := V4) hG dX2_u4_13 l_X2_50 y0X2_u2 yvX2_u2 rfl (Nat.le_of_ble_eq_true rfl) lay_2 kr_2 (by decide) (Nat.le_of_ble_eq_true rfl) rfl rfl rfl (t_X2_u2 hG ⟨rfl, rfl⟩ g5) ?_
  refine sx_i2l (pc := 16) dX2_u4_16 ?_
  refine sx_lor (pc := 17) dX2_u4_17 ?_
  exact sv_lret (pc := 18) dX2_u4_18 rfl h hP
def ncX2_hasTable : Nat := 893136224011360994689174391417254954
theorem kcX2_hasTable : CK cX2_hasTable ncX2_hasTable 15 := ⟨by decide +kernel, by decide +kernel⟩
theorem dX2_hasTable_0 : decode cX2_hasTable 0 = .ok (.aload_n 0, 1) := dl_o42 kcX2_hasTable (by decide +kernel)
theorem dX2_hasTable_1 : decode cX2_hasTable 1 = .ok (.getfield 19, 3) := dl_o180 kcX2_hasTable (by decide +kernel)
theorem dX2_hasTable_4 : decode cX2_hasTable 4 = .ok (.iload_n 1, 1) := dl_o27 kcX2_hasTable (by decide +kernel)
theorem dX2_hasTable_5 : decode cX2_hasTable 5 = .ok (.iaload, 1) := dl_o46 kcX2_hasTable (by decide +kernel)
theorem dX2_hasTable_6 : decode cX2_hasTable 6 = .ok (.ifCond .le 7, 3) := dl_o158 kcX2_hasTable 7 (by decide +kernel) (by decide +kernel)
theorem dX2_hasTable_9 : decode cX2_hasTable 9 = .ok (.iconst 1, 1) := dl_o4 kcX2_hasTable (by decide +kernel)
theorem dX2_hasTable_10 : decode cX2_hasTable 10 = .ok (.goto 4, 3) := dl_o167 kcX2_hasTable 4 (by decide +kernel) (by decide +kernel)
theorem dX2_hasTable_13 : decode cX2_hasTable 13 = .ok (.iconst 0, 1) := dl_o3 kcX2_hasTable (by decide +kernel)
theorem dX2_hasTable_14 : decode cX2_hasTable 14 = .ok (.ireturn, 1) := dl_o172 kcX2_hasTable (by decide +kernel)
def F_X2_hasTable (l1 : Int32) (V : sv_V) : Option (Int32 × sv_V) := if sx_in l1 11 = true then if (V.1 4 l1.toNatClampNeg) ≤ 0 then (some ((0 : Int32), V)) else (some ((1 : Int32), V)) else none
set_option maxRecDepth 20000 in
theorem t_X2_hasTable {g : sx_G} (hG : sx_Go g) {P : Option Value → sv_V → Prop} {r : Int32} {Vr : sv_V} (hP : P (some (.int r)) Vr) {l1 : Int32} {V : sv_V} (h : F_X2_hasTable l1 V = some (r, Vr)) : sv_N g qX2_hasTable 0 0 [(0, .ref 2), (1, .int l1)] [] V P := by
  unfold F_X2_hasTable at h
  refine sx_aload_n (pc := 0) dX2_hasTable_0 sx_m0 ?_
  refine sv_getA (pc := 1) hG dX2_hasTable_1 f_2_19 lay_2 rfl cr_2_3 ?_
  refine sx_iload_n (pc := 4) dX2_hasTable_4 sx_m1 ?_
  obtain ⟨g1, h⟩ := sx_grd h
  refine sv_iald (pc := 5) hG dX2_hasTable_5 lay_4 g1 ?_
  refine sx_if_le (pc := 6) (tgt := 13) dX2_hasTable_6 (by decide) (fun c2 => ?_) (fun c2 => ?_)
  · have h := sx_pos c2 h
    refine sx_iconst (pc := 13) (v := 0) dX2_hasTable_13 (by decide) ?_
    exact sv_zret (pc := 14) dX2_hasTable_14 rfl rfl h hP
  · have h := sx_neg c2 h
    refine sx_iconst (pc := 9) (v := 1) dX2_hasTable_9 (by decide) ?_
    refine sx_goto (pc := 10) (tgt := 14) dX2_hasTable_10 (by decide) ?_
    exact sv_zret (pc := 14) dX2_hasTable_14 rfl rfl h hP
def ncX2_hasGlyph : Nat := 14984339347662989861894166766167854879382299
theorem kcX2_hasGlyph : CK cX2_hasGlyph ncX2_hasGlyph 18 := ⟨by decide +kernel, by decide +kernel⟩
theorem dX2_hasGlyph_0 : decode cX2_hasGlyph 0 = .ok (.iload_n 1, 1) := dl_o27 kcX2_hasGlyph (by decide +kernel)
theorem dX2_hasGlyph_1 : decode cX2_hasGlyph 1 = .ok (.ifCond .lt 15, 3) := dl_o155 kcX2_hasGlyph 15 (by decide +kernel) (by decide +kernel)
theorem dX2_hasGlyph_4 : decode cX2_hasGlyph 4 = .ok (.iload_n 1, 1) := dl_o27 kcX2_hasGlyph (by decide +kernel)
theorem dX2_hasGlyph_5 : decode cX2_hasGlyph 5 = .ok (.aload_n 0, 1) := dl_o42 kcX2_hasGlyph (by decide +kernel)
theorem dX2_hasGlyph_6 : decode cX2_hasGlyph 6 = .ok (.getfield 54, 3) := dl_o180 kcX2_hasGlyph (by decide +kernel)
theorem dX2_hasGlyph_9 : decode cX2_hasGlyph 9 = .ok (.if_icmp .ge 7, 3) := dl_o162 kcX2_hasGlyph 7 (by decide +kernel) (by decide +kernel)
theorem dX2_hasGlyph_12 : decode cX2_hasGlyph 12 = .ok (.iconst 1, 1) := dl_o4 kcX2_hasGlyph (by decide +kernel)
theorem dX2_hasGlyph_13 : decode cX2_hasGlyph 13 = .ok (.goto 4, 3) := dl_o167 kcX2_hasGlyph 4 (by decide +kernel) (by decide +kernel)
theorem dX2_hasGlyph_16 : decode cX2_hasGlyph 16 = .ok (.iconst 0, 1) := dl_o3 kcX2_hasGlyph (by decide +kernel)
theorem dX2_hasGlyph_17 : decode cX2_hasGlyph 17 = .ok (.ireturn, 1) := dl_o172 kcX2_hasGlyph (by decide +kernel)
def F_X2_hasGlyph (l1 : Int32) (V : sv_V) : Option (Int32 × sv_V) := if l1 < 0 then (some ((0 : Int32), V)) else (if (V.1 2 7) ≤ l1 then (some ((0 : Int32), V)) else (some ((1 : Int32), V)))
set_option maxRecDepth 20000 in
theorem t_X2_hasGlyph {g : sx_G} (hG : sx_Go g) {P : Option Value → sv_V → Prop} {r : Int32} {Vr : sv_V} (hP : P (some (.int r)) Vr) {l1 : Int32} {V : sv_V} (h : F_X2_hasGlyph l1 V = some (r, Vr)) : sv_N g qX2_hasGlyph 0 0 [(0, .ref 2), (1, .int l1)] [] V P := by
  unfold F_X2_hasGlyph at h
  refine sx_iload_n (pc := 0) dX2_hasGlyph_0 sx_m1 ?_
  refine sx_if_lt (pc := 1) (tgt := 16) dX2_hasGlyph_1 (by decide) (fun c1 => ?_) (fun c1 => ?_)
  · have h := sx_pos c1 h
    refine sx_iconst (pc := 16) (v := 0) dX2_hasGlyph_16 (by decide) ?_
    exact sv_zret (pc := 17) dX2_hasGlyph_17 rfl rfl h hP
  · have h := sx_neg c1 h
    refine sx_iload_n (pc := 4) dX2_hasGlyph_4 sx_m1 ?_
    refine sx_aload_n (pc := 5) dX2_hasGlyph_5 sx_m0 ?_
    refine sv_getI (pc := 6) hG dX2_hasGlyph_6 f_2_54 lay_2 rfl ?_
    refine sx_icmp_ge (pc := 9) (tgt := 16) dX2_hasGlyph_9 (by decide) (fun c2 => ?_) (fun c2 => ?_)
    · have h := sx_pos c2 h
      refine sx_iconst (pc := 16) (v := 0) dX2_hasGlyph_16 (by decide) ?_
      exact sv_zret (pc := 17) dX2_hasGlyph_17 rfl rfl h hP
    · have h := sx_neg c2 h
      refine sx_iconst (pc := 12) (v := 1) dX2_hasGlyph_12 (by decide) ?_
      refine sx_goto (pc := 13) (tgt := 17) dX2_hasGlyph_13 (by decide) ?_
      exact sv_zret (pc := 17) dX2_hasGlyph_17 rfl rfl h hP
def ncX2_bearingOf : Nat := 1580292317974106818051229541923986986953227931669016503606157224933038052140367877030909102998536892603181595
theorem kcX2_bearingOf : CK cX2_bearingOf ncX2_bearingOf 45 := ⟨by decide +kernel, by decide +kernel⟩
theorem dX2_bearingOf_0 : decode cX2_bearingOf 0 = .ok (.iload_n 1, 1) := dl_o27 kcX2_bearingOf (by decide +kernel)
theorem dX2_bearingOf_1 : decode cX2_bearingOf 1 = .ok (.aload_n 0, 1) := dl_o42 kcX2_bearingOf (by decide +kernel)
theorem dX2_bearingOf_2 : decode cX2_bearingOf 2 = .ok (.getfield 57, 3) := dl_o180 kcX2_bearingOf (by decide +kernel)
theorem dX2_bearingOf_5 : decode cX2_bearingOf 5 = .ok (.if_icmp .ge 11, 3) := dl_o162 kcX2_bearingOf 11 (by decide +kernel) (by decide +kernel)
theorem dX2_bearingOf_8 : decode cX2_bearingOf 8 = .ok (.iconst 4, 1) := dl_o7 kcX2_bearingOf (by decide +kernel)
theorem dX2_bearingOf_9 : decode cX2_bearingOf 9 = .ok (.iload_n 1, 1) := dl_o27 kcX2_bearingOf (by decide +kernel)
theorem dX2_bearingOf_10 : decode cX2_bearingOf 10 = .ok (.imul, 1) := dl_o104 kcX2_bearingOf (by decide +kernel)
theorem dX2_bearingOf_11 : decode cX2_bearingOf 11 = .ok (.iconst 2, 1) := dl_o5 kcX2_bearingOf (by decide +kernel)
theorem dX2_bearingOf_12 : decode cX2_bearingOf 12 = .ok (.iadd, 1) := dl_o96 kcX2_bearingOf (by decide +kernel)
theorem dX2_bearingOf_13 : decode cX2_bearingOf 13 = .ok (.goto 18, 3) := dl_o167 kcX2_bearingOf 18 (by decide +kernel) (by decide +kernel)
theorem dX2_bearingOf_16 : decode cX2_bearingOf 16 = .ok (.iconst 4, 1) := dl_o7 kcX2_bearingOf (by decide +kernel)
theorem dX2_bearingOf_17 : decode cX2_bearingOf 17 = .ok (.aload_n 0, 1) := dl_o42 kcX2_bearingOf (by decide +kernel)
theorem dX2_bearingOf_18 : decode cX2_bearingOf 18 = .ok (.getfield 57, 3) := dl_o180 kcX2_bearingOf (by decide +kernel)
theorem dX2_bearingOf_21 : decode cX2_bearingOf 21 = .ok (.imul, 1) := dl_o104 kcX2_bearingOf (by decide +kernel)
theorem dX2_bearingOf_22 : decode cX2_bearingOf 22 = .ok (.iconst 2, 1) := dl_o5 kcX2_bearingOf (by decide +kernel)
theorem dX2_bearingOf_23 : decode cX2_bearingOf 23 = .ok (.iload_n 1, 1) := dl_o27 kcX2_bearingOf (by decide +kernel)
theorem dX2_bearingOf_24 : decode cX2_bearingOf 24 = .ok (.aload_n 0, 1) := dl_o42 kcX2_bearingOf (by decide +kernel)
theorem dX2_bearingOf_25 : decode cX2_bearingOf 25 = .ok (.getfield 57, 3) := dl_o180 kcX2_bearingOf (by decide +kernel)
theorem dX2_bearingOf_28 : decode cX2_bearingOf 28 = .ok (.isub, 1) := dl_o100 kcX2_bearingOf (by decide +kernel)
theorem dX2_bearingOf_29 : decode cX2_bearingOf 29 = .ok (.imul, 1) := dl_o104 kcX2_bearingOf (by decide +kernel)
theorem dX2_bearingOf_30 : decode cX2_bearingOf 30 = .ok (.iadd, 1) := dl_o96 kcX2_bearingOf (by decide +kernel)
theorem dX2_bearingOf_31 : decode cX2_bearingOf 31 = .ok (.istore_n 2, 1) := dl_o61 kcX2_bearingOf (by decide +kernel)
theorem dX2_bearingOf_32 : decode cX2_bearingOf 32 = .ok (.aload_n 0, 1) := dl_o42 kcX2_bearingOf (by decide +kernel)
theorem dX2_bearingOf_33 : decode cX2_bearingOf 33 = .ok (.aload_n 0, 1) := dl_o42 kcX2_bearingOf (by decide +kernel)
theorem dX2_bearingOf_34 : decode cX2_bearingOf 34 = .ok (.getfield 19, 3) := dl_o180 kcX2_bearingOf (by decide +kernel)
theorem dX2_bearingOf_37 : decode cX2_bearingOf 37 = .ok (.iconst 4, 1) := dl_o7 kcX2_bearingOf (by decide +kernel)
theorem dX2_bearingOf_38 : decode cX2_bearingOf 38 = .ok (.iaload, 1) := dl_o46 kcX2_bearingOf (by decide +kernel)
theorem dX2_bearingOf_39 : decode cX2_bearingOf 39 = .ok (.iload_n 2, 1) := dl_o28 kcX2_bearingOf (by decide +kernel)
theorem dX2_bearingOf_40 : decode cX2_bearingOf 40 = .ok (.iadd, 1) := dl_o96 kcX2_bearingOf (by decide +kernel)
theorem dX2_bearingOf_41 : decode cX2_bearingOf 41 = .ok (.invokevirtual 66, 3) := dl_o182 kcX2_bearingOf (by decide +kernel)
theorem dX2_bearingOf_44 : decode cX2_bearingOf 44 = .ok (.ireturn, 1) := dl_o172 kcX2_bearingOf (by decide +kernel)
def B_X2_bearingOf_31  (s0 : Int32) (V : sv_V) : Option (Int32 × sv_V) := (F_X2_s2 ((V.1 4 (4 : Int32).toNatClampNeg) + s0) V).bind (fun (x3, V1) => some (x3, V1))
set_option maxRecDepth 20000 in
theorem tB_X2_bearingOf_31 {g : sx_G} (hG : sx_Go g) {P : Option Value → sv_V → Prop} {r : Int32} {Vr : sv_V} (hP : P (some (.int r)) Vr)   {s0 : Int32} {V : sv_V} (h : B_X2_bearingOf_31  s0 V = some (r, Vr)) : sv_N g qX2_bearingOf 1 31 [(0, .ref 2)] [.int s0] V P := by
  unfold B_X2_bearingOf_31 at h
  refine sx_istore_n (pc := 31) (lo' := [(2, .int s0), (0, .ref 2)]) dX2_bearingOf_31 (by decide) rfl ?_
  refine sx_aload_n (pc := 32) dX2_bearingOf_32 sx_m1 ?_
  refine sx_aload_n (pc := 33) dX2_bearingOf_33 sx_m1 ?_
  refine sv_getA (pc := 34) hG dX2_bearingOf_34 f_2_19 lay_2 rfl cr_2_3 ?_
  refine sx_iconst (pc := 37) (v := 4) dX2_bearingOf_37 (by decide) ?_
  refine sv_iald (pc := 38) hG dX2_bearingOf_38 lay_4 (by decide) ?_
  refine sx_iload_n (pc := 39) dX2_bearingOf_39 sx_m0 ?_
  refine sx_iadd (pc := 40) dX2_bearingOf_40 ?_
  obtain ⟨⟨x3, V1⟩, g2, h⟩ := sx_bnd h
  refine sv_cV (pc := 41) (y := qX2_s2) (o := (some (.int x3))) (as := [.int ((V.1 4 (4 : Int32).toNatClampNeg) + s0)]) (V1 := V1) hG dX2_bearingOf_41 l_X2_66 y0X2_s2 yvX2_s2 rfl (Nat.le_of_ble_eq_true rfl) lay_2 kr_2 (by decide) (Nat.le_of_ble_eq_true rfl) rfl rfl rfl (t_X2_s2 hG ⟨rfl, rfl⟩ g2) ?_
  exact sv_iret (pc := 44) dX2_bearingOf_44 rfl h hP
def F_X2_bearingOf (l1 : Int32) (V : sv_V) : Option (Int32 × sv_V) := if (V.1 2 8) ≤ l1 then (B_X2_bearingOf_31  (((4 : Int32) * (V.1 2 8)) + ((2 : Int32) * (l1 - (V.1 2 8)))) V) else (B_X2_bearingOf_31  (((4 : Int32) * l1) + (2 : Int32)) V)
set_option maxRecDepth 20000 in
theorem t_X2_bearingOf {g : sx_G} (hG : sx_Go g) {P : Option Value → sv_V → Prop} {r : Int32} {Vr : sv_V} (hP : P (some (.int r)) Vr) {l1 : Int32} {V : sv_V} (h : F_X2_bearingOf l1 V = some (r, Vr)) : sv_N g qX2_bearingOf 1 0 [(0, .ref 2), (1, .int l1)] [] V P := by
  unfold F_X2_bearingOf at h
  refine sx_iload_n (pc := 0) dX2_bearingOf_0 sx_m1 ?_
  refine sx_aload_n (pc := 1) dX2_bearingOf_1 sx_m0 ?_
  refine sv_getI (pc := 2) hG dX2_bearingOf_2 f_2_57 lay_2 rfl ?_
  refine sx_icmp_ge (pc := 5) (tgt := 16) dX2_bearingOf_5 (by decide) (fun c4 => ?_) (fun c4 => ?_)
  · have h := sx_pos c4 h
    refine sx_iconst (pc := 16) (v := 4) dX2_bearingOf_16 (by decide) ?_
    refine sx_aload_n (pc := 17) dX2_bearingOf_17 sx_m0 ?_
    refine sv_getI (pc := 18) hG dX2_bearingOf_18 f_2_57 lay_2 rfl ?_
    refine sx_imul (pc := 21) dX2_bearingOf_21 ?_
    refine sx_iconst (pc := 22) (v := 2) dX2_bearingOf_22 (by decide) ?_
    refine sx_iload_n (pc := 23) dX2_bearingOf_23 sx_m1 ?_
    refine sx_aload_n (pc := 24) dX2_bearingOf_24 sx_m0 ?_
    refine sv_getI (pc := 25) hG dX2_bearingOf_25 f_2_57 lay_2 rfl ?_
    refine sx_isub (pc := 28) dX2_bearingOf_28 ?_
    refine sx_imul (pc := 29) dX2_bearingOf_29 ?_
    refine sx_iadd (pc := 30) dX2_bearingOf_30 ?_
    refine sx_wk (sx_s1 sx_m0 sx_s0) ?_
    exact tB_X2_bearingOf_31 hG hP  h
  · have h := sx_neg c4 h
    refine sx_iconst (pc := 8) (v := 4) dX2_bearingOf_8 (by decide) ?_
    refine sx_iload_n (pc := 9) dX2_bearingOf_9 sx_m1 ?_
    refine sx_imul (pc := 10) dX2_bearingOf_10 ?_
    refine sx_iconst (pc := 11) (v := 2) dX2_bearingOf_11 (by decide) ?_
    refine sx_iadd (pc := 12) dX2_bearingOf_12 ?_
    refine sx_goto (pc := 13) (tgt := 31) dX2_bearingOf_13 (by decide) ?_
    refine sx_wk (sx_s1 sx_m0 sx_s0) ?_
    exact tB_X2_bearingOf_31 hG hP  h
def ncX2_kernOf : Nat := 590423192225345323938081649553242317339476794021323923986391881084648967027591779052632203037279273138383784072208577406819634756214912462883476806247609351683
theorem kcX2_kernOf : CK cX2_kernOf ncX2_kernOf 66 := ⟨by decide +kernel, by decide +kernel⟩
theorem dX2_kernOf_0 : decode cX2_kernOf 0 = .ok (.iconst 0, 1) := dl_o3 kcX2_kernOf (by decide +kernel)
theorem dX2_kernOf_1 : decode cX2_kernOf 1 = .ok (.istore_n 3, 1) := dl_o62 kcX2_kernOf (by decide +kernel)
theorem dX2_kernOf_2 : decode cX2_kernOf 2 = .ok (.iload_n 3, 1) := dl_o29 kcX2_kernOf (by decide +kernel)
theorem dX2_kernOf_3 : decode cX2_kernOf 3 = .ok (.aload_n 0, 1) := dl_o42 kcX2_kernOf (by decide +kernel)
theorem dX2_kernOf_4 : decode cX2_kernOf 4 = .ok (.getfield 69, 3) := dl_o180 kcX2_kernOf (by decide +kernel)
theorem dX2_kernOf_7 : decode cX2_kernOf 7 = .ok (.if_icmp .ge 57, 3) := dl_o162 kcX2_kernOf 57 (by decide +kernel) (by decide +kernel)
theorem dX2_kernOf_10 : decode cX2_kernOf 10 = .ok (.aload_n 0, 1) := dl_o42 kcX2_kernOf (by decide +kernel)
theorem dX2_kernOf_11 : decode cX2_kernOf 11 = .ok (.getfield 19, 3) := dl_o180 kcX2_kernOf (by decide +kernel)
theorem dX2_kernOf_14 : decode cX2_kernOf 14 = .ok (.bipush 7, 2) := dl_o16 kcX2_kernOf 7 (by decide +kernel) (by decide +kernel)
theorem dX2_kernOf_16 : decode cX2_kernOf 16 = .ok (.iaload, 1) := dl_o46 kcX2_kernOf (by decide +kernel)
theorem dX2_kernOf_17 : decode cX2_kernOf 17 = .ok (.bipush 18, 2) := dl_o16 kcX2_kernOf 18 (by decide +kernel) (by decide +kernel)
theorem dX2_kernOf_19 : decode cX2_kernOf 19 = .ok (.iadd, 1) := dl_o96 kcX2_kernOf (by decide +kernel)
theorem dX2_kernOf_20 : decode cX2_kernOf 20 = .ok (.bipush 6, 2) := dl_o16 kcX2_kernOf 6 (by decide +kernel) (by decide +kernel)
theorem dX2_kernOf_22 : decode cX2_kernOf 22 = .ok (.iload_n 3, 1) := dl_o29 kcX2_kernOf (by decide +kernel)
theorem dX2_kernOf_23 : decode cX2_kernOf 23 = .ok (.imul, 1) := dl_o104 kcX2_kernOf (by decide +kernel)
theorem dX2_kernOf_24 : decode cX2_kernOf 24 = .ok (.iadd, 1) := dl_o96 kcX2_kernOf (by decide +kernel)
theorem dX2_kernOf_25 : decode cX2_kernOf 25 = .ok (.istore 4, 2) := dl_o54 kcX2_kernOf (by decide +kernel)
theorem dX2_kernOf_27 : decode cX2_kernOf 27 = .ok (.aload_n 0, 1) := dl_o42 kcX2_kernOf (by decide +kernel)
theorem dX2_kernOf_28 : decode cX2_kernOf 28 = .ok (.iload 4, 2) := dl_o21 kcX2_kernOf (by decide +kernel)
theorem dX2_kernOf_30 : decode cX2_kernOf 30 = .ok (.invokevirtual 50, 3) := dl_o182 kcX2_kernOf (by decide +kernel)
theorem dX2_kernOf_33 : decode cX2_kernOf 33 = .ok (.iload_n 1, 1) := dl_o27 kcX2_kernOf (by decide +kernel)
theorem dX2_kernOf_34 : decode cX2_kernOf 34 = .ok (.if_icmp .ne 24, 3) := dl_o160 kcX2_kernOf 24 (by decide +kernel) (by decide +kernel)
theorem dX2_kernOf_37 : decode cX2_kernOf 37 = .ok (.aload_n 0, 1) := dl_o42 kcX2_kernOf (by decide +kernel)
theorem dX2_kernOf_38 : decode cX2_kernOf 38 = .ok (.iload 4, 2) := dl_o21 kcX2_kernOf (by decide +kernel)
theorem dX2_kernOf_40 : decode cX2_kernOf 40 = .ok (.iconst 2, 1) := dl_o5 kcX2_kernOf (by decide +kernel)
theorem dX2_kernOf_41 : decode cX2_kernOf 41 = .ok (.iadd, 1) := dl_o96 kcX2_kernOf (by decide +kernel)
theorem dX2_kernOf_42 : decode cX2_kernOf 42 = .ok (.invokevirtual 50, 3) := dl_o182 kcX2_kernOf (by decide +kernel)
theorem dX2_kernOf_45 : decode cX2_kernOf 45 = .ok (.iload_n 2, 1) := dl_o28 kcX2_kernOf (by decide +kernel)
theorem dX2_kernOf_46 : decode cX2_kernOf 46 = .ok (.if_icmp .ne 12, 3) := dl_o160 kcX2_kernOf 12 (by decide +kernel) (by decide +kernel)
theorem dX2_kernOf_49 : decode cX2_kernOf 49 = .ok (.aload_n 0, 1) := dl_o42 kcX2_kernOf (by decide +kernel)
theorem dX2_kernOf_50 : decode cX2_kernOf 50 = .ok (.iload 4, 2) := dl_o21 kcX2_kernOf (by decide +kernel)
theorem dX2_kernOf_52 : decode cX2_kernOf 52 = .ok (.iconst 4, 1) := dl_o7 kcX2_kernOf (by decide +kernel)
theorem dX2_kernOf_53 : decode cX2_kernOf 53 = .ok (.iadd, 1) := dl_o96 kcX2_kernOf (by decide +kernel)
theorem dX2_kernOf_54 : decode cX2_kernOf 54 = .ok (.invokevirtual 66, 3) := dl_o182 kcX2_kernOf (by decide +kernel)
theorem dX2_kernOf_57 : decode cX2_kernOf 57 = .ok (.ireturn, 1) := dl_o172 kcX2_kernOf (by decide +kernel)
theorem dX2_kernOf_58 : decode cX2_kernOf 58 = .ok (.iinc 3 1, 3) := by decide +kernel
theorem dX2_kernOf_61 : decode cX2_kernOf 61 = .ok (.goto (-59), 3) := dl_o167 kcX2_kernOf 65477 (by decide +kernel) (by decide +kernel)
theorem dX2_kernOf_64 : decode cX2_kernOf 64 = .ok (.iconst 0, 1) := dl_o3 kcX2_kernOf (by decide +kernel)
theorem dX2_kernOf_65 : decode cX2_kernOf 65 = .ok (.ireturn, 1) := dl_o172 kcX2_kernOf (by decide +kernel)
def B_X2_kernOf_58 (N : Nat) (k2 : Int32 → Int32 → Int32 → sv_V → Option (Int32 × sv_V)) (l1 : Int32) (l2 : Int32) (l3 : Int32) (V : sv_V) : Option (Int32 × sv_V) := sx_let (l3 + 1) (fun x1 => k2 l1 l2 x1 V)
set_option maxRecDepth 20000 in
theorem tB_X2_kernOf_58 {g : sx_G} (hG : sx_Go g) {P : Option Value → sv_V → Prop} {r : Int32} {Vr : sv_V} (hP : P (some (.int r)) Vr) {N : Nat} {k2 : Int32 → Int32 → Int32 → sv_V → Option (Int32 × sv_V)} (hk2 : ∀ (l1 : Int32) (l2 : Int32) (l3 : Int32) (V : sv_V), k2 l1 l2 l3 V = some (r, Vr) → sv_N g qX2_kernOf 1 2 [(0, .ref 2), (1, .int l1), (2, .int l2), (3, .int l3)] [] V P) {l1 : Int32} {l2 : Int32} {l3 : Int32} {V : sv_V} (h : B_X2_kernOf_58 N k2 l1 l2 l3 V = some (r, Vr)) : sv_N g qX2_kernOf 1 58 [(0, .ref 2), (1, .int l1), (2, .int l2), (3, .int l3)] [] V P := by
  unfold B_X2_kernOf_58 at h
  obtain ⟨x1, hx1⟩ : ∃ z : Int32, z = l3 + 1 := ⟨_, rfl⟩
  have h := sx_letE hx1 h
  refine sx_iinc (pc := 58) (v := x1) (lo' := [(3, .int x1), (0, .ref 2), (1, .int l1), (2, .int l2)]) dX2_kernOf_58 sx_m3 (by rw [hx1]; rfl) (by decide) rfl ?_
  refine sx_goto (pc := 61) (tgt := 2) dX2_kernOf_61 (by decide) ?_
  refine sx_wk (sx_s1 sx_m1 (sx_s1 sx_m2 (sx_s1 sx_m3 (sx_s1 sx_m0 sx_s0)))) ?_
  exact hk2 _ _ _ _ h
def B_X2_kernOf_2 (N : Nat) (k2 : Int32 → Int32 → Int32 → sv_V → Option (Int32 × sv_V)) (l1 : Int32) (l2 : Int32) (l3 : Int32) (V : sv_V) : Option (Int32 × sv_V) := if (V.1 2 15) ≤ l3 then (some ((0 : Int32), V)) else (sx_let (((V.1 4 (7 : Int32).toNatClampNeg) + (18 : Int32)) + ((6 : Int32) * l3)) (fun x3 => (F_X2_u2 x3 V).bind (fun (x6, V4) => if x6 = l1 then ((F_X2_u2 (x3 + (2 : Int32)) V4).bind (fun (x10, V8) => if x10 = l2 then ((F_X2_s2 (x3 + (4 : Int32)) V8).bind (fun (x14, V12) => some (x14, V12))) else (B_X2_kernOf_58 N k2 l1 l2 l3 V8))) else (B_X2_kernOf_58 N k2 l1 l2 l3 V4))))
set_option maxRecDepth 20000 in
theorem tB_X2_kernOf_2 {g : sx_G} (hG : sx_Go g) {P : Option Value → sv_V → Prop} {r : Int32} {Vr : sv_V} (hP : P (some (.int r)) Vr) {N : Nat} {k2 : Int32 → Int32 → Int32 → sv_V → Option (Int32 × sv_V)} (hk2 : ∀ (l1 : Int32) (l2 : Int32) (l3 : Int32) (V : sv_V), k2 l1 l2 l3 V = some (r, Vr) → sv_N g qX2_kernOf 1 2 [(0, .ref 2), (1, .int l1), (2, .int l2), (3, .int l3)] [] V P) {l1 : Int32} {l2 : Int32} {l3 : Int32} {V : sv_V} (h : B_X2_kernOf_2 N k2 l1 l2 l3 V = some (r, Vr)) : sv_N g qX2_kernOf 1 2 [(0, .ref 2), (1, .int l1), (2, .int l2), (3, .int l3)] [] V P := by
  unfold B_X2_kernOf_2 at h
  refine sx_iload_n (pc := 2) dX2_kernOf_2 sx_m3 ?_
  refine sx_aload_n (pc := 3) dX2_kernOf_3 sx_m0 ?_
  refine sv_getI (pc := 4) hG dX2_kernOf_4 f_2_69 lay_2 rfl ?_
  refine sx_icmp_ge (pc := 7) (tgt := 64) dX2_kernOf_7 (by decide) (fun c2 => ?_) (fun c2 => ?_)
  · have h := sx_pos c2 h
    refine sx_iconst (pc := 64) (v := 0) dX2_kernOf_64 (by decide) ?_
    exact sv_iret (pc := 65) dX2_kernOf_65 rfl h hP
  · have h := sx_neg c2 h
    refine sx_aload_n (pc := 10) dX2_kernOf_10 sx_m0 ?_
    refine sv_getA (pc := 11) hG dX2_kernOf_11 f_2_19 lay_2 rfl cr_2_3 ?_
    refine sx_bipush (pc := 14) (v := 7) dX2_kernOf_14 (by decide) ?_
    refine sv_iald (pc := 16) hG dX2_kernOf_16 lay_4 (by decide) ?_
    refine sx_bipush (pc := 17) (v := 18) dX2_kernOf_17 (by decide) ?_
    refine sx_iadd (pc := 19) dX2_kernOf_19 ?_
    refine sx_bipush (pc := 20) (v := 6) dX2_kernOf_20 (by decide) ?_
    refine sx_iload_n (pc := 22) dX2_kernOf_22 sx_m3 ?_
    refine sx_imul (pc := 23) dX2_kernOf_23 ?_
    refine sx_iadd (pc := 24) dX2_kernOf_24 ?_
    refine sv_tI (fun x3 hx3 => ?_)
    have h := sx_letE hx3 h
    refine sx_istore (pc := 25) (lo' := [(4, .int x3), (0, .ref 2), (1, .int l1), (2, .int l2), (3, .int l3)]) dX2_kernOf_25 (by decide) rfl ?_
    refine sx_aload_n (pc := 27) dX2_kernOf_27 sx_m1 ?_
    refine sx_iload (pc := 28) dX2_kernOf_28 sx_m0 ?_
    obtain ⟨⟨x6, V4⟩, g5, h⟩ := sx_bnd h
    refine sv_cV (pc := 30) (y := qX2_u2) (o := (some (.int x6))) (as := [.int x3]) (V1 := V4) hG dX2_kernOf_30 l_X2_50 y0X2_u2 yvX2_u2 rfl (Nat.le_of_ble_eq_true rfl) lay_2 kr_2 (by decide) (Nat.le_of_ble_eq_true rfl) rfl rfl rfl (t_X2_u2 hG ⟨rfl, rfl⟩ g5) ?_
    refine sx_iload_n (pc := 33) dX2_kernOf_33 sx_m2 ?_
    refine sx_icmp_ne (pc := 34) (tgt := 58) dX2_kernOf_34 (by decide) (fun c7 => ?_) (fun c7 => ?_)
    · have h := sx_neg c7 h
      refine sx_wk (sx_s1 sx_m1 (sx_s1 sx_m2 (sx_s1 sx_m3 (sx_s1 sx_m4 sx_s0)))) ?_
      exact tB_X2_kernOf_58 hG hP hk2 h
    · have h := sx_pos c7 h
      refine sx_aload_n (pc := 37) dX2_kernOf_37 sx_m1 ?_
      refine sx_iload (pc := 38) dX2_kernOf_38 sx_m0 ?_
      refine sx_iconst (pc := 40) (v := 2) dX2_kernOf_40 (by decide) ?_
      refine sx_iadd (pc := 41) dX2_kernOf_41 ?_
      obtain ⟨⟨x10, V8⟩, g9, h⟩ := sx_bnd h
      refine sv_cV (pc := 42) (y := qX2_u2) (o := (some (.int x10))) (as := [.int (x3 + (2 : Int32))]) (V1 := V8) hG dX2_kernOf_42 l_X2_50 y0X2_u2 yvX2_u2 rfl (Nat.le_of_ble_eq_true rfl) lay_2 kr_2 (by decide) (Nat.le_of_ble_eq_true rfl) rfl rfl rfl (t_X2_u2 hG ⟨rfl, rfl⟩ g9) ?_
      refine sx_iload_n (pc := 45) dX2_kernOf_45 sx_m3 ?_
      refine sx_icmp_ne (pc := 46) (tgt := 58) dX2_kernOf_46 (by decide) (fun c11 => ?_) (fun c11 => ?_)
      · have h := sx_neg c11 h
        refine sx_wk (sx_s1 sx_m1 (sx_s1 sx_m2 (sx_s1 sx_m3 (sx_s1 sx_m4 sx_s0)))) ?_
        exact tB_X2_kernOf_58 hG hP hk2 h
      · have h := sx_pos c11 h
        refine sx_aload_n (pc := 49) dX2_kernOf_49 sx_m1 ?_
        refine sx_iload (pc := 50) dX2_kernOf_50 sx_m0 ?_
        refine sx_iconst (pc := 52) (v := 4) dX2_kernOf_52 (by decide) ?_
        refine sx_iadd (pc := 53) dX2_kernOf_53 ?_
        obtain ⟨⟨x14, V12⟩, g13, h⟩ := sx_bnd h
        refine sv_cV (pc := 54) (y := qX2_s2) (o := (some (.int x14))) (as := [.int (x3 + (4 : Int32))]) (V1 := V12) hG dX2_kernOf_54 l_X2_66 y0X2_s2 yvX2_s2 rfl (Nat.le_of_ble_eq_true rfl) lay_2 kr_2 (by decide) (Nat.le_of_ble_eq_true rfl) rfl rfl rfl (t_X2_s2 hG ⟨rfl, rfl⟩ g13) ?_
        exact sv_iret (pc := 57) dX2_kernOf_57 rfl h hP
theorem tL_X2_kernOf_2 {g : sx_G} (hG : sx_Go g) {P : Option Value → sv_V → Prop} {r : Int32} {Vr : sv_V} (hP : P (some (.int r)) Vr) {N : Nat}   : ∀ (n : Nat) (l1 : Int32) (l2 : Int32) (l3 : Int32) (V : sv_V), sx_lp4 (B_X2_kernOf_2 N ) n l1 l2 l3 V = some (r, Vr) → sv_N g qX2_kernOf 1 2 [(0, .ref 2), (1, .int l1), (2, .int l2), (3, .int l3)] [] V P :=
  sx_lp4_ind (fun k0 ih _ _ _ V h => tB_X2_kernOf_2 hG hP ih h)
def F_X2_kernOf (N : Nat) (l1 : Int32) (l2 : Int32) (V : sv_V) : Option (Int32 × sv_V) := sx_lp4 (B_X2_kernOf_2 N ) N l1 l2 (0 : Int32) V
set_option maxRecDepth 20000 in
theorem t_X2_kernOf {g : sx_G} (hG : sx_Go g) {P : Option Value → sv_V → Prop} {r : Int32} {Vr : sv_V} (hP : P (some (.int r)) Vr) {N : Nat} {l1 : Int32} {l2 : Int32} {V : sv_V} (h : F_X2_kernOf N l1 l2 V = some (r, Vr)) : sv_N g qX2_kernOf 1 0 [(0, .ref 2), (1, .int l1), (2, .int l2)] [] V P := by
  unfold F_X2_kernOf at h
  refine sx_iconst (pc := 0) (v := 0) dX2_kernOf_0 (by decide) ?_
  refine sx_istore_n (pc := 1) (lo' := [(3, .int (0 : Int32)), (0, .ref 2), (1, .int l1), (2, .int l2)]) dX2_kernOf_1 (by decide) rfl ?_
  refine sx_wk (sx_s1 sx_m1 (sx_s1 sx_m2 (sx_s1 sx_m3 (sx_s1 sx_m0 sx_s0)))) ?_
  exact tL_X2_kernOf_2 hG hP  N _ _ _ _ h
def ncX2_findInGroups : Nat := 10956178358274471393365819490160090606872967971102312439329178643446508803861312958208362116955435540421860713925626668159804970694569086592473481554474601471529255903074879028483
theorem kcX2_findInGroups : CK cX2_findInGroups ncX2_findInGroups 74 := ⟨by decide +kernel, by decide +kernel⟩
theorem dX2_findInGroups_0 : decode cX2_findInGroups 0 = .ok (.iconst 0, 1) := dl_o3 kcX2_findInGroups (by decide +kernel)
theorem dX2_findInGroups_1 : decode cX2_findInGroups 1 = .ok (.istore_n 2, 1) := dl_o61 kcX2_findInGroups (by decide +kernel)
theorem dX2_findInGroups_2 : decode cX2_findInGroups 2 = .ok (.iload_n 2, 1) := dl_o28 kcX2_findInGroups (by decide +kernel)
theorem dX2_findInGroups_3 : decode cX2_findInGroups 3 = .ok (.aload_n 0, 1) := dl_o42 kcX2_findInGroups (by decide +kernel)
theorem dX2_findInGroups_4 : decode cX2_findInGroups 4 = .ok (.getfield 88, 3) := dl_o180 kcX2_findInGroups (by decide +kernel)
theorem dX2_findInGroups_7 : decode cX2_findInGroups 7 = .ok (.if_icmp .ge 65, 3) := dl_o162 kcX2_findInGroups 65 (by decide +kernel) (by decide +kernel)
theorem dX2_findInGroups_10 : decode cX2_findInGroups 10 = .ok (.aload_n 0, 1) := dl_o42 kcX2_findInGroups (by decide +kernel)
theorem dX2_findInGroups_11 : decode cX2_findInGroups 11 = .ok (.getfield 82, 3) := dl_o180 kcX2_findInGroups (by decide +kernel)
theorem dX2_findInGroups_14 : decode cX2_findInGroups 14 = .ok (.bipush 16, 2) := dl_o16 kcX2_findInGroups 16 (by decide +kernel) (by decide +kernel)
theorem dX2_findInGroups_16 : decode cX2_findInGroups 16 = .ok (.iadd, 1) := dl_o96 kcX2_findInGroups (by decide +kernel)
theorem dX2_findInGroups_17 : decode cX2_findInGroups 17 = .ok (.bipush 12, 2) := dl_o16 kcX2_findInGroups 12 (by decide +kernel) (by decide +kernel)
theorem dX2_findInGroups_19 : decode cX2_findInGroups 19 = .ok (.iload_n 2, 1) := dl_o28 kcX2_findInGroups (by decide +kernel)
theorem dX2_findInGroups_20 : decode cX2_findInGroups 20 = .ok (.imul, 1) := dl_o104 kcX2_findInGroups (by decide +kernel)
theorem dX2_findInGroups_21 : decode cX2_findInGroups 21 = .ok (.iadd, 1) := dl_o96 kcX2_findInGroups (by decide +kernel)
theorem dX2_findInGroups_22 : decode cX2_findInGroups 22 = .ok (.istore_n 3, 1) := dl_o62 kcX2_findInGroups (by decide +kernel)
theorem dX2_findInGroups_23 : decode cX2_findInGroups 23 = .ok (.aload_n 0, 1) := dl_o42 kcX2_findInGroups (by decide +kernel)
theorem dX2_findInGroups_24 : decode cX2_findInGroups 24 = .ok (.iload_n 3, 1) := dl_o29 kcX2_findInGroups (by decide +kernel)
theorem dX2_findInGroups_25 : decode cX2_findInGroups 25 = .ok (.invokevirtual 91, 3) := dl_o182 kcX2_findInGroups (by decide +kernel)
theorem dX2_findInGroups_28 : decode cX2_findInGroups 28 = .ok (.lstore 4, 2) := dl_o55 kcX2_findInGroups (by decide +kernel)
theorem dX2_findInGroups_30 : decode cX2_findInGroups 30 = .ok (.lload 4, 2) := dl_o22 kcX2_findInGroups (by decide +kernel)
theorem dX2_findInGroups_32 : decode cX2_findInGroups 32 = .ok (.iload_n 1, 1) := dl_o27 kcX2_findInGroups (by decide +kernel)
theorem dX2_findInGroups_33 : decode cX2_findInGroups 33 = .ok (.i2l, 1) := dl_o133 kcX2_findInGroups (by decide +kernel)
theorem dX2_findInGroups_34 : decode cX2_findInGroups 34 = .ok (.lcmp, 1) := dl_o148 kcX2_findInGroups (by decide +kernel)
theorem dX2_findInGroups_35 : decode cX2_findInGroups 35 = .ok (.ifCond .gt 31, 3) := dl_o157 kcX2_findInGroups 31 (by decide +kernel) (by decide +kernel)
theorem dX2_findInGroups_38 : decode cX2_findInGroups 38 = .ok (.iload_n 1, 1) := dl_o27 kcX2_findInGroups (by decide +kernel)
theorem dX2_findInGroups_39 : decode cX2_findInGroups 39 = .ok (.i2l, 1) := dl_o133 kcX2_findInGroups (by decide +kernel)
theorem dX2_findInGroups_40 : decode cX2_findInGroups 40 = .ok (.aload_n 0, 1) := dl_o42 kcX2_findInGroups (by decide +kernel)
theorem dX2_findInGroups_41 : decode cX2_findInGroups 41 = .ok (.iload_n 3, 1) := dl_o29 kcX2_findInGroups (by decide +kernel)
theorem dX2_findInGroups_42 : decode cX2_findInGroups 42 = .ok (.iconst 4, 1) := dl_o7 kcX2_findInGroups (by decide +kernel)
theorem dX2_findInGroups_43 : decode cX2_findInGroups 43 = .ok (.iadd, 1) := dl_o96 kcX2_findInGroups (by decide +kernel)
theorem dX2_findInGroups_44 : decode cX2_findInGroups 44 = .ok (.invokevirtual 91, 3) := dl_o182 kcX2_findInGroups (by decide +kernel)
theorem dX2_findInGroups_47 : decode cX2_findInGroups 47 = .ok (.lcmp, 1) := dl_o148 kcX2_findInGroups (by decide +kernel)
theorem dX2_findInGroups_48 : decode cX2_findInGroups 48 = .ok (.ifCond .gt 18, 3) := dl_o157 kcX2_findInGroups 18 (by decide +kernel) (by decide +kernel)
theorem dX2_findInGroups_51 : decode cX2_findInGroups 51 = .ok (.aload_n 0, 1) := dl_o42 kcX2_findInGroups (by decide +kernel)
theorem dX2_findInGroups_52 : decode cX2_findInGroups 52 = .ok (.iload_n 3, 1) := dl_o29 kcX2_findInGroups (by decide +kernel)
theorem dX2_findInGroups_53 : decode cX2_findInGroups 53 = .ok (.bipush 8, 2) := dl_o16 kcX2_findInGroups 8 (by decide +kernel) (by decide +kernel)
theorem dX2_findInGroups_55 : decode cX2_findInGroups 55 = .ok (.iadd, 1) := dl_o96 kcX2_findInGroups (by decide +kernel)
theorem dX2_findInGroups_56 : decode cX2_findInGroups 56 = .ok (.invokevirtual 91, 3) := dl_o182 kcX2_findInGroups (by decide +kernel)
theorem dX2_findInGroups_59 : decode cX2_findInGroups 59 = .ok (.iload_n 1, 1) := dl_o27 kcX2_findInGroups (by decide +kernel)
theorem dX2_findInGroups_60 : decode cX2_findInGroups 60 = .ok (.i2l, 1) := dl_o133 kcX2_findInGroups (by decide +kernel)
theorem dX2_findInGroups_61 : decode cX2_findInGroups 61 = .ok (.ladd, 1) := dl_o97 kcX2_findInGroups (by decide +kernel)
theorem dX2_findInGroups_62 : decode cX2_findInGroups 62 = .ok (.lload 4, 2) := dl_o22 kcX2_findInGroups (by decide +kernel)
theorem dX2_findInGroups_64 : decode cX2_findInGroups 64 = .ok (.lsub, 1) := dl_o101 kcX2_findInGroups (by decide +kernel)
theorem dX2_findInGroups_65 : decode cX2_findInGroups 65 = .ok (.lreturn, 1) := dl_o173 kcX2_findInGroups (by decide +kernel)
theorem dX2_findInGroups_66 : decode cX2_findInGroups 66 = .ok (.iinc 2 1, 3) := by decide +kernel
theorem dX2_findInGroups_69 : decode cX2_findInGroups 69 = .ok (.goto (-67), 3) := dl_o167 kcX2_findInGroups 65469 (by decide +kernel) (by decide +kernel)
theorem dX2_findInGroups_72 : decode cX2_findInGroups 72 = .ok (.lconst 0, 1) := dl_o9 kcX2_findInGroups (by decide +kernel)
theorem dX2_findInGroups_73 : decode cX2_findInGroups 73 = .ok (.lreturn, 1) := dl_o173 kcX2_findInGroups (by decide +kernel)
def B_X2_findInGroups_66 (N : Nat) (k2 : Int32 → Int32 → sv_V → Option (Int64 × sv_V)) (l1 : Int32) (l2 : Int32) (V : sv_V) : Option (Int64 × sv_V) := sx_let (l2 + 1) (fun x1 => k2 l1 x1 V)
set_option maxRecDepth 20000 in
theorem tB_X2_findInGroups_66 {g : sx_G} (hG : sx_Go g) {P : Option Value → sv_V → Prop} {r : Int64} {Vr : sv_V} (hP : P (some (.long r)) Vr) {N : Nat} {k2 : Int32 → Int32 → sv_V → Option (Int64 × sv_V)} (hk2 : ∀ (l1 : Int32) (l2 : Int32) (V : sv_V), k2 l1 l2 V = some (r, Vr) → sv_N g qX2_findInGroups 2 2 [(0, .ref 2), (1, .int l1), (2, .int l2)] [] V P) {l1 : Int32} {l2 : Int32} {V : sv_V} (h : B_X2_findInGroups_66 N k2 l1 l2 V = some (r, Vr)) : sv_N g qX2_findInGroups 2 66 [(0, .ref 2), (1, .int l1), (2, .int l2)] [] V P := by
  unfold B_X2_findInGroups_66 at h
  obtain ⟨x1, hx1⟩ : ∃ z : Int32, z = l2 + 1 := ⟨_, rfl⟩
  have h := sx_letE hx1 h
  refine sx_iinc (pc := 66) (v := x1) (lo' := [(2, .int x1), (0, .ref 2), (1, .int l1)]) dX2_findInGroups_66 sx_m2 (by rw [hx1]; rfl) (by decide) rfl ?_
  refine sx_goto (pc := 69) (tgt := 2) dX2_findInGroups_69 (by decide) ?_
  refine sx_wk (sx_s1 sx_m1 (sx_s1 sx_m2 (sx_s1 sx_m0 sx_s0))) ?_
  exact hk2 _ _ _ h
def B_X2_findInGroups_2 (N : Nat) (k2 : Int32 → Int32 → sv_V → Option (Int64 × sv_V)) (l1 : Int32) (l2 : Int32) (V : sv_V) : Option (Int64 × sv_V) := if (V.1 2 14) ≤ l2 then (some ((0 : Int64), V)) else (sx_let (((V.1 2 12) + (16 : Int32)) + ((12 : Int32) * l2)) (fun x3 => (F_X2_u4 x3 V).bind (fun (x6, V4) => if 0 < (lg_cmp x6 l1.toInt64) then (B_X2_findInGroups_66 N k2 l1 l2 V4) else ((F_X2_u4 (x3 + (4 : Int32)) V4).bind (fun (x10, V8) => if 0 < (lg_cmp l1.toInt64 x10) then (B_X2_findInGroups_66 N k2 l1 l2 V8) else ((F_X2_u4 (x3 + (8 : Int32)) V8).bind (fun (x14, V12) => some ((x14 + l1.toInt64) - x6, V12))))))))
set_option maxRecDepth 20000 in
theorem tB_X2_findInGroups_2 {g : sx_G} (hG : sx_Go g) {P : Option Value → sv_V → Prop} {r : Int64} {Vr : sv_V} (hP : P (some (.long r)) Vr) {N : Nat} {k2 : Int32 → Int32 → sv_V → Option (Int64 × sv_V)} (hk2 : ∀ (l1 : Int32) (l2 : Int32) (V : sv_V), k2 l1 l2 V = some (r, Vr) → sv_N g qX2_findInGroups 2 2 [(0, .ref 2), (1, .int l1), (2, .int l2)] [] V P) {l1 : Int32} {l2 : Int32} {V : sv_V} (h : B_X2_findInGroups_2 N k2 l1 l2 V = some (r, Vr)) : sv_N g qX2_findInGroups 2 2 [(0, .ref 2), (1, .int l1), (2, .int l2)] [] V P := by
  unfold B_X2_findInGroups_2 at h
  refine sx_iload_n (pc := 2) dX2_findInGroups_2 sx_m2 ?_
  refine sx_aload_n (pc := 3) dX2_findInGroups_3 sx_m0 ?_
  refine sv_getI (pc := 4) hG dX2_findInGroups_4 f_2_88 lay_2 rfl ?_
  refine sx_icmp_ge (pc := 7) (tgt := 72) dX2_findInGroups_7 (by decide) (fun c2 => ?_) (fun c2 => ?_)
  · have h := sx_pos c2 h
    refine sx_lconst (pc := 72) (v := 0) dX2_findInGroups_72 rfl ?_
    exact sv_lret (pc := 73) dX2_findInGroups_73 rfl h hP
  · have h := sx_neg c2 h
    refine sx_aload_n (pc := 10) dX2_findInGroups_10 sx_m0 ?_
    refine sv_getI (pc := 11) hG dX2_findInGroups_11 f_2_82 lay_2 rfl ?_
    refine sx_bipush (pc := 14) (v := 16) dX2_findInGroups_14 (by decide) ?_
    refine sx_iadd (pc := 16) dX2_findInGroups_16 ?_
    refine sx_bipush (pc := 17) (v := 12) dX2_findInGroups_17 (by decide) ?_
    refine sx_iload_n (pc := 19) dX2_findInGroups_19 sx_m2 ?_
    refine sx_imul (pc := 20) dX2_findInGroups_20 ?_
    refine sx_iadd (pc := 21) dX2_findInGroups_21 ?_
    refine sv_tI (fun x3 hx3 => ?_)
    have h := sx_letE hx3 h
    refine sx_istore_n (pc := 22) (lo' := [(3, .int x3), (0, .ref 2), (1, .int l1), (2, .int l2)]) dX2_findInGroups_22 (by decide) rfl ?_
    refine sx_aload_n (pc := 23) dX2_findInGroups_23 sx_m1 ?_
    refine sx_iload_n (pc := 24) dX2_findInGroups_24 sx_m0 ?_
    obtain ⟨⟨x6, V4⟩, g5, h⟩ := sx_bnd h
    refine sv_cV (pc := 25) (y := qX2_u4) (o := (some (.long x6))) (as := [.int x3]) (V1 := V4) hG dX2_findInGroups_25 l_X2_91 y0X2_u4 yvX2_u4 rfl (Nat.le_of_ble_eq_true rfl) lay_2 kr_2 (by decide) (Nat.le_of_ble_eq_true rfl) rfl rfl rfl (t_X2_u4 hG ⟨rfl, rfl⟩ g5) ?_
    refine sx_lstore (pc := 28) (lo' := [(4, .long x6), (3, .int x3), (0, .ref 2), (1, .int l1), (2, .int l2)]) dX2_findInGroups_28 (by decide) rfl ?_
    refine sx_lload (pc := 30) dX2_findInGroups_30 sx_m0 ?_
    refine sx_iload_n (pc := 32) dX2_findInGroups_32 sx_m3 ?_
    refine sx_i2l (pc := 33) dX2_findInGroups_33 ?_
    refine sx_lcmp (pc := 34) dX2_findInGroups_34 ?_
    refine sx_if_gt (pc := 35) (tgt := 66) dX2_findInGroups_35 (by decide) (fun c7 => ?_) (fun c7 => ?_)
    · have h := sx_pos c7 h
      refine sx_wk (sx_s1 sx_m2 (sx_s1 sx_m3 (sx_s1 sx_m4 sx_s0))) ?_
      exact tB_X2_findInGroups_66 hG hP hk2 h
    · have h := sx_neg c7 h
      refine sx_iload_n (pc := 38) dX2_findInGroups_38 sx_m3 ?_
      refine sx_i2l (pc := 39) dX2_findInGroups_39 ?_
      refine sx_aload_n (pc := 40) dX2_findInGroups_40 sx_m2 ?_
      refine sx_iload_n (pc := 41) dX2_findInGroups_41 sx_m1 ?_
      refine sx_iconst (pc := 42) (v := 4) dX2_findInGroups_42 (by decide) ?_
      refine sx_iadd (pc := 43) dX2_findInGroups_43 ?_
      obtain ⟨⟨x10, V8⟩, g9, h⟩ := sx_bnd h
      refine sv_cV (pc := 44) (y := qX2_u4) (o := (some (.long x10))) (as := [.int (x3 + (4 : Int32))]) (V1 := V8) hG dX2_findInGroups_44 l_X2_91 y0X2_u4 yvX2_u4 rfl (Nat.le_of_ble_eq_true rfl) lay_2 kr_2 (by decide) (Nat.le_of_ble_eq_true rfl) rfl rfl rfl (t_X2_u4 hG ⟨rfl, rfl⟩ g9) ?_
      refine sx_lcmp (pc := 47) dX2_findInGroups_47 ?_
      refine sx_if_gt (pc := 48) (tgt := 66) dX2_findInGroups_48 (by decide) (fun c11 => ?_) (fun c11 => ?_)
      · have h := sx_pos c11 h
        refine sx_wk (sx_s1 sx_m2 (sx_s1 sx_m3 (sx_s1 sx_m4 sx_s0))) ?_
        exact tB_X2_findInGroups_66 hG hP hk2 h
      · have h := sx_neg c11 h
        refine sx_aload_n (pc := 51) dX2_findInGroups_51 sx_m2 ?_
        refine sx_iload_n (pc := 52) dX2_findInGroups_52 sx_m1 ?_
        refine sx_bipush (pc := 53) (v := 8) dX2_findInGroups_53 (by decide) ?_
        refine sx_iadd (pc := 55) dX2_findInGroups_55 ?_
        obtain ⟨⟨x14, V12⟩, g13, h⟩ := sx_bnd h
        refine sv_cV (pc := 56) (y := qX2_u4) (o := (some (.long x14))) (as := [.int (x3 + (8 : Int32))]) (V1 := V12) hG dX2_findInGroups_56 l_X2_91 y0X2_u4 yvX2_u4 rfl (Nat.le_of_ble_eq_true rfl) lay_2 kr_2 (by decide) (Nat.le_of_ble_eq_true rfl) rfl rfl rfl (t_X2_u4 hG ⟨rfl, rfl⟩ g13) ?_
        refine sx_iload_n (pc := 59) dX2_findInGroups_59 sx_m3 ?_
        refine sx_i2l (pc := 60) dX2_findInGroups_60 ?_
        refine sx_ladd (pc := 61) dX2_findInGroups_61 ?_
        refine sx_lload (pc := 62) dX2_findInGroups_62 sx_m0 ?_
        refine sx_lsub (pc := 64) dX2_findInGroups_64 ?_
        exact sv_lret (pc := 65) dX2_findInGroups_65 rfl h hP
theorem tL_X2_findInGroups_2 {g : sx_G} (hG : sx_Go g) {P : Option Value → sv_V → Prop} {r : Int64} {Vr : sv_V} (hP : P (some (.long r)) Vr) {N : Nat}   : ∀ (n : Nat) (l1 : Int32) (l2 : Int32) (V : sv_V), sx_lp3 (B_X2_findInGroups_2 N ) n l1 l2 V = some (r, Vr) → sv_N g qX2_findInGroups 2 2 [(0, .ref 2), (1, .int l1), (2, .int l2)] [] V P :=
  sx_lp3_ind (fun k0 ih _ _ V h => tB_X2_findInGroups_2 hG hP ih h)
def F_X2_findInGroups (N : Nat) (l1 : Int32) (V : sv_V) : Option (Int64 × sv_V) := sx_lp3 (B_X2_findInGroups_2 N ) N l1 (0 : Int32) V
set_option maxRecDepth 20000 in
theorem t_X2_findInGroups {g : sx_G} (hG : sx_Go g) {P : Option Value → sv_V → Prop} {r : Int64} {Vr : sv_V} (hP : P (some (.long r)) Vr) {N : Nat} {l1 : Int32} {V : sv_V} (h : F_X2_findInGroups N l1 V = some (r, Vr)) : sv_N g qX2_findInGroups 2 0 [(0, .ref 2), (1, .int l1)] [] V P := by
  unfold F_X2_findInGroups at h
  refine sx_iconst (pc := 0) (v := 0) dX2_findInGroups_0 (by decide) ?_
  refine sx_istore_n (pc := 1) (lo' := [(2, .int (0 : Int32)), (0, .ref 2), (1, .int l1)]) dX2_findInGroups_1 (by decide) rfl ?_
  refine sx_wk (sx_s1 sx_m1 (sx_s1 sx_m2 (sx_s1 sx_m0 sx_s0))) ?_
  exact tL_X2_findInGroups_2 hG hP  N _ _ _ h
def ncX2_findInSegment : Nat := 133182934668255570866642177488495707789344410476469583296060369228090886524114809703401018558202923666427873369511553297279458623900293305438346079459573211378470796953966385196865604585967252658916411907314349994938420325881583681569406601482585597288120400822227650248963939388596802238415065139451984789081315726111786
theorem kcX2_findInSegment : CK cX2_findInSegment ncX2_findInSegment 133 := ⟨by decide +kernel, by decide +kernel⟩
theorem dX2_findInSegment_0 : decode cX2_findInSegment 0 = .ok (.aload_n 0, 1) := dl_o42 kcX2_findInSegment (by decide +kernel)
theorem dX2_findInSegment_1 : decode cX2_findInSegment 1 = .ok (.getfield 82, 3) := dl_o180 kcX2_findInSegment (by decide +kernel)
theorem dX2_findInSegment_4 : decode cX2_findInSegment 4 = .ok (.bipush 16, 2) := dl_o16 kcX2_findInSegment 16 (by decide +kernel) (by decide +kernel)
theorem dX2_findInSegment_6 : decode cX2_findInSegment 6 = .ok (.iadd, 1) := dl_o96 kcX2_findInSegment (by decide +kernel)
theorem dX2_findInSegment_7 : decode cX2_findInSegment 7 = .ok (.iconst 2, 1) := dl_o5 kcX2_findInSegment (by decide +kernel)
theorem dX2_findInSegment_8 : decode cX2_findInSegment 8 = .ok (.aload_n 0, 1) := dl_o42 kcX2_findInSegment (by decide +kernel)
theorem dX2_findInSegment_9 : decode cX2_findInSegment 9 = .ok (.getfield 88, 3) := dl_o180 kcX2_findInSegment (by decide +kernel)
theorem dX2_findInSegment_12 : decode cX2_findInSegment 12 = .ok (.imul, 1) := dl_o104 kcX2_findInSegment (by decide +kernel)
theorem dX2_findInSegment_13 : decode cX2_findInSegment 13 = .ok (.iadd, 1) := dl_o96 kcX2_findInSegment (by decide +kernel)
theorem dX2_findInSegment_14 : decode cX2_findInSegment 14 = .ok (.iconst 2, 1) := dl_o5 kcX2_findInSegment (by decide +kernel)
theorem dX2_findInSegment_15 : decode cX2_findInSegment 15 = .ok (.iload_n 1, 1) := dl_o27 kcX2_findInSegment (by decide +kernel)
theorem dX2_findInSegment_16 : decode cX2_findInSegment 16 = .ok (.imul, 1) := dl_o104 kcX2_findInSegment (by decide +kernel)
theorem dX2_findInSegment_17 : decode cX2_findInSegment 17 = .ok (.iadd, 1) := dl_o96 kcX2_findInSegment (by decide +kernel)
theorem dX2_findInSegment_18 : decode cX2_findInSegment 18 = .ok (.istore_n 3, 1) := dl_o62 kcX2_findInSegment (by decide +kernel)
theorem dX2_findInSegment_19 : decode cX2_findInSegment 19 = .ok (.aload_n 0, 1) := dl_o42 kcX2_findInSegment (by decide +kernel)
theorem dX2_findInSegment_20 : decode cX2_findInSegment 20 = .ok (.iload_n 3, 1) := dl_o29 kcX2_findInSegment (by decide +kernel)
theorem dX2_findInSegment_21 : decode cX2_findInSegment 21 = .ok (.invokevirtual 50, 3) := dl_o182 kcX2_findInSegment (by decide +kernel)
theorem dX2_findInSegment_24 : decode cX2_findInSegment 24 = .ok (.istore 4, 2) := dl_o54 kcX2_findInSegment (by decide +kernel)
theorem dX2_findInSegment_26 : decode cX2_findInSegment 26 = .ok (.aload_n 0, 1) := dl_o42 kcX2_findInSegment (by decide +kernel)
theorem dX2_findInSegment_27 : decode cX2_findInSegment 27 = .ok (.iload_n 3, 1) := dl_o29 kcX2_findInSegment (by decide +kernel)
theorem dX2_findInSegment_28 : decode cX2_findInSegment 28 = .ok (.iconst 2, 1) := dl_o5 kcX2_findInSegment (by decide +kernel)
theorem dX2_findInSegment_29 : decode cX2_findInSegment 29 = .ok (.aload_n 0, 1) := dl_o42 kcX2_findInSegment (by decide +kernel)
theorem dX2_findInSegment_30 : decode cX2_findInSegment 30 = .ok (.getfield 88, 3) := dl_o180 kcX2_findInSegment (by decide +kernel)
theorem dX2_findInSegment_33 : decode cX2_findInSegment 33 = .ok (.imul, 1) := dl_o104 kcX2_findInSegment (by decide +kernel)
theorem dX2_findInSegment_34 : decode cX2_findInSegment 34 = .ok (.iadd, 1) := dl_o96 kcX2_findInSegment (by decide +kernel)
theorem dX2_findInSegment_35 : decode cX2_findInSegment 35 = .ok (.invokevirtual 50, 3) := dl_o182 kcX2_findInSegment (by decide +kernel)
theorem dX2_findInSegment_38 : decode cX2_findInSegment 38 = .ok (.istore 5, 2) := dl_o54 kcX2_findInSegment (by decide +kernel)
theorem dX2_findInSegment_40 : decode cX2_findInSegment 40 = .ok (.iload_n 3, 1) := dl_o29 kcX2_findInSegment (by decide +kernel)
theorem dX2_findInSegment_41 : decode cX2_findInSegment 41 = .ok (.iconst 4, 1) := dl_o7 kcX2_findInSegment (by decide +kernel)
theorem dX2_findInSegment_42 : decode cX2_findInSegment 42 = .ok (.aload_n 0, 1) := dl_o42 kcX2_findInSegment (by decide +kernel)
theorem dX2_findInSegment_43 : decode cX2_findInSegment 43 = .ok (.getfield 88, 3) := dl_o180 kcX2_findInSegment (by decide +kernel)
theorem dX2_findInSegment_46 : decode cX2_findInSegment 46 = .ok (.imul, 1) := dl_o104 kcX2_findInSegment (by decide +kernel)
theorem dX2_findInSegment_47 : decode cX2_findInSegment 47 = .ok (.iadd, 1) := dl_o96 kcX2_findInSegment (by decide +kernel)
theorem dX2_findInSegment_48 : decode cX2_findInSegment 48 = .ok (.istore 6, 2) := dl_o54 kcX2_findInSegment (by decide +kernel)
theorem dX2_findInSegment_50 : decode cX2_findInSegment 50 = .ok (.aload_n 0, 1) := dl_o42 kcX2_findInSegment (by decide +kernel)
theorem dX2_findInSegment_51 : decode cX2_findInSegment 51 = .ok (.iload 6, 2) := dl_o21 kcX2_findInSegment (by decide +kernel)
theorem dX2_findInSegment_53 : decode cX2_findInSegment 53 = .ok (.invokevirtual 50, 3) := dl_o182 kcX2_findInSegment (by decide +kernel)
theorem dX2_findInSegment_56 : decode cX2_findInSegment 56 = .ok (.istore 7, 2) := dl_o54 kcX2_findInSegment (by decide +kernel)
theorem dX2_findInSegment_58 : decode cX2_findInSegment 58 = .ok (.iload 4, 2) := dl_o21 kcX2_findInSegment (by decide +kernel)
theorem dX2_findInSegment_60 : decode cX2_findInSegment 60 = .ok (.iload_n 2, 1) := dl_o28 kcX2_findInSegment (by decide +kernel)
theorem dX2_findInSegment_61 : decode cX2_findInSegment 61 = .ok (.if_icmp .le 5, 3) := dl_o164 kcX2_findInSegment 5 (by decide +kernel) (by decide +kernel)
theorem dX2_findInSegment_64 : decode cX2_findInSegment 64 = .ok (.iconst 0, 1) := dl_o3 kcX2_findInSegment (by decide +kernel)
theorem dX2_findInSegment_65 : decode cX2_findInSegment 65 = .ok (.ireturn, 1) := dl_o172 kcX2_findInSegment (by decide +kernel)
theorem dX2_findInSegment_66 : decode cX2_findInSegment 66 = .ok (.iload 7, 2) := dl_o21 kcX2_findInSegment (by decide +kernel)
theorem dX2_findInSegment_68 : decode cX2_findInSegment 68 = .ok (.ifCond .ne 11, 3) := dl_o154 kcX2_findInSegment 11 (by decide +kernel) (by decide +kernel)
theorem dX2_findInSegment_71 : decode cX2_findInSegment 71 = .ok (.iload_n 2, 1) := dl_o28 kcX2_findInSegment (by decide +kernel)
theorem dX2_findInSegment_72 : decode cX2_findInSegment 72 = .ok (.iload 5, 2) := dl_o21 kcX2_findInSegment (by decide +kernel)
theorem dX2_findInSegment_74 : decode cX2_findInSegment 74 = .ok (.iadd, 1) := dl_o96 kcX2_findInSegment (by decide +kernel)
theorem dX2_findInSegment_75 : decode cX2_findInSegment 75 = .ok (.ldc 97, 2) := dl_o18 kcX2_findInSegment (by decide +kernel)
theorem dX2_findInSegment_77 : decode cX2_findInSegment 77 = .ok (.iand, 1) := dl_o126 kcX2_findInSegment (by decide +kernel)
theorem dX2_findInSegment_78 : decode cX2_findInSegment 78 = .ok (.ireturn, 1) := dl_o172 kcX2_findInSegment (by decide +kernel)
theorem dX2_findInSegment_79 : decode cX2_findInSegment 79 = .ok (.iload 6, 2) := dl_o21 kcX2_findInSegment (by decide +kernel)
theorem dX2_findInSegment_81 : decode cX2_findInSegment 81 = .ok (.iload 7, 2) := dl_o21 kcX2_findInSegment (by decide +kernel)
theorem dX2_findInSegment_83 : decode cX2_findInSegment 83 = .ok (.iadd, 1) := dl_o96 kcX2_findInSegment (by decide +kernel)
theorem dX2_findInSegment_84 : decode cX2_findInSegment 84 = .ok (.iconst 2, 1) := dl_o5 kcX2_findInSegment (by decide +kernel)
theorem dX2_findInSegment_85 : decode cX2_findInSegment 85 = .ok (.iload_n 2, 1) := dl_o28 kcX2_findInSegment (by decide +kernel)
theorem dX2_findInSegment_86 : decode cX2_findInSegment 86 = .ok (.iload 4, 2) := dl_o21 kcX2_findInSegment (by decide +kernel)
theorem dX2_findInSegment_88 : decode cX2_findInSegment 88 = .ok (.isub, 1) := dl_o100 kcX2_findInSegment (by decide +kernel)
theorem dX2_findInSegment_89 : decode cX2_findInSegment 89 = .ok (.imul, 1) := dl_o104 kcX2_findInSegment (by decide +kernel)
theorem dX2_findInSegment_90 : decode cX2_findInSegment 90 = .ok (.iadd, 1) := dl_o96 kcX2_findInSegment (by decide +kernel)
theorem dX2_findInSegment_91 : decode cX2_findInSegment 91 = .ok (.istore 8, 2) := dl_o54 kcX2_findInSegment (by decide +kernel)
theorem dX2_findInSegment_93 : decode cX2_findInSegment 93 = .ok (.iload 8, 2) := dl_o21 kcX2_findInSegment (by decide +kernel)
theorem dX2_findInSegment_95 : decode cX2_findInSegment 95 = .ok (.iconst 2, 1) := dl_o5 kcX2_findInSegment (by decide +kernel)
theorem dX2_findInSegment_96 : decode cX2_findInSegment 96 = .ok (.iadd, 1) := dl_o96 kcX2_findInSegment (by decide +kernel)
theorem dX2_findInSegment_97 : decode cX2_findInSegment 97 = .ok (.aload_n 0, 1) := dl_o42 kcX2_findInSegment (by decide +kernel)
theorem dX2_findInSegment_98 : decode cX2_findInSegment 98 = .ok (.getfield 82, 3) := dl_o180 kcX2_findInSegment (by decide +kernel)
theorem dX2_findInSegment_101 : decode cX2_findInSegment 101 = .ok (.aload_n 0, 1) := dl_o42 kcX2_findInSegment (by decide +kernel)
theorem dX2_findInSegment_102 : decode cX2_findInSegment 102 = .ok (.getfield 98, 3) := dl_o180 kcX2_findInSegment (by decide +kernel)
theorem dX2_findInSegment_105 : decode cX2_findInSegment 105 = .ok (.iadd, 1) := dl_o96 kcX2_findInSegment (by decide +kernel)
theorem dX2_findInSegment_106 : decode cX2_findInSegment 106 = .ok (.if_icmp .gt 12, 3) := dl_o163 kcX2_findInSegment 12 (by decide +kernel) (by decide +kernel)
theorem dX2_findInSegment_109 : decode cX2_findInSegment 109 = .ok (.aload_n 0, 1) := dl_o42 kcX2_findInSegment (by decide +kernel)
theorem dX2_findInSegment_110 : decode cX2_findInSegment 110 = .ok (.iload 8, 2) := dl_o21 kcX2_findInSegment (by decide +kernel)
theorem dX2_findInSegment_112 : decode cX2_findInSegment 112 = .ok (.invokevirtual 50, 3) := dl_o182 kcX2_findInSegment (by decide +kernel)
theorem dX2_findInSegment_115 : decode cX2_findInSegment 115 = .ok (.ifCond .ne 5, 3) := dl_o154 kcX2_findInSegment 5 (by decide +kernel) (by decide +kernel)
theorem dX2_findInSegment_118 : decode cX2_findInSegment 118 = .ok (.iconst 0, 1) := dl_o3 kcX2_findInSegment (by decide +kernel)
theorem dX2_findInSegment_119 : decode cX2_findInSegment 119 = .ok (.ireturn, 1) := dl_o172 kcX2_findInSegment (by decide +kernel)
theorem dX2_findInSegment_120 : decode cX2_findInSegment 120 = .ok (.aload_n 0, 1) := dl_o42 kcX2_findInSegment (by decide +kernel)
theorem dX2_findInSegment_121 : decode cX2_findInSegment 121 = .ok (.iload 8, 2) := dl_o21 kcX2_findInSegment (by decide +kernel)
theorem dX2_findInSegment_123 : decode cX2_findInSegment 123 = .ok (.invokevirtual 50, 3) := dl_o182 kcX2_findInSegment (by decide +kernel)
theorem dX2_findInSegment_126 : decode cX2_findInSegment 126 = .ok (.iload 5, 2) := dl_o21 kcX2_findInSegment (by decide +kernel)
theorem dX2_findInSegment_128 : decode cX2_findInSegment 128 = .ok (.iadd, 1) := dl_o96 kcX2_findInSegment (by decide +kernel)
theorem dX2_findInSegment_129 : decode cX2_findInSegment 129 = .ok (.ldc 97, 2) := dl_o18 kcX2_findInSegment (by decide +kernel)
theorem dX2_findInSegment_131 : decode cX2_findInSegment 131 = .ok (.iand, 1) := dl_o126 kcX2_findInSegment (by decide +kernel)
theorem dX2_findInSegment_132 : decode cX2_findInSegment 132 = .ok (.ireturn, 1) := dl_o172 kcX2_findInSegment (by decide +kernel)
def F_X2_findInSegment (l1 : Int32) (l2 : Int32) (V : sv_V) : Option (Int32 × sv_V) := sx_let ((((V.1 2 12) + (16 : Int32)) + ((2 : Int32) * (V.1 2 14))) + ((2 : Int32) * l1)) (fun x1 => (F_X2_u2 x1 V).bind (fun (x4, V2) => (F_X2_u2 (x1 + ((2 : Int32) * (V2.1 2 14))) V2).bind (fun (x7, V5) => sx_let (x1 + ((4 : Int32) * (V5.1 2 14))) (fun x8 => (F_X2_u2 x8 V5).bind (fun (x11, V9) => if x4 ≤ l2 then (if x11 = 0 then (some ((l2 + x7) &&& (65535 : Int32), V9)) else (sx_let ((x8 + x11) + ((2 : Int32) * (l2 - x4))) (fun x14 => if ((V9.1 2 12) + (V9.1 2 13)) < (x14 + (2 : Int32)) then (some ((0 : Int32), V9)) else ((F_X2_u2 x14 V9).bind (fun (x18, V16) => if x18 = 0 then (some ((0 : Int32), V16)) else ((F_X2_u2 x14 V16).bind (fun (x22, V20) => some ((x22 + x7) &&& (65535 : Int32), V20)))))))) else (some ((0 : Int32), V9)))))))
set_option maxRecDepth 20000 in
theorem t_X2_findInSegment {g : sx_G} (hG : sx_Go g) {P : Option Value → sv_V → Prop} {r : Int32} {Vr : sv_V} (hP : P (some (.int r)) Vr) {l1 : Int32} {l2 : Int32} {V : sv_V} (h : F_X2_findInSegment l1 l2 V = some (r, Vr)) : sv_N g qX2_findInSegment 1 0 [(0, .ref 2), (1, .int l1), (2, .int l2)] [] V P := by
  unfold F_X2_findInSegment at h
  refine sx_aload_n (pc := 0) dX2_findInSegment_0 sx_m0 ?_
  refine sv_getI (pc := 1) hG dX2_findInSegment_1 f_2_82 lay_2 rfl ?_
  refine sx_bipush (pc := 4) (v := 16) dX2_findInSegment_4 (by decide) ?_
  refine sx_iadd (pc := 6) dX2_findInSegment_6 ?_
  refine sx_iconst (pc := 7) (v := 2) dX2_findInSegment_7 (by decide) ?_
  refine sx_aload_n (pc := 8) dX2_findInSegment_8 sx_m0 ?_
  refine sv_getI (pc := 9) hG dX2_findInSegment_9 f_2_88 lay_2 rfl ?_
  refine sx_imul (pc := 12) dX2_findInSegment_12 ?_
  refine sx_iadd (pc := 13) dX2_findInSegment_13 ?_
  refine sx_iconst (pc := 14) (v := 2) dX2_findInSegment_14 (by decide) ?_
  refine sx_iload_n (pc := 15) dX2_findInSegment_15 sx_m1 ?_
  refine sx_imul (pc := 16) dX2_findInSegment_16 ?_
  refine sx_iadd (pc := 17) dX2_findInSegment_17 ?_
  refine sv_tI (fun x1 hx1 => ?_)
  have h := sx_letE hx1 h
  refine sx_istore_n (pc := 18) (lo' := [(3, .int x1), (0, .ref 2), (1, .int l1), (2, .int l2)]) dX2_findInSegment_18 (by decide) rfl ?_
  refine sx_aload_n (pc := 19) dX2_findInSegment_19 sx_m1 ?_
  refine sx_iload_n (pc := 20) dX2_findInSegment_20 sx_m0 ?_
  obtain ⟨⟨x4, V2⟩, g3, h⟩ := sx_bnd h
  refine sv_cV (pc := 21) (y := qX2_u2) (o := (some (.int x4))) (as := [.int x1]) (V1 := V2) hG dX2_findInSegment_21 l_X2_50 y0X2_u2 yvX2_u2 rfl (Nat.le_of_ble_eq_true rfl) lay_2 kr_2 (by decide) (Nat.le_of_ble_eq_true rfl) rfl rfl rfl (t_X2_u2 hG ⟨rfl, rfl⟩ g3) ?_
  refine sx_istore (pc := 24) (lo' := [(4, .int x4), (3, .int x1), (0, .ref 2), (1, .int l1), (2, .int l2)]) dX2_findInSegment_24 (by decide) rfl ?_
  refine sx_aload_n (pc := 26) dX2_findInSegment_26 sx_m2 ?_
  refine sx_iload_n (pc := 27) dX2_findInSegment_27 sx_m1 ?_
  refine sx_iconst (pc := 28) (v := 2) dX2_findInSegment_28 (by decide) ?_
  refine sx_aload_n (pc := 29) dX2_findInSegment_29 sx_m2 ?_
  refine sv_getI (pc := 30) hG dX2_findInSegment_30 f_2_88 lay_2 rfl ?_
  refine sx_imul (pc := 33) dX2_findInSegment_33 ?_
  refine sx_iadd (pc := 34) dX2_findInSegment_34 ?_
  obtain ⟨⟨x7, V5⟩, g6, h⟩ := sx_bnd h
  refine sv_cV (pc := 35) (y := qX2_u2) (o := (some (.int x7))) (as := [.int (x1 + ((2 : Int32) * (V2.1 2 14)))]) (V1 := V5) hG dX2_findInSegment_35 l_X2_50 y0X2_u2 yvX2_u2 rfl (Nat.le_of_ble_eq_true rfl) lay_2 kr_2 (by decide) (Nat.le_of_ble_eq_true rfl) rfl rfl rfl (t_X2_u2 hG ⟨rfl, rfl⟩ g6) ?_
  refine sx_istore (pc := 38) (lo' := [(5, .int x7), (4, .int x4), (3, .int x1), (0, .ref 2), (1, .int l1), (2, .int l2)]) dX2_findInSegment_38 (by decide) rfl ?_
  refine sx_iload_n (pc := 40) dX2_findInSegment_40 sx_m2 ?_
  refine sx_iconst (pc := 41) (v := 4) dX2_findInSegment_41 (by decide) ?_
  refine sx_aload_n (pc := 42) dX2_findInSegment_42 sx_m3 ?_
  refine sv_getI (pc := 43) hG dX2_findInSegment_43 f_2_88 lay_2 rfl ?_
  refine sx_imul (pc := 46) dX2_findInSegment_46 ?_
  refine sx_iadd (pc := 47) dX2_findInSegment_47 ?_
  refine sv_tI (fun x8 hx8 => ?_)
  have h := sx_letE hx8 h
  refine sx_istore (pc := 48) (lo' := [(6, .int x8), (5, .int x7), (4, .int x4), (3, .int x1), (0, .ref 2), (1, .int l1), (2, .int l2)]) dX2_findInSegment_48 (by decide) rfl ?_
  refine sx_aload_n (pc := 50) dX2_findInSegment_50 sx_m4 ?_
  refine sx_iload (pc := 51) dX2_findInSegment_51 sx_m0 ?_
  obtain ⟨⟨x11, V9⟩, g10, h⟩ := sx_bnd h
  refine sv_cV (pc := 53) (y := qX2_u2) (o := (some (.int x11))) (as := [.int x8]) (V1 := V9) hG dX2_findInSegment_53 l_X2_50 y0X2_u2 yvX2_u2 rfl (Nat.le_of_ble_eq_true rfl) lay_2 kr_2 (by decide) (Nat.le_of_ble_eq_true rfl) rfl rfl rfl (t_X2_u2 hG ⟨rfl, rfl⟩ g10) ?_
  refine sx_istore (pc := 56) (lo' := [(7, .int x11), (6, .int x8), (5, .int x7), (4, .int x4), (3, .int x1), (0, .ref 2), (1, .int l1), (2, .int l2)]) dX2_findInSegment_56 (by decide) rfl ?_
  refine sx_iload (pc := 58) dX2_findInSegment_58 sx_m3 ?_
  refine sx_iload_n (pc := 60) dX2_findInSegment_60 sx_m7 ?_
  refine sx_icmp_le (pc := 61) (tgt := 66) dX2_findInSegment_61 (by decide) (fun c12 => ?_) (fun c12 => ?_)
  · have h := sx_pos c12 h
    refine sx_iload (pc := 66) dX2_findInSegment_66 sx_m0 ?_
    refine sx_if_ne (pc := 68) (tgt := 79) dX2_findInSegment_68 (by decide) (fun c13 => ?_) (fun c13 => ?_)
    · have h := sx_neg c13 h
      refine sx_iload (pc := 79) dX2_findInSegment_79 sx_m1 ?_
      refine sx_iload (pc := 81) dX2_findInSegment_81 sx_m0 ?_
      refine sx_iadd (pc := 83) dX2_findInSegment_83 ?_
      refine sx_iconst (pc := 84) (v := 2) dX2_findInSegment_84 (by decide) ?_
      refine sx_iload_n (pc := 85) dX2_findInSegment_85 sx_m7 ?_
      refine sx_iload (pc := 86) dX2_findInSegment_86 sx_m3 ?_
      refine sx_isub (pc := 88) dX2_findInSegment_88 ?_
      refine sx_imul (pc := 89) dX2_findInSegment_89 ?_
      refine sx_iadd (pc := 90) dX2_findInSegment_90 ?_
      refine sv_tI (fun x14 hx14 => ?_)
      have h := sx_letE hx14 h
      refine sx_istore (pc := 91) (lo' := [(8, .int x14), (7, .int x11), (6, .int x8), (5, .int x7), (4, .int x4), (3, .int x1), (0, .ref 2), (1, .int l1), (2, .int l2)]) dX2_findInSegment_91 (by decide) rfl ?_
      refine sx_iload (pc := 93) dX2_findInSegment_93 sx_m0 ?_
      refine sx_iconst (pc := 95) (v := 2) dX2_findInSegment_95 (by decide) ?_
      refine sx_iadd (pc := 96) dX2_findInSegment_96 ?_
      refine sx_aload_n (pc := 97) dX2_findInSegment_97 sx_m6 ?_
      refine sv_getI (pc := 98) hG dX2_findInSegment_98 f_2_82 lay_2 rfl ?_
      refine sx_aload_n (pc := 101) dX2_findInSegment_101 sx_m6 ?_
      refine sv_getI (pc := 102) hG dX2_findInSegment_102 f_2_98 lay_2 rfl ?_
      refine sx_iadd (pc := 105) dX2_findInSegment_105 ?_
      refine sx_icmp_gt (pc := 106) (tgt := 118) dX2_findInSegment_106 (by decide) (fun c15 => ?_) (fun c15 => ?_)
      · have h := sx_pos c15 h
        refine sx_iconst (pc := 118) (v := 0) dX2_findInSegment_118 (by decide) ?_
        exact sv_iret (pc := 119) dX2_findInSegment_119 rfl h hP
      · have h := sx_neg c15 h
        refine sx_aload_n (pc := 109) dX2_findInSegment_109 sx_m6 ?_
        refine sx_iload (pc := 110) dX2_findInSegment_110 sx_m0 ?_
        obtain ⟨⟨x18, V16⟩, g17, h⟩ := sx_bnd h
        refine sv_cV (pc := 112) (y := qX2_u2) (o := (some (.int x18))) (as := [.int x14]) (V1 := V16) hG dX2_findInSegment_112 l_X2_50 y0X2_u2 yvX2_u2 rfl (Nat.le_of_ble_eq_true rfl) lay_2 kr_2 (by decide) (Nat.le_of_ble_eq_true rfl) rfl rfl rfl (t_X2_u2 hG ⟨rfl, rfl⟩ g17) ?_
        refine sx_if_ne (pc := 115) (tgt := 120) dX2_findInSegment_115 (by decide) (fun c19 => ?_) (fun c19 => ?_)
        · have h := sx_neg c19 h
          refine sx_aload_n (pc := 120) dX2_findInSegment_120 sx_m6 ?_
          refine sx_iload (pc := 121) dX2_findInSegment_121 sx_m0 ?_
          obtain ⟨⟨x22, V20⟩, g21, h⟩ := sx_bnd h
          refine sv_cV (pc := 123) (y := qX2_u2) (o := (some (.int x22))) (as := [.int x14]) (V1 := V20) hG dX2_findInSegment_123 l_X2_50 y0X2_u2 yvX2_u2 rfl (Nat.le_of_ble_eq_true rfl) lay_2 kr_2 (by decide) (Nat.le_of_ble_eq_true rfl) rfl rfl rfl (t_X2_u2 hG ⟨rfl, rfl⟩ g21) ?_
          refine sx_iload (pc := 126) dX2_findInSegment_126 sx_m3 ?_
          refine sx_iadd (pc := 128) dX2_findInSegment_128 ?_
          refine sx_ldc (pc := 129) dX2_findInSegment_129 k_X2_97 ?_
          refine sx_iand (pc := 131) dX2_findInSegment_131 ?_
          exact sv_iret (pc := 132) dX2_findInSegment_132 rfl h hP
        · have h := sx_pos c19 h
          refine sx_iconst (pc := 118) (v := 0) dX2_findInSegment_118 (by decide) ?_
          exact sv_iret (pc := 119) dX2_findInSegment_119 rfl h hP
    · have h := sx_pos c13 h
      refine sx_iload_n (pc := 71) dX2_findInSegment_71 sx_m7 ?_
      refine sx_iload (pc := 72) dX2_findInSegment_72 sx_m2 ?_
      refine sx_iadd (pc := 74) dX2_findInSegment_74 ?_
      refine sx_ldc (pc := 75) dX2_findInSegment_75 k_X2_97 ?_
      refine sx_iand (pc := 77) dX2_findInSegment_77 ?_
      exact sv_iret (pc := 78) dX2_findInSegment_78 rfl h hP
  · have h := sx_neg c12 h
    refine sx_iconst (pc := 64) (v := 0) dX2_findInSegment_64 (by decide) ?_
    exact sv_iret (pc := 65) dX2_findInSegment_65 rfl h hP
def ncX3_goTo : Nat := 457754253319188550995508652154591551791128356419330004103111737109633317937590099389222433782590430359709046503520435710506
theorem kcX3_goTo : CK cX3_goTo ncX3_goTo 51 := ⟨by decide +kernel, by decide +kernel⟩
theorem dX3_goTo_0 : decode cX3_goTo 0 = .ok (.aload_n 0, 1) := dl_o42 kcX3_goTo (by decide +kernel)
theorem dX3_goTo_1 : decode cX3_goTo 1 = .ok (.aload_n 0, 1) := dl_o42 kcX3_goTo (by decide +kernel)
theorem dX3_goTo_2 : decode cX3_goTo 2 = .ok (.getfield 27, 3) := dl_o180 kcX3_goTo (by decide +kernel)
theorem dX3_goTo_5 : decode cX3_goTo 5 = .ok (.getfield 45, 3) := dl_o180 kcX3_goTo (by decide +kernel)
theorem dX3_goTo_8 : decode cX3_goTo 8 = .ok (.iconst 0, 1) := dl_o3 kcX3_goTo (by decide +kernel)
theorem dX3_goTo_9 : decode cX3_goTo 9 = .ok (.aaload, 1) := dl_o50 kcX3_goTo (by decide +kernel)
theorem dX3_goTo_10 : decode cX3_goTo 10 = .ok (.iload_n 1, 1) := dl_o27 kcX3_goTo (by decide +kernel)
theorem dX3_goTo_11 : decode cX3_goTo 11 = .ok (.iaload, 1) := dl_o46 kcX3_goTo (by decide +kernel)
theorem dX3_goTo_12 : decode cX3_goTo 12 = .ok (.bipush 10, 2) := dl_o16 kcX3_goTo 10 (by decide +kernel) (by decide +kernel)
theorem dX3_goTo_14 : decode cX3_goTo 14 = .ok (.iadd, 1) := dl_o96 kcX3_goTo (by decide +kernel)
theorem dX3_goTo_15 : decode cX3_goTo 15 = .ok (.putfield 63, 3) := dl_o181 kcX3_goTo (by decide +kernel)
theorem dX3_goTo_18 : decode cX3_goTo 18 = .ok (.aload_n 0, 1) := dl_o42 kcX3_goTo (by decide +kernel)
theorem dX3_goTo_19 : decode cX3_goTo 19 = .ok (.aload_n 0, 1) := dl_o42 kcX3_goTo (by decide +kernel)
theorem dX3_goTo_20 : decode cX3_goTo 20 = .ok (.getfield 27, 3) := dl_o180 kcX3_goTo (by decide +kernel)
theorem dX3_goTo_23 : decode cX3_goTo 23 = .ok (.getfield 45, 3) := dl_o180 kcX3_goTo (by decide +kernel)
theorem dX3_goTo_26 : decode cX3_goTo 26 = .ok (.iconst 0, 1) := dl_o3 kcX3_goTo (by decide +kernel)
theorem dX3_goTo_27 : decode cX3_goTo 27 = .ok (.aaload, 1) := dl_o50 kcX3_goTo (by decide +kernel)
theorem dX3_goTo_28 : decode cX3_goTo 28 = .ok (.iload_n 1, 1) := dl_o27 kcX3_goTo (by decide +kernel)
theorem dX3_goTo_29 : decode cX3_goTo 29 = .ok (.iaload, 1) := dl_o46 kcX3_goTo (by decide +kernel)
theorem dX3_goTo_30 : decode cX3_goTo 30 = .ok (.aload_n 0, 1) := dl_o42 kcX3_goTo (by decide +kernel)
theorem dX3_goTo_31 : decode cX3_goTo 31 = .ok (.getfield 27, 3) := dl_o180 kcX3_goTo (by decide +kernel)
theorem dX3_goTo_34 : decode cX3_goTo 34 = .ok (.getfield 45, 3) := dl_o180 kcX3_goTo (by decide +kernel)
theorem dX3_goTo_37 : decode cX3_goTo 37 = .ok (.iconst 1, 1) := dl_o4 kcX3_goTo (by decide +kernel)
theorem dX3_goTo_38 : decode cX3_goTo 38 = .ok (.aaload, 1) := dl_o50 kcX3_goTo (by decide +kernel)
theorem dX3_goTo_39 : decode cX3_goTo 39 = .ok (.iload_n 1, 1) := dl_o27 kcX3_goTo (by decide +kernel)
theorem dX3_goTo_40 : decode cX3_goTo 40 = .ok (.iaload, 1) := dl_o46 kcX3_goTo (by decide +kernel)
theorem dX3_goTo_41 : decode cX3_goTo 41 = .ok (.iadd, 1) := dl_o96 kcX3_goTo (by decide +kernel)
theorem dX3_goTo_42 : decode cX3_goTo 42 = .ok (.putfield 66, 3) := dl_o181 kcX3_goTo (by decide +kernel)
theorem dX3_goTo_45 : decode cX3_goTo 45 = .ok (.aload_n 0, 1) := dl_o42 kcX3_goTo (by decide +kernel)
theorem dX3_goTo_46 : decode cX3_goTo 46 = .ok (.iconst 0, 1) := dl_o3 kcX3_goTo (by decide +kernel)
theorem dX3_goTo_47 : decode cX3_goTo 47 = .ok (.putfield 69, 3) := dl_o181 kcX3_goTo (by decide +kernel)
theorem dX3_goTo_50 : decode cX3_goTo 50 = .ok (.return_, 1) := dl_o177 kcX3_goTo (by decide +kernel)
def F_X3_goTo (l1 : Int32) (V : sv_V) : Option sv_V := (cr 7 (0 : Int32).toNatClampNeg).bind (fun b1 => (sv_len 0 b1).bind (fun n3 => if sx_in l1 n3 = true then sx_let (sv_I V 16 4 ((V.1 b1 l1.toNatClampNeg) + (10 : Int32))) (fun V6 => (cr 7 (0 : Int32).toNatClampNeg).bind (fun b7 => (sv_len 0 b7).bind (fun n9 => if sx_in l1 n9 = true then (cr 7 (1 : Int32).toNatClampNeg).bind (fun b12 => (sv_len 0 b12).bind (fun n14 => if sx_in l1 n14 = true then sx_let (sv_I V6 16 5 ((V6.1 b7 l1.toNatClampNeg) + (V6.1 b12 l1.toNatClampNeg))) (fun V17 => sx_let (sv_I V17 16 6 (0 : Int32)) (fun V18 => some V18)) else none)) else none))) else none))
set_option maxRecDepth 20000 in
theorem t_X3_goTo {g : sx_G} (hG : sx_Go g) {P : Option Value → sv_V → Prop} {Vr : sv_V} (hP : P none Vr) {l1 : Int32} {V : sv_V} (h : F_X3_goTo l1 V = some Vr) : sv_N g qX3_goTo 0 0 [(0, .ref 16), (1, .int l1)] [] V P := by
  unfold F_X3_goTo at h
  refine sx_aload_n (pc := 0) dX3_goTo_0 sx_m0 ?_
  refine sx_aload_n (pc := 1) dX3_goTo_1 sx_m0 ?_
  refine sv_getO (pc := 2) hG dX3_goTo_2 f_3_27 lay_16 rfl cr_16_0 ?_
  refine sv_getA (pc := 5) hG dX3_goTo_5 f_3_45 lay_2 rfl cr_2_16 ?_
  refine sx_iconst (pc := 8) (v := 0) dX3_goTo_8 (by decide) ?_
  obtain ⟨b1, g2, h⟩ := sx_bnd h
  refine sv_aald (pc := 9) hG dX3_goTo_9 (by decide) lay_7 (by decide) g2 ?_
  refine sx_iload_n (pc := 10) dX3_goTo_10 sx_m1 ?_
  obtain ⟨n3, g4, h⟩ := sx_bnd h
  obtain ⟨g5, h⟩ := sx_grd h
  refine sv_iald (pc := 11) hG dX3_goTo_11 (sv_len_e g4) g5 ?_
  refine sx_bipush (pc := 12) (v := 10) dX3_goTo_12 (by decide) ?_
  refine sx_iadd (pc := 14) dX3_goTo_14 ?_
  obtain ⟨V6, hV6⟩ : ∃ z : sv_V, z = sv_I V 16 4 ((V.1 b1 l1.toNatClampNeg) + (10 : Int32)) := ⟨_, rfl⟩
  have h := sx_letE hV6 h
  refine sv_putI (pc := 15) hG dX3_goTo_15 f_3_63 lay_16 rfl hV6 ?_
  refine sx_aload_n (pc := 18) dX3_goTo_18 sx_m0 ?_
  refine sx_aload_n (pc := 19) dX3_goTo_19 sx_m0 ?_
  refine sv_getO (pc := 20) hG dX3_goTo_20 f_3_27 lay_16 rfl cr_16_0 ?_
  refine sv_getA (pc := 23) hG dX3_goTo_23 f_3_45 lay_2 rfl cr_2_16 ?_
  refine sx_iconst (pc := 26) (v := 0) dX3_goTo_26 (by decide) ?_
  obtain ⟨b7, g8, h⟩ := sx_bnd h
  refine sv_aald (pc := 27) hG dX3_goTo_27 (by decide) lay_7 (by decide) g8 ?_
  refine sx_iload_n (pc := 28) dX3_goTo_28 sx_m1 ?_
  obtain ⟨n9, g10, h⟩ := sx_bnd h
  obtain ⟨g11, h⟩ := sx_grd h
  refine sv_iald (pc := 29) hG dX3_goTo_29 (sv_len_e g10) g11 ?_
  refine sx_aload_n (pc := 30) dX3_goTo_30 sx_m0 ?_
  refine sv_getO (pc := 31) hG dX3_goTo_31 f_3_27 lay_16 rfl cr_16_0 ?_
  refine sv_getA (pc := 34) hG dX3_goTo_34 f_3_45 lay_2 rfl cr_2_16 ?_
  refine sx_iconst (pc := 37) (v := 1) dX3_goTo_37 (by decide) ?_
  obtain ⟨b12, g13, h⟩ := sx_bnd h
  refine sv_aald (pc := 38) hG dX3_goTo_38 (by decide) lay_7 (by decide) g13 ?_
  refine sx_iload_n (pc := 39) dX3_goTo_39 sx_m1 ?_
  obtain ⟨n14, g15, h⟩ := sx_bnd h
  obtain ⟨g16, h⟩ := sx_grd h
  refine sv_iald (pc := 40) hG dX3_goTo_40 (sv_len_e g15) g16 ?_
  refine sx_iadd (pc := 41) dX3_goTo_41 ?_
  obtain ⟨V17, hV17⟩ : ∃ z : sv_V, z = sv_I V6 16 5 ((V6.1 b7 l1.toNatClampNeg) + (V6.1 b12 l1.toNatClampNeg)) := ⟨_, rfl⟩
  have h := sx_letE hV17 h
  refine sv_putI (pc := 42) hG dX3_goTo_42 f_3_66 lay_16 rfl hV17 ?_
  refine sx_aload_n (pc := 45) dX3_goTo_45 sx_m0 ?_
  refine sx_iconst (pc := 46) (v := 0) dX3_goTo_46 (by decide) ?_
  obtain ⟨V18, hV18⟩ : ∃ z : sv_V, z = sv_I V17 16 6 (0 : Int32) := ⟨_, rfl⟩
  have h := sx_letE hV18 h
  refine sv_putZ (pc := 47) hG dX3_goTo_47 f_3_69 lay_16 rfl rfl hV18 ?_
  exact sv_vret (pc := 50) dX3_goTo_50 rfl h hP
def ncX3_takeU1 : Nat := 94207714163874088808572877924493689759072746044358817240915619168905439044947700772906207438869649706
theorem kcX3_takeU1 : CK cX3_takeU1 ncX3_takeU1 42 := ⟨by decide +kernel, by decide +kernel⟩
theorem dX3_takeU1_0 : decode cX3_takeU1 0 = .ok (.aload_n 0, 1) := dl_o42 kcX3_takeU1 (by decide +kernel)
theorem dX3_takeU1_1 : decode cX3_takeU1 1 = .ok (.dup, 1) := dl_o89 kcX3_takeU1 (by decide +kernel)
theorem dX3_takeU1_2 : decode cX3_takeU1 2 = .ok (.getfield 63, 3) := dl_o180 kcX3_takeU1 (by decide +kernel)
theorem dX3_takeU1_5 : decode cX3_takeU1 5 = .ok (.iconst 1, 1) := dl_o4 kcX3_takeU1 (by decide +kernel)
theorem dX3_takeU1_6 : decode cX3_takeU1 6 = .ok (.iadd, 1) := dl_o96 kcX3_takeU1 (by decide +kernel)
theorem dX3_takeU1_7 : decode cX3_takeU1 7 = .ok (.putfield 63, 3) := dl_o181 kcX3_takeU1 (by decide +kernel)
theorem dX3_takeU1_10 : decode cX3_takeU1 10 = .ok (.aload_n 0, 1) := dl_o42 kcX3_takeU1 (by decide +kernel)
theorem dX3_takeU1_11 : decode cX3_takeU1 11 = .ok (.getfield 63, 3) := dl_o180 kcX3_takeU1 (by decide +kernel)
theorem dX3_takeU1_14 : decode cX3_takeU1 14 = .ok (.aload_n 0, 1) := dl_o42 kcX3_takeU1 (by decide +kernel)
theorem dX3_takeU1_15 : decode cX3_takeU1 15 = .ok (.getfield 66, 3) := dl_o180 kcX3_takeU1 (by decide +kernel)
theorem dX3_takeU1_18 : decode cX3_takeU1 18 = .ok (.if_icmp .le 10, 3) := dl_o164 kcX3_takeU1 10 (by decide +kernel) (by decide +kernel)
theorem dX3_takeU1_21 : decode cX3_takeU1 21 = .ok (.aload_n 0, 1) := dl_o42 kcX3_takeU1 (by decide +kernel)
theorem dX3_takeU1_22 : decode cX3_takeU1 22 = .ok (.iconst 1, 1) := dl_o4 kcX3_takeU1 (by decide +kernel)
theorem dX3_takeU1_23 : decode cX3_takeU1 23 = .ok (.putfield 69, 3) := dl_o181 kcX3_takeU1 (by decide +kernel)
theorem dX3_takeU1_26 : decode cX3_takeU1 26 = .ok (.iconst 0, 1) := dl_o3 kcX3_takeU1 (by decide +kernel)
theorem dX3_takeU1_27 : decode cX3_takeU1 27 = .ok (.ireturn, 1) := dl_o172 kcX3_takeU1 (by decide +kernel)
theorem dX3_takeU1_28 : decode cX3_takeU1 28 = .ok (.aload_n 0, 1) := dl_o42 kcX3_takeU1 (by decide +kernel)
theorem dX3_takeU1_29 : decode cX3_takeU1 29 = .ok (.getfield 27, 3) := dl_o180 kcX3_takeU1 (by decide +kernel)
theorem dX3_takeU1_32 : decode cX3_takeU1 32 = .ok (.aload_n 0, 1) := dl_o42 kcX3_takeU1 (by decide +kernel)
theorem dX3_takeU1_33 : decode cX3_takeU1 33 = .ok (.getfield 63, 3) := dl_o180 kcX3_takeU1 (by decide +kernel)
theorem dX3_takeU1_36 : decode cX3_takeU1 36 = .ok (.iconst 1, 1) := dl_o4 kcX3_takeU1 (by decide +kernel)
theorem dX3_takeU1_37 : decode cX3_takeU1 37 = .ok (.isub, 1) := dl_o100 kcX3_takeU1 (by decide +kernel)
theorem dX3_takeU1_38 : decode cX3_takeU1 38 = .ok (.invokevirtual 73, 3) := dl_o182 kcX3_takeU1 (by decide +kernel)
theorem dX3_takeU1_41 : decode cX3_takeU1 41 = .ok (.ireturn, 1) := dl_o172 kcX3_takeU1 (by decide +kernel)
def F_X3_takeU1  (V : sv_V) : Option (Int32 × sv_V) := sx_let (sv_I V 16 4 ((V.1 16 4) + (1 : Int32))) (fun V1 => if (V1.1 16 4) ≤ (V1.1 16 5) then ((F_X2_u1 ((V1.1 16 4) - (1 : Int32)) V1).bind (fun (x5, V3) => some (x5, V3))) else (sx_let (sv_I V1 16 6 (1 : Int32)) (fun V6 => some ((0 : Int32), V6))))
set_option maxRecDepth 20000 in
theorem t_X3_takeU1 {g : sx_G} (hG : sx_Go g) {P : Option Value → sv_V → Prop} {r : Int32} {Vr : sv_V} (hP : P (some (.int r)) Vr)  {V : sv_V} (h : F_X3_takeU1  V = some (r, Vr)) : sv_N g qX3_takeU1 1 0 [(0, .ref 16)] [] V P := by
  unfold F_X3_takeU1 at h
  refine sx_aload_n (pc := 0) dX3_takeU1_0 sx_m0 ?_
  refine sx_dup (pc := 1) dX3_takeU1_1 rfl ?_
  refine sv_getI (pc := 2) hG dX3_takeU1_2 f_3_63 lay_16 rfl ?_
  refine sx_iconst (pc := 5) (v := 1) dX3_takeU1_5 (by decide) ?_
  refine sx_iadd (pc := 6) dX3_takeU1_6 ?_
  obtain ⟨V1, hV1⟩ : ∃ z : sv_V, z = sv_I V 16 4 ((V.1 16 4) + (1 : Int32)) := ⟨_, rfl⟩
  have h := sx_letE hV1 h
  refine sv_putI (pc := 7) hG dX3_takeU1_7 f_3_63 lay_16 rfl hV1 ?_
  refine sx_aload_n (pc := 10) dX3_takeU1_10 sx_m0 ?_
  refine sv_getI (pc := 11) hG dX3_takeU1_11 f_3_63 lay_16 rfl ?_
  refine sx_aload_n (pc := 14) dX3_takeU1_14 sx_m0 ?_
  refine sv_getI (pc := 15) hG dX3_takeU1_15 f_3_66 lay_16 rfl ?_
  refine sx_icmp_le (pc := 18) (tgt := 28) dX3_takeU1_18 (by decide) (fun c2 => ?_) (fun c2 => ?_)
  · have h := sx_pos c2 h
    refine sx_aload_n (pc := 28) dX3_takeU1_28 sx_m0 ?_
    refine sv_getO (pc := 29) hG dX3_takeU1_29 f_3_27 lay_16 rfl cr_16_0 ?_
    refine sx_aload_n (pc := 32) dX3_takeU1_32 sx_m0 ?_
    refine sv_getI (pc := 33) hG dX3_takeU1_33 f_3_63 lay_16 rfl ?_
    refine sx_iconst (pc := 36) (v := 1) dX3_takeU1_36 (by decide) ?_
    refine sx_isub (pc := 37) dX3_takeU1_37 ?_
    obtain ⟨⟨x5, V3⟩, g4, h⟩ := sx_bnd h
    refine sv_cV (pc := 38) (y := qX2_u1) (o := (some (.int x5))) (as := [.int ((V1.1 16 4) - (1 : Int32))]) (V1 := V3) hG dX3_takeU1_38 l_X3_73 y0X2_u1 yvX2_u1 rfl (Nat.le_of_ble_eq_true rfl) lay_2 kr_2 (by decide) (Nat.le_of_ble_eq_true rfl) rfl rfl rfl (t_X2_u1 hG ⟨rfl, rfl⟩ g4) ?_
    exact sv_iret (pc := 41) dX3_takeU1_41 rfl h hP
  · have h := sx_neg c2 h
    refine sx_aload_n (pc := 21) dX3_takeU1_21 sx_m0 ?_
    refine sx_iconst (pc := 22) (v := 1) dX3_takeU1_22 (by decide) ?_
    obtain ⟨V6, hV6⟩ : ∃ z : sv_V, z = sv_I V1 16 6 (1 : Int32) := ⟨_, rfl⟩
    have h := sx_letE hV6 h
    refine sv_putZ (pc := 23) hG dX3_takeU1_23 f_3_69 lay_16 rfl rfl hV6 ?_
    refine sx_iconst (pc := 26) (v := 0) dX3_takeU1_26 (by decide) ?_
    exact sv_iret (pc := 27) dX3_takeU1_27 rfl h hP
def ncX3_takeU2 : Nat := 94214122124982348862056472776254353797664700978765987655376257641446346168101935854053289958017620266
theorem kcX3_takeU2 : CK cX3_takeU2 ncX3_takeU2 42 := ⟨by decide +kernel, by decide +kernel⟩
theorem dX3_takeU2_0 : decode cX3_takeU2 0 = .ok (.aload_n 0, 1) := dl_o42 kcX3_takeU2 (by decide +kernel)
theorem dX3_takeU2_1 : decode cX3_takeU2 1 = .ok (.dup, 1) := dl_o89 kcX3_takeU2 (by decide +kernel)
theorem dX3_takeU2_2 : decode cX3_takeU2 2 = .ok (.getfield 63, 3) := dl_o180 kcX3_takeU2 (by decide +kernel)
theorem dX3_takeU2_5 : decode cX3_takeU2 5 = .ok (.iconst 2, 1) := dl_o5 kcX3_takeU2 (by decide +kernel)
theorem dX3_takeU2_6 : decode cX3_takeU2 6 = .ok (.iadd, 1) := dl_o96 kcX3_takeU2 (by decide +kernel)
theorem dX3_takeU2_7 : decode cX3_takeU2 7 = .ok (.putfield 63, 3) := dl_o181 kcX3_takeU2 (by decide +kernel)
theorem dX3_takeU2_10 : decode cX3_takeU2 10 = .ok (.aload_n 0, 1) := dl_o42 kcX3_takeU2 (by decide +kernel)
theorem dX3_takeU2_11 : decode cX3_takeU2 11 = .ok (.getfield 63, 3) := dl_o180 kcX3_takeU2 (by decide +kernel)
theorem dX3_takeU2_14 : decode cX3_takeU2 14 = .ok (.aload_n 0, 1) := dl_o42 kcX3_takeU2 (by decide +kernel)
theorem dX3_takeU2_15 : decode cX3_takeU2 15 = .ok (.getfield 66, 3) := dl_o180 kcX3_takeU2 (by decide +kernel)
theorem dX3_takeU2_18 : decode cX3_takeU2 18 = .ok (.if_icmp .le 10, 3) := dl_o164 kcX3_takeU2 10 (by decide +kernel) (by decide +kernel)
theorem dX3_takeU2_21 : decode cX3_takeU2 21 = .ok (.aload_n 0, 1) := dl_o42 kcX3_takeU2 (by decide +kernel)
theorem dX3_takeU2_22 : decode cX3_takeU2 22 = .ok (.iconst 1, 1) := dl_o4 kcX3_takeU2 (by decide +kernel)
theorem dX3_takeU2_23 : decode cX3_takeU2 23 = .ok (.putfield 69, 3) := dl_o181 kcX3_takeU2 (by decide +kernel)
theorem dX3_takeU2_26 : decode cX3_takeU2 26 = .ok (.iconst 0, 1) := dl_o3 kcX3_takeU2 (by decide +kernel)
theorem dX3_takeU2_27 : decode cX3_takeU2 27 = .ok (.ireturn, 1) := dl_o172 kcX3_takeU2 (by decide +kernel)
theorem dX3_takeU2_28 : decode cX3_takeU2 28 = .ok (.aload_n 0, 1) := dl_o42 kcX3_takeU2 (by decide +kernel)
theorem dX3_takeU2_29 : decode cX3_takeU2 29 = .ok (.getfield 27, 3) := dl_o180 kcX3_takeU2 (by decide +kernel)
theorem dX3_takeU2_32 : decode cX3_takeU2 32 = .ok (.aload_n 0, 1) := dl_o42 kcX3_takeU2 (by decide +kernel)
theorem dX3_takeU2_33 : decode cX3_takeU2 33 = .ok (.getfield 63, 3) := dl_o180 kcX3_takeU2 (by decide +kernel)
theorem dX3_takeU2_36 : decode cX3_takeU2 36 = .ok (.iconst 2, 1) := dl_o5 kcX3_takeU2 (by decide +kernel)
theorem dX3_takeU2_37 : decode cX3_takeU2 37 = .ok (.isub, 1) := dl_o100 kcX3_takeU2 (by decide +kernel)
theorem dX3_takeU2_38 : decode cX3_takeU2 38 = .ok (.invokevirtual 76, 3) := dl_o182 kcX3_takeU2 (by decide +kernel)
theorem dX3_takeU2_41 : decode cX3_takeU2 41 = .ok (.ireturn, 1) := dl_o172 kcX3_takeU2 (by decide +kernel)
def F_X3_takeU2  (V : sv_V) : Option (Int32 × sv_V) := sx_let (sv_I V 16 4 ((V.1 16 4) + (2 : Int32))) (fun V1 => if (V1.1 16 4) ≤ (V1.1 16 5) then ((F_X2_u2 ((V1.1 16 4) - (2 : Int32)) V1).bind (fun (x5, V3) => some (x5, V3))) else (sx_let (sv_I V1 16 6 (1 : Int32)) (fun V6 => some ((0 : Int32), V6))))
set_option maxRecDepth 20000 in
theorem t_X3_takeU2 {g : sx_G} (hG : sx_Go g) {P : Option Value → sv_V → Prop} {r : Int32} {Vr : sv_V} (hP : P (some (.int r)) Vr)  {V : sv_V} (h : F_X3_takeU2  V = some (r, Vr)) : sv_N g qX3_takeU2 1 0 [(0, .ref 16)] [] V P := by
  unfold F_X3_takeU2 at h
  refine sx_aload_n (pc := 0) dX3_takeU2_0 sx_m0 ?_
  refine sx_dup (pc := 1) dX3_takeU2_1 rfl ?_
  refine sv_getI (pc := 2) hG dX3_takeU2_2 f_3_63 lay_16 rfl ?_
  refine sx_iconst (pc := 5) (v := 2) dX3_takeU2_5 (by decide) ?_
  refine sx_iadd (pc := 6) dX3_takeU2_6 ?_
  obtain ⟨V1, hV1⟩ : ∃ z : sv_V, z = sv_I V 16 4 ((V.1 16 4) + (2 : Int32)) := ⟨_, rfl⟩
  have h := sx_letE hV1 h
  refine sv_putI (pc := 7) hG dX3_takeU2_7 f_3_63 lay_16 rfl hV1 ?_
  refine sx_aload_n (pc := 10) dX3_takeU2_10 sx_m0 ?_
  refine sv_getI (pc := 11) hG dX3_takeU2_11 f_3_63 lay_16 rfl ?_
  refine sx_aload_n (pc := 14) dX3_takeU2_14 sx_m0 ?_
  refine sv_getI (pc := 15) hG dX3_takeU2_15 f_3_66 lay_16 rfl ?_
  refine sx_icmp_le (pc := 18) (tgt := 28) dX3_takeU2_18 (by decide) (fun c2 => ?_) (fun c2 => ?_)
  · have h := sx_pos c2 h
    refine sx_aload_n (pc := 28) dX3_takeU2_28 sx_m0 ?_
    refine sv_getO (pc := 29) hG dX3_takeU2_29 f_3_27 lay_16 rfl cr_16_0 ?_
    refine sx_aload_n (pc := 32) dX3_takeU2_32 sx_m0 ?_
    refine sv_getI (pc := 33) hG dX3_takeU2_33 f_3_63 lay_16 rfl ?_
    refine sx_iconst (pc := 36) (v := 2) dX3_takeU2_36 (by decide) ?_
    refine sx_isub (pc := 37) dX3_takeU2_37 ?_
    obtain ⟨⟨x5, V3⟩, g4, h⟩ := sx_bnd h
    refine sv_cV (pc := 38) (y := qX2_u2) (o := (some (.int x5))) (as := [.int ((V1.1 16 4) - (2 : Int32))]) (V1 := V3) hG dX3_takeU2_38 l_X3_76 y0X2_u2 yvX2_u2 rfl (Nat.le_of_ble_eq_true rfl) lay_2 kr_2 (by decide) (Nat.le_of_ble_eq_true rfl) rfl rfl rfl (t_X2_u2 hG ⟨rfl, rfl⟩ g4) ?_
    exact sv_iret (pc := 41) dX3_takeU2_41 rfl h hP
  · have h := sx_neg c2 h
    refine sx_aload_n (pc := 21) dX3_takeU2_21 sx_m0 ?_
    refine sx_iconst (pc := 22) (v := 1) dX3_takeU2_22 (by decide) ?_
    obtain ⟨V6, hV6⟩ : ∃ z : sv_V, z = sv_I V1 16 6 (1 : Int32) := ⟨_, rfl⟩
    have h := sx_letE hV6 h
    refine sv_putZ (pc := 23) hG dX3_takeU2_23 f_3_69 lay_16 rfl rfl hV6 ?_
    refine sx_iconst (pc := 26) (v := 0) dX3_takeU2_26 (by decide) ?_
    exact sv_iret (pc := 27) dX3_takeU2_27 rfl h hP
def ncX3_takeS2 : Nat := 94156450475012484289831807190187775890570427956662358030587687518035146235505858559202669981670332714
theorem kcX3_takeS2 : CK cX3_takeS2 ncX3_takeS2 42 := ⟨by decide +kernel, by decide +kernel⟩
theorem dX3_takeS2_0 : decode cX3_takeS2 0 = .ok (.aload_n 0, 1) := dl_o42 kcX3_takeS2 (by decide +kernel)
theorem dX3_takeS2_1 : decode cX3_takeS2 1 = .ok (.dup, 1) := dl_o89 kcX3_takeS2 (by decide +kernel)
theorem dX3_takeS2_2 : decode cX3_takeS2 2 = .ok (.getfield 63, 3) := dl_o180 kcX3_takeS2 (by decide +kernel)
theorem dX3_takeS2_5 : decode cX3_takeS2 5 = .ok (.iconst 2, 1) := dl_o5 kcX3_takeS2 (by decide +kernel)
theorem dX3_takeS2_6 : decode cX3_takeS2 6 = .ok (.iadd, 1) := dl_o96 kcX3_takeS2 (by decide +kernel)
theorem dX3_takeS2_7 : decode cX3_takeS2 7 = .ok (.putfield 63, 3) := dl_o181 kcX3_takeS2 (by decide +kernel)
theorem dX3_takeS2_10 : decode cX3_takeS2 10 = .ok (.aload_n 0, 1) := dl_o42 kcX3_takeS2 (by decide +kernel)
theorem dX3_takeS2_11 : decode cX3_takeS2 11 = .ok (.getfield 63, 3) := dl_o180 kcX3_takeS2 (by decide +kernel)
theorem dX3_takeS2_14 : decode cX3_takeS2 14 = .ok (.aload_n 0, 1) := dl_o42 kcX3_takeS2 (by decide +kernel)
theorem dX3_takeS2_15 : decode cX3_takeS2 15 = .ok (.getfield 66, 3) := dl_o180 kcX3_takeS2 (by decide +kernel)
theorem dX3_takeS2_18 : decode cX3_takeS2 18 = .ok (.if_icmp .le 10, 3) := dl_o164 kcX3_takeS2 10 (by decide +kernel) (by decide +kernel)
theorem dX3_takeS2_21 : decode cX3_takeS2 21 = .ok (.aload_n 0, 1) := dl_o42 kcX3_takeS2 (by decide +kernel)
theorem dX3_takeS2_22 : decode cX3_takeS2 22 = .ok (.iconst 1, 1) := dl_o4 kcX3_takeS2 (by decide +kernel)
theorem dX3_takeS2_23 : decode cX3_takeS2 23 = .ok (.putfield 69, 3) := dl_o181 kcX3_takeS2 (by decide +kernel)
theorem dX3_takeS2_26 : decode cX3_takeS2 26 = .ok (.iconst 0, 1) := dl_o3 kcX3_takeS2 (by decide +kernel)
theorem dX3_takeS2_27 : decode cX3_takeS2 27 = .ok (.ireturn, 1) := dl_o172 kcX3_takeS2 (by decide +kernel)
theorem dX3_takeS2_28 : decode cX3_takeS2 28 = .ok (.aload_n 0, 1) := dl_o42 kcX3_takeS2 (by decide +kernel)
theorem dX3_takeS2_29 : decode cX3_takeS2 29 = .ok (.getfield 27, 3) := dl_o180 kcX3_takeS2 (by decide +kernel)
theorem dX3_takeS2_32 : decode cX3_takeS2 32 = .ok (.aload_n 0, 1) := dl_o42 kcX3_takeS2 (by decide +kernel)
theorem dX3_takeS2_33 : decode cX3_takeS2 33 = .ok (.getfield 63, 3) := dl_o180 kcX3_takeS2 (by decide +kernel)
theorem dX3_takeS2_36 : decode cX3_takeS2 36 = .ok (.iconst 2, 1) := dl_o5 kcX3_takeS2 (by decide +kernel)
theorem dX3_takeS2_37 : decode cX3_takeS2 37 = .ok (.isub, 1) := dl_o100 kcX3_takeS2 (by decide +kernel)
theorem dX3_takeS2_38 : decode cX3_takeS2 38 = .ok (.invokevirtual 49, 3) := dl_o182 kcX3_takeS2 (by decide +kernel)
theorem dX3_takeS2_41 : decode cX3_takeS2 41 = .ok (.ireturn, 1) := dl_o172 kcX3_takeS2 (by decide +kernel)
def F_X3_takeS2  (V : sv_V) : Option (Int32 × sv_V) := sx_let (sv_I V 16 4 ((V.1 16 4) + (2 : Int32))) (fun V1 => if (V1.1 16 4) ≤ (V1.1 16 5) then ((F_X2_s2 ((V1.1 16 4) - (2 : Int32)) V1).bind (fun (x5, V3) => some (x5, V3))) else (sx_let (sv_I V1 16 6 (1 : Int32)) (fun V6 => some ((0 : Int32), V6))))
set_option maxRecDepth 20000 in
theorem t_X3_takeS2 {g : sx_G} (hG : sx_Go g) {P : Option Value → sv_V → Prop} {r : Int32} {Vr : sv_V} (hP : P (some (.int r)) Vr)  {V : sv_V} (h : F_X3_takeS2  V = some (r, Vr)) : sv_N g qX3_takeS2 1 0 [(0, .ref 16)] [] V P := by
  unfold F_X3_takeS2 at h
  refine sx_aload_n (pc := 0) dX3_takeS2_0 sx_m0 ?_
  refine sx_dup (pc := 1) dX3_takeS2_1 rfl ?_
  refine sv_getI (pc := 2) hG dX3_takeS2_2 f_3_63 lay_16 rfl ?_
  refine sx_iconst (pc := 5) (v := 2) dX3_takeS2_5 (by decide) ?_
  refine sx_iadd (pc := 6) dX3_takeS2_6 ?_
  obtain ⟨V1, hV1⟩ : ∃ z : sv_V, z = sv_I V 16 4 ((V.1 16 4) + (2 : Int32)) := ⟨_, rfl⟩
  have h := sx_letE hV1 h
  refine sv_putI (pc := 7) hG dX3_takeS2_7 f_3_63 lay_16 rfl hV1 ?_
  refine sx_aload_n (pc := 10) dX3_takeS2_10 sx_m0 ?_
  refine sv_getI (pc := 11) hG dX3_takeS2_11 f_3_63 lay_16 rfl ?_
  refine sx_aload_n (pc := 14) dX3_takeS2_14 sx_m0 ?_
  refine sv_getI (pc := 15) hG dX3_takeS2_15 f_3_66 lay_16 rfl ?_
  refine sx_icmp_le (pc := 18) (tgt := 28) dX3_takeS2_18 (by decide) (fun c2 => ?_) (fun c2 => ?_)
  · have h := sx_pos c2 h
    refine sx_aload_n (pc := 28) dX3_takeS2_28 sx_m0 ?_
    refine sv_getO (pc := 29) hG dX3_takeS2_29 f_3_27 lay_16 rfl cr_16_0 ?_
    refine sx_aload_n (pc := 32) dX3_takeS2_32 sx_m0 ?_
    refine sv_getI (pc := 33) hG dX3_takeS2_33 f_3_63 lay_16 rfl ?_
    refine sx_iconst (pc := 36) (v := 2) dX3_takeS2_36 (by decide) ?_
    refine sx_isub (pc := 37) dX3_takeS2_37 ?_
    obtain ⟨⟨x5, V3⟩, g4, h⟩ := sx_bnd h
    refine sv_cV (pc := 38) (y := qX2_s2) (o := (some (.int x5))) (as := [.int ((V1.1 16 4) - (2 : Int32))]) (V1 := V3) hG dX3_takeS2_38 l_X3_49 y0X2_s2 yvX2_s2 rfl (Nat.le_of_ble_eq_true rfl) lay_2 kr_2 (by decide) (Nat.le_of_ble_eq_true rfl) rfl rfl rfl (t_X2_s2 hG ⟨rfl, rfl⟩ g4) ?_
    exact sv_iret (pc := 41) dX3_takeS2_41 rfl h hP
  · have h := sx_neg c2 h
    refine sx_aload_n (pc := 21) dX3_takeS2_21 sx_m0 ?_
    refine sx_iconst (pc := 22) (v := 1) dX3_takeS2_22 (by decide) ?_
    obtain ⟨V6, hV6⟩ : ∃ z : sv_V, z = sv_I V1 16 6 (1 : Int32) := ⟨_, rfl⟩
    have h := sx_letE hV6 h
    refine sv_putZ (pc := 23) hG dX3_takeS2_23 f_3_69 lay_16 rfl rfl hV6 ?_
    refine sx_iconst (pc := 26) (v := 0) dX3_takeS2_26 (by decide) ?_
    exact sv_iret (pc := 27) dX3_takeS2_27 rfl h hP
def ncX3_takeProgram : Nat := 2788224621672822470013956306813532258098057480170653617915753496691147631641649449614000817127829309566240149195339497559825691973495319256695635594936256168223430666339667174012458
theorem kcX3_takeProgram : CK cX3_takeProgram ncX3_takeProgram 75 := ⟨by decide +kernel, by decide +kernel⟩
theorem dX3_takeProgram_0 : decode cX3_takeProgram 0 = .ok (.aload_n 0, 1) := dl_o42 kcX3_takeProgram (by decide +kernel)
theorem dX3_takeProgram_1 : decode cX3_takeProgram 1 = .ok (.invokevirtual 89, 3) := dl_o182 kcX3_takeProgram (by decide +kernel)
theorem dX3_takeProgram_4 : decode cX3_takeProgram 4 = .ok (.istore_n 2, 1) := dl_o61 kcX3_takeProgram (by decide +kernel)
theorem dX3_takeProgram_5 : decode cX3_takeProgram 5 = .ok (.aload_n 0, 1) := dl_o42 kcX3_takeProgram (by decide +kernel)
theorem dX3_takeProgram_6 : decode cX3_takeProgram 6 = .ok (.getfield 69, 3) := dl_o180 kcX3_takeProgram (by decide +kernel)
theorem dX3_takeProgram_9 : decode cX3_takeProgram 9 = .ok (.ifCond .ne 23, 3) := dl_o154 kcX3_takeProgram 23 (by decide +kernel) (by decide +kernel)
theorem dX3_takeProgram_12 : decode cX3_takeProgram 12 = .ok (.iload_n 2, 1) := dl_o28 kcX3_takeProgram (by decide +kernel)
theorem dX3_takeProgram_13 : decode cX3_takeProgram 13 = .ok (.sipush 400, 3) := dl_o17 kcX3_takeProgram 400 (by decide +kernel) (by decide +kernel)
theorem dX3_takeProgram_16 : decode cX3_takeProgram 16 = .ok (.if_icmp .gt 16, 3) := dl_o163 kcX3_takeProgram 16 (by decide +kernel) (by decide +kernel)
theorem dX3_takeProgram_19 : decode cX3_takeProgram 19 = .ok (.aload_n 0, 1) := dl_o42 kcX3_takeProgram (by decide +kernel)
theorem dX3_takeProgram_20 : decode cX3_takeProgram 20 = .ok (.getfield 63, 3) := dl_o180 kcX3_takeProgram (by decide +kernel)
theorem dX3_takeProgram_23 : decode cX3_takeProgram 23 = .ok (.iload_n 2, 1) := dl_o28 kcX3_takeProgram (by decide +kernel)
theorem dX3_takeProgram_24 : decode cX3_takeProgram 24 = .ok (.iadd, 1) := dl_o96 kcX3_takeProgram (by decide +kernel)
theorem dX3_takeProgram_25 : decode cX3_takeProgram 25 = .ok (.aload_n 0, 1) := dl_o42 kcX3_takeProgram (by decide +kernel)
theorem dX3_takeProgram_26 : decode cX3_takeProgram 26 = .ok (.getfield 66, 3) := dl_o180 kcX3_takeProgram (by decide +kernel)
theorem dX3_takeProgram_29 : decode cX3_takeProgram 29 = .ok (.if_icmp .le 5, 3) := dl_o164 kcX3_takeProgram 5 (by decide +kernel) (by decide +kernel)
theorem dX3_takeProgram_32 : decode cX3_takeProgram 32 = .ok (.iconst 0, 1) := dl_o3 kcX3_takeProgram (by decide +kernel)
theorem dX3_takeProgram_33 : decode cX3_takeProgram 33 = .ok (.ireturn, 1) := dl_o172 kcX3_takeProgram (by decide +kernel)
theorem dX3_takeProgram_34 : decode cX3_takeProgram 34 = .ok (.aload_n 0, 1) := dl_o42 kcX3_takeProgram (by decide +kernel)
theorem dX3_takeProgram_35 : decode cX3_takeProgram 35 = .ok (.getfield 27, 3) := dl_o180 kcX3_takeProgram (by decide +kernel)
theorem dX3_takeProgram_38 : decode cX3_takeProgram 38 = .ok (.getfield 45, 3) := dl_o180 kcX3_takeProgram (by decide +kernel)
theorem dX3_takeProgram_41 : decode cX3_takeProgram 41 = .ok (.bipush 6, 2) := dl_o16 kcX3_takeProgram 6 (by decide +kernel) (by decide +kernel)
theorem dX3_takeProgram_43 : decode cX3_takeProgram 43 = .ok (.aaload, 1) := dl_o50 kcX3_takeProgram (by decide +kernel)
theorem dX3_takeProgram_44 : decode cX3_takeProgram 44 = .ok (.iload_n 1, 1) := dl_o27 kcX3_takeProgram (by decide +kernel)
theorem dX3_takeProgram_45 : decode cX3_takeProgram 45 = .ok (.aload_n 0, 1) := dl_o42 kcX3_takeProgram (by decide +kernel)
theorem dX3_takeProgram_46 : decode cX3_takeProgram 46 = .ok (.getfield 63, 3) := dl_o180 kcX3_takeProgram (by decide +kernel)
theorem dX3_takeProgram_49 : decode cX3_takeProgram 49 = .ok (.iastore, 1) := dl_o79 kcX3_takeProgram (by decide +kernel)
theorem dX3_takeProgram_50 : decode cX3_takeProgram 50 = .ok (.aload_n 0, 1) := dl_o42 kcX3_takeProgram (by decide +kernel)
theorem dX3_takeProgram_51 : decode cX3_takeProgram 51 = .ok (.getfield 27, 3) := dl_o180 kcX3_takeProgram (by decide +kernel)
theorem dX3_takeProgram_54 : decode cX3_takeProgram 54 = .ok (.getfield 45, 3) := dl_o180 kcX3_takeProgram (by decide +kernel)
theorem dX3_takeProgram_57 : decode cX3_takeProgram 57 = .ok (.bipush 7, 2) := dl_o16 kcX3_takeProgram 7 (by decide +kernel) (by decide +kernel)
theorem dX3_takeProgram_59 : decode cX3_takeProgram 59 = .ok (.aaload, 1) := dl_o50 kcX3_takeProgram (by decide +kernel)
theorem dX3_takeProgram_60 : decode cX3_takeProgram 60 = .ok (.iload_n 1, 1) := dl_o27 kcX3_takeProgram (by decide +kernel)
theorem dX3_takeProgram_61 : decode cX3_takeProgram 61 = .ok (.iload_n 2, 1) := dl_o28 kcX3_takeProgram (by decide +kernel)
theorem dX3_takeProgram_62 : decode cX3_takeProgram 62 = .ok (.iastore, 1) := dl_o79 kcX3_takeProgram (by decide +kernel)
theorem dX3_takeProgram_63 : decode cX3_takeProgram 63 = .ok (.aload_n 0, 1) := dl_o42 kcX3_takeProgram (by decide +kernel)
theorem dX3_takeProgram_64 : decode cX3_takeProgram 64 = .ok (.dup, 1) := dl_o89 kcX3_takeProgram (by decide +kernel)
theorem dX3_takeProgram_65 : decode cX3_takeProgram 65 = .ok (.getfield 63, 3) := dl_o180 kcX3_takeProgram (by decide +kernel)
theorem dX3_takeProgram_68 : decode cX3_takeProgram 68 = .ok (.iload_n 2, 1) := dl_o28 kcX3_takeProgram (by decide +kernel)
theorem dX3_takeProgram_69 : decode cX3_takeProgram 69 = .ok (.iadd, 1) := dl_o96 kcX3_takeProgram (by decide +kernel)
theorem dX3_takeProgram_70 : decode cX3_takeProgram 70 = .ok (.putfield 63, 3) := dl_o181 kcX3_takeProgram (by decide +kernel)
theorem dX3_takeProgram_73 : decode cX3_takeProgram 73 = .ok (.iconst 1, 1) := dl_o4 kcX3_takeProgram (by decide +kernel)
theorem dX3_takeProgram_74 : decode cX3_takeProgram 74 = .ok (.ireturn, 1) := dl_o172 kcX3_takeProgram (by decide +kernel)
def F_X3_takeProgram (l1 : Int32) (V : sv_V) : Option (Int32 × sv_V) := (F_X3_takeU2  V).bind (fun (x3, V1) => if (V1.1 16 6) = 0 then (if (400 : Int32) < x3 then (some ((0 : Int32), V1)) else (if ((V1.1 16 4) + x3) ≤ (V1.1 16 5) then ((cr 7 (6 : Int32).toNatClampNeg).bind (fun b7 => (sv_len 0 b7).bind (fun n9 => if sx_in l1 n9 = true then sx_let (sv_I V1 b7 l1.toNatClampNeg (V1.1 16 4)) (fun V12 => (cr 7 (7 : Int32).toNatClampNeg).bind (fun b13 => (sv_len 0 b13).bind (fun n15 => if sx_in l1 n15 = true then sx_let (sv_I V12 b13 l1.toNatClampNeg x3) (fun V18 => sx_let (sv_I V18 16 4 ((V18.1 16 4) + x3)) (fun V19 => some ((1 : Int32), V19))) else none))) else none))) else (some ((0 : Int32), V1)))) else (some ((0 : Int32), V1)))
set_option maxRecDepth 20000 in
theorem t_X3_takeProgram {g : sx_G} (hG : sx_Go g) {P : Option Value → sv_V → Prop} {r : Int32} {Vr : sv_V} (hP : P (some (.int r)) Vr) {l1 : Int32} {V : sv_V} (h : F_X3_takeProgram l1 V = some (r, Vr)) : sv_N g qX3_takeProgram 2 0 [(0, .ref 16), (1, .int l1)] [] V P := by
  unfold F_X3_takeProgram at h
  refine sx_aload_n (pc := 0) dX3_takeProgram_0 sx_m0 ?_
  obtain ⟨⟨x3, V1⟩, g2, h⟩ := sx_bnd h
  refine sv_cV (pc := 1) (y := qX3_takeU2) (o := (some (.int x3))) (as := []) (V1 := V1) hG dX3_takeProgram_1 l_X3_89 y0X3_takeU2 yvX3_takeU2 rfl (Nat.le_of_ble_eq_true rfl) lay_16 kr_3 (by decide) (Nat.le_of_ble_eq_true rfl) rfl rfl rfl (t_X3_takeU2 hG ⟨rfl, rfl⟩ g2) ?_
  refine sx_istore_n (pc := 4) (lo' := [(2, .int x3), (0, .ref 16), (1, .int l1)]) dX3_takeProgram_4 (by decide) rfl ?_
  refine sx_aload_n (pc := 5) dX3_takeProgram_5 sx_m1 ?_
  refine sv_getZ (pc := 6) hG dX3_takeProgram_6 f_3_69 lay_16 rfl ?_
  refine sx_if_ne (pc := 9) (tgt := 32) dX3_takeProgram_9 (by decide) (fun c4 => ?_) (fun c4 => ?_)
  · have h := sx_neg c4 h
    refine sx_iconst (pc := 32) (v := 0) dX3_takeProgram_32 (by decide) ?_
    exact sv_zret (pc := 33) dX3_takeProgram_33 rfl rfl h hP
  · have h := sx_pos c4 h
    refine sx_iload_n (pc := 12) dX3_takeProgram_12 sx_m0 ?_
    refine sx_sipush (pc := 13) (v := 400) dX3_takeProgram_13 (by decide) ?_
    refine sx_icmp_gt (pc := 16) (tgt := 32) dX3_takeProgram_16 (by decide) (fun c5 => ?_) (fun c5 => ?_)
    · have h := sx_pos c5 h
      refine sx_iconst (pc := 32) (v := 0) dX3_takeProgram_32 (by decide) ?_
      exact sv_zret (pc := 33) dX3_takeProgram_33 rfl rfl h hP
    · have h := sx_neg c5 h
      refine sx_aload_n (pc := 19) dX3_takeProgram_19 sx_m1 ?_
      refine sv_getI (pc := 20) hG dX3_takeProgram_20 f_3_63 lay_16 rfl ?_
      refine sx_iload_n (pc := 23) dX3_takeProgram_23 sx_m0 ?_
      refine sx_iadd (pc := 24) dX3_takeProgram_24 ?_
      refine sx_aload_n (pc := 25) dX3_takeProgram_25 sx_m1 ?_
      refine sv_getI (pc := 26) hG dX3_takeProgram_26 f_3_66 lay_16 rfl ?_
      refine sx_icmp_le (pc := 29) (tgt := 34) dX3_takeProgram_29 (by decide) (fun c6 => ?_) (fun c6 => ?_)
      · have h := sx_pos c6 h
        refine sx_aload_n (pc := 34) dX3_takeProgram_34 sx_m1 ?_
        refine sv_getO (pc := 35) hG dX3_takeProgram_35 f_3_27 lay_16 rfl cr_16_0 ?_
        refine sv_getA (pc := 38) hG dX3_takeProgram_38 f_3_45 lay_2 rfl cr_2_16 ?_
        refine sx_bipush (pc := 41) (v := 6) dX3_takeProgram_41 (by decide) ?_
        obtain ⟨b7, g8, h⟩ := sx_bnd h
        refine sv_aald (pc := 43) hG dX3_takeProgram_43 (by decide) lay_7 (by decide) g8 ?_
        refine sx_iload_n (pc := 44) dX3_takeProgram_44 sx_m2 ?_
        refine sx_aload_n (pc := 45) dX3_takeProgram_45 sx_m1 ?_
        refine sv_getI (pc := 46) hG dX3_takeProgram_46 f_3_63 lay_16 rfl ?_
        obtain ⟨n9, g10, h⟩ := sx_bnd h
        obtain ⟨g11, h⟩ := sx_grd h
        obtain ⟨V12, hV12⟩ : ∃ z : sv_V, z = sv_I V1 b7 l1.toNatClampNeg (V1.1 16 4) := ⟨_, rfl⟩
        have h := sx_letE hV12 h
        refine sv_iast (pc := 49) hG dX3_takeProgram_49 (sv_len_e g10) g11 hV12 ?_
        refine sx_aload_n (pc := 50) dX3_takeProgram_50 sx_m1 ?_
        refine sv_getO (pc := 51) hG dX3_takeProgram_51 f_3_27 lay_16 rfl cr_16_0 ?_
        refine sv_getA (pc := 54) hG dX3_takeProgram_54 f_3_45 lay_2 rfl cr_2_16 ?_
        refine sx_bipush (pc := 57) (v := 7) dX3_takeProgram_57 (by decide) ?_
        obtain ⟨b13, g14, h⟩ := sx_bnd h
        refine sv_aald (pc := 59) hG dX3_takeProgram_59 (by decide) lay_7 (by decide) g14 ?_
        refine sx_iload_n (pc := 60) dX3_takeProgram_60 sx_m2 ?_
        refine sx_iload_n (pc := 61) dX3_takeProgram_61 sx_m0 ?_
        obtain ⟨n15, g16, h⟩ := sx_bnd h
        obtain ⟨g17, h⟩ := sx_grd h
        obtain ⟨V18, hV18⟩ : ∃ z : sv_V, z = sv_I V12 b13 l1.toNatClampNeg x3 := ⟨_, rfl⟩
        have h := sx_letE hV18 h
        refine sv_iast (pc := 62) hG dX3_takeProgram_62 (sv_len_e g16) g17 hV18 ?_
        refine sx_aload_n (pc := 63) dX3_takeProgram_63 sx_m1 ?_
        refine sx_dup (pc := 64) dX3_takeProgram_64 rfl ?_
        refine sv_getI (pc := 65) hG dX3_takeProgram_65 f_3_63 lay_16 rfl ?_
        refine sx_iload_n (pc := 68) dX3_takeProgram_68 sx_m0 ?_
        refine sx_iadd (pc := 69) dX3_takeProgram_69 ?_
        obtain ⟨V19, hV19⟩ : ∃ z : sv_V, z = sv_I V18 16 4 ((V18.1 16 4) + x3) := ⟨_, rfl⟩
        have h := sx_letE hV19 h
        refine sv_putI (pc := 70) hG dX3_takeProgram_70 f_3_63 lay_16 rfl hV19 ?_
        refine sx_iconst (pc := 73) (v := 1) dX3_takeProgram_73 (by decide) ?_
        exact sv_zret (pc := 74) dX3_takeProgram_74 rfl rfl h hP
      · have h := sx_neg c6 h
        refine sx_iconst (pc := 32) (v := 0) dX3_takeProgram_32 (by decide) ?_
        exact sv_zret (pc := 33) dX3_takeProgram_33 rfl rfl h hP
def ncX3_takeFlags : Nat := 267061373472032956018722428820041598401385316715552923729430778586139742384368038922126071574446519183190358799259365987067024781936469020905810881887293841991106503311443231339292292713200332390254967026842407481220942849240662752515
theorem kcX3_takeFlags : CK cX3_takeFlags ncX3_takeFlags 97 := ⟨by decide +kernel, by decide +kernel⟩
theorem dX3_takeFlags_0 : decode cX3_takeFlags 0 = .ok (.iconst 0, 1) := dl_o3 kcX3_takeFlags (by decide +kernel)
theorem dX3_takeFlags_1 : decode cX3_takeFlags 1 = .ok (.istore_n 2, 1) := dl_o61 kcX3_takeFlags (by decide +kernel)
theorem dX3_takeFlags_2 : decode cX3_takeFlags 2 = .ok (.iconst 0, 1) := dl_o3 kcX3_takeFlags (by decide +kernel)
theorem dX3_takeFlags_3 : decode cX3_takeFlags 3 = .ok (.istore_n 3, 1) := dl_o62 kcX3_takeFlags (by decide +kernel)
theorem dX3_takeFlags_4 : decode cX3_takeFlags 4 = .ok (.iload_n 3, 1) := dl_o29 kcX3_takeFlags (by decide +kernel)
theorem dX3_takeFlags_5 : decode cX3_takeFlags 5 = .ok (.iload_n 1, 1) := dl_o27 kcX3_takeFlags (by decide +kernel)
theorem dX3_takeFlags_6 : decode cX3_takeFlags 6 = .ok (.if_icmp .ge 89, 3) := dl_o162 kcX3_takeFlags 89 (by decide +kernel) (by decide +kernel)
theorem dX3_takeFlags_9 : decode cX3_takeFlags 9 = .ok (.iload_n 2, 1) := dl_o28 kcX3_takeFlags (by decide +kernel)
theorem dX3_takeFlags_10 : decode cX3_takeFlags 10 = .ok (.iload_n 1, 1) := dl_o27 kcX3_takeFlags (by decide +kernel)
theorem dX3_takeFlags_11 : decode cX3_takeFlags 11 = .ok (.if_icmp .ge 84, 3) := dl_o162 kcX3_takeFlags 84 (by decide +kernel) (by decide +kernel)
theorem dX3_takeFlags_14 : decode cX3_takeFlags 14 = .ok (.aload_n 0, 1) := dl_o42 kcX3_takeFlags (by decide +kernel)
theorem dX3_takeFlags_15 : decode cX3_takeFlags 15 = .ok (.invokevirtual 121, 3) := dl_o182 kcX3_takeFlags (by decide +kernel)
theorem dX3_takeFlags_18 : decode cX3_takeFlags 18 = .ok (.istore 4, 2) := dl_o54 kcX3_takeFlags (by decide +kernel)
theorem dX3_takeFlags_20 : decode cX3_takeFlags 20 = .ok (.iload 4, 2) := dl_o21 kcX3_takeFlags (by decide +kernel)
theorem dX3_takeFlags_22 : decode cX3_takeFlags 22 = .ok (.bipush 8, 2) := dl_o16 kcX3_takeFlags 8 (by decide +kernel) (by decide +kernel)
theorem dX3_takeFlags_24 : decode cX3_takeFlags 24 = .ok (.iand, 1) := dl_o126 kcX3_takeFlags (by decide +kernel)
theorem dX3_takeFlags_25 : decode cX3_takeFlags 25 = .ok (.ifCond .eq 10, 3) := dl_o153 kcX3_takeFlags 10 (by decide +kernel) (by decide +kernel)
theorem dX3_takeFlags_28 : decode cX3_takeFlags 28 = .ok (.aload_n 0, 1) := dl_o42 kcX3_takeFlags (by decide +kernel)
theorem dX3_takeFlags_29 : decode cX3_takeFlags 29 = .ok (.invokevirtual 121, 3) := dl_o182 kcX3_takeFlags (by decide +kernel)
theorem dX3_takeFlags_32 : decode cX3_takeFlags 32 = .ok (.goto 4, 3) := dl_o167 kcX3_takeFlags 4 (by decide +kernel) (by decide +kernel)
theorem dX3_takeFlags_35 : decode cX3_takeFlags 35 = .ok (.iconst 0, 1) := dl_o3 kcX3_takeFlags (by decide +kernel)
theorem dX3_takeFlags_36 : decode cX3_takeFlags 36 = .ok (.istore 5, 2) := dl_o54 kcX3_takeFlags (by decide +kernel)
theorem dX3_takeFlags_38 : decode cX3_takeFlags 38 = .ok (.aload_n 0, 1) := dl_o42 kcX3_takeFlags (by decide +kernel)
theorem dX3_takeFlags_39 : decode cX3_takeFlags 39 = .ok (.getfield 69, 3) := dl_o180 kcX3_takeFlags (by decide +kernel)
theorem dX3_takeFlags_42 : decode cX3_takeFlags 42 = .ok (.ifCond .ne 11, 3) := dl_o154 kcX3_takeFlags 11 (by decide +kernel) (by decide +kernel)
theorem dX3_takeFlags_45 : decode cX3_takeFlags 45 = .ok (.iload_n 2, 1) := dl_o28 kcX3_takeFlags (by decide +kernel)
theorem dX3_takeFlags_46 : decode cX3_takeFlags 46 = .ok (.iload 5, 2) := dl_o21 kcX3_takeFlags (by decide +kernel)
theorem dX3_takeFlags_48 : decode cX3_takeFlags 48 = .ok (.iadd, 1) := dl_o96 kcX3_takeFlags (by decide +kernel)
theorem dX3_takeFlags_49 : decode cX3_takeFlags 49 = .ok (.iload_n 1, 1) := dl_o27 kcX3_takeFlags (by decide +kernel)
theorem dX3_takeFlags_50 : decode cX3_takeFlags 50 = .ok (.if_icmp .lt 5, 3) := dl_o161 kcX3_takeFlags 5 (by decide +kernel) (by decide +kernel)
theorem dX3_takeFlags_53 : decode cX3_takeFlags 53 = .ok (.iconst 0, 1) := dl_o3 kcX3_takeFlags (by decide +kernel)
theorem dX3_takeFlags_54 : decode cX3_takeFlags 54 = .ok (.ireturn, 1) := dl_o172 kcX3_takeFlags (by decide +kernel)
theorem dX3_takeFlags_55 : decode cX3_takeFlags 55 = .ok (.iconst 0, 1) := dl_o3 kcX3_takeFlags (by decide +kernel)
theorem dX3_takeFlags_56 : decode cX3_takeFlags 56 = .ok (.istore 6, 2) := dl_o54 kcX3_takeFlags (by decide +kernel)
theorem dX3_takeFlags_58 : decode cX3_takeFlags 58 = .ok (.iload 6, 2) := dl_o21 kcX3_takeFlags (by decide +kernel)
theorem dX3_takeFlags_60 : decode cX3_takeFlags 60 = .ok (.iload 5, 2) := dl_o21 kcX3_takeFlags (by decide +kernel)
theorem dX3_takeFlags_62 : decode cX3_takeFlags 62 = .ok (.if_icmp .gt 20, 3) := dl_o163 kcX3_takeFlags 20 (by decide +kernel) (by decide +kernel)
theorem dX3_takeFlags_65 : decode cX3_takeFlags 65 = .ok (.aload_n 0, 1) := dl_o42 kcX3_takeFlags (by decide +kernel)
theorem dX3_takeFlags_66 : decode cX3_takeFlags 66 = .ok (.getfield 20, 3) := dl_o180 kcX3_takeFlags (by decide +kernel)
theorem dX3_takeFlags_69 : decode cX3_takeFlags 69 = .ok (.iload_n 2, 1) := dl_o28 kcX3_takeFlags (by decide +kernel)
theorem dX3_takeFlags_70 : decode cX3_takeFlags 70 = .ok (.iload 6, 2) := dl_o21 kcX3_takeFlags (by decide +kernel)
theorem dX3_takeFlags_72 : decode cX3_takeFlags 72 = .ok (.iadd, 1) := dl_o96 kcX3_takeFlags (by decide +kernel)
theorem dX3_takeFlags_73 : decode cX3_takeFlags 73 = .ok (.iload 4, 2) := dl_o21 kcX3_takeFlags (by decide +kernel)
theorem dX3_takeFlags_75 : decode cX3_takeFlags 75 = .ok (.iastore, 1) := dl_o79 kcX3_takeFlags (by decide +kernel)
theorem dX3_takeFlags_76 : decode cX3_takeFlags 76 = .ok (.iinc 6 1, 3) := by decide +kernel
theorem dX3_takeFlags_79 : decode cX3_takeFlags 79 = .ok (.goto (-21), 3) := dl_o167 kcX3_takeFlags 65515 (by decide +kernel) (by decide +kernel)
theorem dX3_takeFlags_82 : decode cX3_takeFlags 82 = .ok (.iload_n 2, 1) := dl_o28 kcX3_takeFlags (by decide +kernel)
theorem dX3_takeFlags_83 : decode cX3_takeFlags 83 = .ok (.iload 5, 2) := dl_o21 kcX3_takeFlags (by decide +kernel)
theorem dX3_takeFlags_85 : decode cX3_takeFlags 85 = .ok (.iconst 1, 1) := dl_o4 kcX3_takeFlags (by decide +kernel)
theorem dX3_takeFlags_86 : decode cX3_takeFlags 86 = .ok (.iadd, 1) := dl_o96 kcX3_takeFlags (by decide +kernel)
theorem dX3_takeFlags_87 : decode cX3_takeFlags 87 = .ok (.iadd, 1) := dl_o96 kcX3_takeFlags (by decide +kernel)
theorem dX3_takeFlags_88 : decode cX3_takeFlags 88 = .ok (.istore_n 2, 1) := dl_o61 kcX3_takeFlags (by decide +kernel)
theorem dX3_takeFlags_89 : decode cX3_takeFlags 89 = .ok (.iinc 3 1, 3) := by decide +kernel
theorem dX3_takeFlags_92 : decode cX3_takeFlags 92 = .ok (.goto (-88), 3) := dl_o167 kcX3_takeFlags 65448 (by decide +kernel) (by decide +kernel)
theorem dX3_takeFlags_95 : decode cX3_takeFlags 95 = .ok (.iconst 1, 1) := dl_o4 kcX3_takeFlags (by decide +kernel)
theorem dX3_takeFlags_96 : decode cX3_takeFlags 96 = .ok (.ireturn, 1) := dl_o172 kcX3_takeFlags (by decide +kernel)
def B_X3_takeFlags_58 (N : Nat) (k4 : Int32 → Int32 → Int32 → sv_V → Option (Int32 × sv_V)) (k58 : Int32 → Int32 → Int32 → Int32 → Int32 → Int32 → sv_V → Option (Int32 × sv_V)) (l1 : Int32) (l2 : Int32) (l3 : Int32) (l4 : Int32) (l5 : Int32) (l6 : Int32) (V : sv_V) : Option (Int32 × sv_V) := if l5 < l6 then (sx_let (l2 + (l5 + (1 : Int32))) (fun x2 => sx_let (l3 + 1) (fun x3 => k4 l1 x2 x3 V))) else (if sx_in (l2 + l6) 100 = true then sx_let (sv_I V 27 (l2 + l6).toNatClampNeg l4) (fun V5 => sx_let (l6 + 1) (fun x6 => k58 l1 l2 l3 l4 l5 x6 V5)) else none)
set_option maxRecDepth 20000 in
theorem tB_X3_takeFlags_58 {g : sx_G} (hG : sx_Go g) {P : Option Value → sv_V → Prop} {r : Int32} {Vr : sv_V} (hP : P (some (.int r)) Vr) {N : Nat} {k4 : Int32 → Int32 → Int32 → sv_V → Option (Int32 × sv_V)} {k58 : Int32 → Int32 → Int32 → Int32 → Int32 → Int32 → sv_V → Option (Int32 × sv_V)} (hk4 : ∀ (l1 : Int32) (l2 : Int32) (l3 : Int32) (V : sv_V), k4 l1 l2 l3 V = some (r, Vr) → sv_N g qX3_takeFlags 2 4 [(0, .ref 16), (1, .int l1), (2, .int l2), (3, .int l3)] [] V P) (hk58 : ∀ (l1 : Int32) (l2 : Int32) (l3 : Int32) (l4 : Int32) (l5 : Int32) (l6 : Int32) (V : sv_V), k58 l1 l2 l3 l4 l5 l6 V = some (r, Vr) → sv_N g qX3_takeFlags 2 58 [(0, .ref 16), (1, .int l1), (2, .int l2), (3, .int l3), (4, .int l4), (5, .int l5), (6, .int l6)] [] V P) {l1 : Int32} {l2 : Int32} {l3 : Int32} {l4 : Int32} {l5 : Int32} {l6 : Int32} {V : sv_V} (h : B_X3_takeFlags_58 N k4 k58 l1 l2 l3 l4 l5 l6 V = some (r, Vr)) : sv_N g qX3_takeFlags 2 58 [(0, .ref 16), (1, .int l1), (2, .int l2), (3, .int l3), (4, .int l4), (5, .int l5), (6, .int l6)] [] V P := by
  unfold B_X3_takeFlags_58 at h
  refine sx_iload (pc := 58) dX3_takeFlags_58 sx_m6 ?_
  refine sx_iload (pc := 60) dX3_takeFlags_60 sx_m5 ?_
  refine sx_icmp_gt (pc := 62) (tgt := 82) dX3_takeFlags_62 (by decide) (fun c1 => ?_) (fun c1 => ?_)
  · have h := sx_pos c1 h
    refine sx_iload_n (pc := 82) dX3_takeFlags_82 sx_m2 ?_
    refine sx_iload (pc := 83) dX3_takeFlags_83 sx_m5 ?_
    refine sx_iconst (pc := 85) (v := 1) dX3_takeFlags_85 (by decide) ?_
    refine sx_iadd (pc := 86) dX3_takeFlags_86 ?_
    refine sx_iadd (pc := 87) dX3_takeFlags_87 ?_
    refine sv_tI (fun x2 hx2 => ?_)
    have h := sx_letE hx2 h
    refine sx_istore_n (pc := 88) (lo' := [(2, .int x2), (0, .ref 16), (1, .int l1), (3, .int l3), (4, .int l4), (5, .int l5), (6, .int l6)]) dX3_takeFlags_88 (by decide) rfl ?_
    obtain ⟨x3, hx3⟩ : ∃ z : Int32, z = l3 + 1 := ⟨_, rfl⟩
    have h := sx_letE hx3 h
    refine sx_iinc (pc := 89) (v := x3) (lo' := [(3, .int x3), (2, .int x2), (0, .ref 16), (1, .int l1), (4, .int l4), (5, .int l5), (6, .int l6)]) dX3_takeFlags_89 sx_m3 (by rw [hx3]; rfl) (by decide) rfl ?_
    refine sx_goto (pc := 92) (tgt := 4) dX3_takeFlags_92 (by decide) ?_
    refine sx_wk (sx_s1 sx_m2 (sx_s1 sx_m3 (sx_s1 sx_m1 (sx_s1 sx_m0 sx_s0)))) ?_
    exact hk4 _ _ _ _ h
  · have h := sx_neg c1 h
    refine sx_aload_n (pc := 65) dX3_takeFlags_65 sx_m0 ?_
    refine sv_getA (pc := 66) hG dX3_takeFlags_66 f_3_20 lay_16 rfl cr_16_2 ?_
    refine sx_iload_n (pc := 69) dX3_takeFlags_69 sx_m2 ?_
    refine sx_iload (pc := 70) dX3_takeFlags_70 sx_m6 ?_
    refine sx_iadd (pc := 72) dX3_takeFlags_72 ?_
    refine sx_iload (pc := 73) dX3_takeFlags_73 sx_m4 ?_
    obtain ⟨g4, h⟩ := sx_grd h
    obtain ⟨V5, hV5⟩ : ∃ z : sv_V, z = sv_I V 27 (l2 + l6).toNatClampNeg l4 := ⟨_, rfl⟩
    have h := sx_letE hV5 h
    refine sv_iast (pc := 75) hG dX3_takeFlags_75 lay_27 g4 hV5 ?_
    obtain ⟨x6, hx6⟩ : ∃ z : Int32, z = l6 + 1 := ⟨_, rfl⟩
    have h := sx_letE hx6 h
    refine sx_iinc (pc := 76) (v := x6) (lo' := [(6, .int x6), (0, .ref 16), (1, .int l1), (2, .int l2), (3, .int l3), (4, .int l4), (5, .int l5)]) dX3_takeFlags_76 sx_m6 (by rw [hx6]; rfl) (by decide) rfl ?_
    refine sx_goto (pc := 79) (tgt := 58) dX3_takeFlags_79 (by decide) ?_
    refine sx_wk (sx_s1 sx_m1 (sx_s1 sx_m2 (sx_s1 sx_m3 (sx_s1 sx_m4 (sx_s1 sx_m5 (sx_s1 sx_m6 (sx_s1 sx_m0 sx_s0))))))) ?_
    exact hk58 _ _ _ _ _ _ _ h
theorem tL_X3_takeFlags_58 {g : sx_G} (hG : sx_Go g) {P : Option Value → sv_V → Prop} {r : Int32} {Vr : sv_V} (hP : P (some (.int r)) Vr) {N : Nat} {k4 : Int32 → Int32 → Int32 → sv_V → Option (Int32 × sv_V)} (hk4 : ∀ (l1 : Int32) (l2 : Int32) (l3 : Int32) (V : sv_V), k4 l1 l2 l3 V = some (r, Vr) → sv_N g qX3_takeFlags 2 4 [(0, .ref 16), (1, .int l1), (2, .int l2), (3, .int l3)] [] V P) : ∀ (n : Nat) (l1 : Int32) (l2 : Int32) (l3 : Int32) (l4 : Int32) (l5 : Int32) (l6 : Int32) (V : sv_V), sx_lp7 (B_X3_takeFlags_58 N k4) n l1 l2 l3 l4 l5 l6 V = some (r, Vr) → sv_N g qX3_takeFlags 2 58 [(0, .ref 16), (1, .int l1), (2, .int l2), (3, .int l3), (4, .int l4), (5, .int l5), (6, .int l6)] [] V P :=
  sx_lp7_ind (fun k0 ih _ _ _ _ _ _ V h => tB_X3_takeFlags_58 hG hP hk4 ih h)
def B_X3_takeFlags_36 (N : Nat) (k4 : Int32 → Int32 → Int32 → sv_V → Option (Int32 × sv_V)) (l1 : Int32) (l2 : Int32) (l3 : Int32) (l4 : Int32) (s0 : Int32) (V : sv_V) : Option (Int32 × sv_V) := if (V.1 16 6) = 0 then (if (l2 + s0) < l1 then (sx_lp7 (B_X3_takeFlags_58 N k4) N l1 l2 l3 l4 s0 (0 : Int32) V) else (some ((0 : Int32), V))) else (some ((0 : Int32), V))
set_option maxRecDepth 20000 in
theorem tB_X3_takeFlags_36 {g : sx_G} (hG : sx_Go g) {P : Option Value → sv_V → Prop} {r : Int32} {Vr : sv_V} (hP : P (some (.int r)) Vr) {N : Nat} {k4 : Int32 → Int32 → Int32 → sv_V → Option (Int32 × sv_V)} (hk4 : ∀ (l1 : Int32) (l2 : Int32) (l3 : Int32) (V : sv_V), k4 l1 l2 l3 V = some (r, Vr) → sv_N g qX3_takeFlags 2 4 [(0, .ref 16), (1, .int l1), (2, .int l2), (3, .int l3)] [] V P) {l1 : Int32} {l2 : Int32} {l3 : Int32} {l4 : Int32} {s0 : Int32} {V : sv_V} (h : B_X3_takeFlags_36 N k4 l1 l2 l3 l4 s0 V = some (r, Vr)) : sv_N g qX3_takeFlags 2 36 [(0, .ref 16), (1, .int l1), (2, .int l2), (3, .int l3), (4, .int l4)] [.int s0] V P := by
  unfold B_X3_takeFlags_36 at h
  refine sx_istore (pc := 36) (lo' := [(5, .int s0), (0, .ref 16), (1, .int l1), (2, .int l2), (3, .int l3), (4, .int l4)]) dX3_takeFlags_36 (by decide) rfl ?_
  refine sx_aload_n (pc := 38) dX3_takeFlags_38 sx_m1 ?_
  refine sv_getZ (pc := 39) hG dX3_takeFlags_39 f_3_69 lay_16 rfl ?_
  refine sx_if_ne (pc := 42) (tgt := 53) dX3_takeFlags_42 (by decide) (fun c7 => ?_) (fun c7 => ?_)
  · have h := sx_neg c7 h
    refine sx_iconst (pc := 53) (v := 0) dX3_takeFlags_53 (by decide) ?_
    exact sv_zret (pc := 54) dX3_takeFlags_54 rfl rfl h hP
  · have h := sx_pos c7 h
    refine sx_iload_n (pc := 45) dX3_takeFlags_45 sx_m3 ?_
    refine sx_iload (pc := 46) dX3_takeFlags_46 sx_m0 ?_
    refine sx_iadd (pc := 48) dX3_takeFlags_48 ?_
    refine sx_iload_n (pc := 49) dX3_takeFlags_49 sx_m2 ?_
    refine sx_icmp_lt (pc := 50) (tgt := 55) dX3_takeFlags_50 (by decide) (fun c8 => ?_) (fun c8 => ?_)
    · have h := sx_pos c8 h
      refine sx_iconst (pc := 55) (v := 0) dX3_takeFlags_55 (by decide) ?_
      refine sx_istore (pc := 56) (lo' := [(6, .int (0 : Int32)), (5, .int s0), (0, .ref 16), (1, .int l1), (2, .int l2), (3, .int l3), (4, .int l4)]) dX3_takeFlags_56 (by decide) rfl ?_
      refine sx_wk (sx_s1 sx_m2 (sx_s1 sx_m3 (sx_s1 sx_m4 (sx_s1 sx_m5 (sx_s1 sx_m6 (sx_s1 sx_m1 (sx_s1 sx_m0 sx_s0))))))) ?_
      exact tL_X3_takeFlags_58 hG hP hk4 N _ _ _ _ _ _ _ h
    · have h := sx_neg c8 h
      refine sx_iconst (pc := 53) (v := 0) dX3_takeFlags_53 (by decide) ?_
      exact sv_zret (pc := 54) dX3_takeFlags_54 rfl rfl h hP
def B_X3_takeFlags_4 (N : Nat) (k4 : Int32 → Int32 → Int32 → sv_V → Option (Int32 × sv_V)) (l1 : Int32) (l2 : Int32) (l3 : Int32) (V : sv_V) : Option (Int32 × sv_V) := if l1 ≤ l3 then (some ((1 : Int32), V)) else (if l1 ≤ l2 then (some ((1 : Int32), V)) else ((F_X3_takeU1  V).bind (fun (x13, V11) => if (x13 &&& (8 : Int32)) = 0 then (B_X3_takeFlags_36 N k4 l1 l2 l3 x13 (0 : Int32) V11) else ((F_X3_takeU1  V11).bind (fun (x17, V15) => B_X3_takeFlags_36 N k4 l1 l2 l3 x13 x17 V15)))))
set_option maxRecDepth 20000 in
theorem tB_X3_takeFlags_4 {g : sx_G} (hG : sx_Go g) {P : Option Value → sv_V → Prop} {r : Int32} {Vr : sv_V} (hP : P (some (.int r)) Vr) {N : Nat} {k4 : Int32 → Int32 → Int32 → sv_V → Option (Int32 × sv_V)} (hk4 : ∀ (l1 : Int32) (l2 : Int32) (l3 : Int32) (V : sv_V), k4 l1 l2 l3 V = some (r, Vr) → sv_N g qX3_takeFlags 2 4 [(0, .ref 16), (1, .int l1), (2, .int l2), (3, .int l3)] [] V P) {l1 : Int32} {l2 : Int32} {l3 : Int32} {V : sv_V} (h : B_X3_takeFlags_4 N k4 l1 l2 l3 V = some (r, Vr)) : sv_N g qX3_takeFlags 2 4 [(0, .ref 16), (1, .int l1), (2, .int l2), (3, .int l3)] [] V P := by
  unfold B_X3_takeFlags_4 at h
  refine sx_iload_n (pc := 4) dX3_takeFlags_4 sx_m3 ?_
  refine sx_iload_n (pc := 5) dX3_takeFlags_5 sx_m1 ?_
  refine sx_icmp_ge (pc := 6) (tgt := 95) dX3_takeFlags_6 (by decide) (fun c9 => ?_) (fun c9 => ?_)
  · have h := sx_pos c9 h
    refine sx_iconst (pc := 95) (v := 1) dX3_takeFlags_95 (by decide) ?_
    exact sv_zret (pc := 96) dX3_takeFlags_96 rfl rfl h hP
  · have h := sx_neg c9 h
    refine sx_iload_n (pc := 9) dX3_takeFlags_9 sx_m2 ?_
    refine sx_iload_n (pc := 10) dX3_takeFlags_10 sx_m1 ?_
    refine sx_icmp_ge (pc := 11) (tgt := 95) dX3_takeFlags_11 (by decide) (fun c10 => ?_) (fun c10 => ?_)
    · have h := sx_pos c10 h
      refine sx_iconst (pc := 95) (v := 1) dX3_takeFlags_95 (by decide) ?_
      exact sv_zret (pc := 96) dX3_takeFlags_96 rfl rfl h hP
    · have h := sx_neg c10 h
      refine sx_aload_n (pc := 14) dX3_takeFlags_14 sx_m0 ?_
      obtain ⟨⟨x13, V11⟩, g12, h⟩ := sx_bnd h
      refine sv_cV (pc := 15) (y := qX3_takeU1) (o := (some (.int x13))) (as := []) (V1 := V11) hG dX3_takeFlags_15 l_X3_121 y0X3_takeU1 yvX3_takeU1 rfl (Nat.le_of_ble_eq_true rfl) lay_16 kr_3 (by decide) (Nat.le_of_ble_eq_true rfl) rfl rfl rfl (t_X3_takeU1 hG ⟨rfl, rfl⟩ g12) ?_
      refine sx_istore (pc := 18) (lo' := [(4, .int x13), (0, .ref 16), (1, .int l1), (2, .int l2), (3, .int l3)]) dX3_takeFlags_18 (by decide) rfl ?_
      refine sx_iload (pc := 20) dX3_takeFlags_20 sx_m0 ?_
      refine sx_bipush (pc := 22) (v := 8) dX3_takeFlags_22 (by decide) ?_
      refine sx_iand (pc := 24) dX3_takeFlags_24 ?_
      refine sx_if_eq (pc := 25) (tgt := 35) dX3_takeFlags_25 (by decide) (fun c14 => ?_) (fun c14 => ?_)
      · have h := sx_pos c14 h
        refine sx_iconst (pc := 35) (v := 0) dX3_takeFlags_35 (by decide) ?_
        refine sx_wk (sx_s1 sx_m1 (sx_s1 sx_m2 (sx_s1 sx_m3 (sx_s1 sx_m4 (sx_s1 sx_m0 sx_s0))))) ?_
        exact tB_X3_takeFlags_36 hG hP hk4 h
      · have h := sx_neg c14 h
        refine sx_aload_n (pc := 28) dX3_takeFlags_28 sx_m1 ?_
        obtain ⟨⟨x17, V15⟩, g16, h⟩ := sx_bnd h
        refine sv_cV (pc := 29) (y := qX3_takeU1) (o := (some (.int x17))) (as := []) (V1 := V15) hG dX3_takeFlags_29 l_X3_121 y0X3_takeU1 yvX3_takeU1 rfl (Nat.le_of_ble_eq_true rfl) lay_16 kr_3 (by decide) (Nat.le_of_ble_eq_true rfl) rfl rfl rfl (t_X3_takeU1 hG ⟨rfl, rfl⟩ g16) ?_
        refine sx_goto (pc := 32) (tgt := 36) dX3_takeFlags_32 (by decide) ?_
        refine sx_wk (sx_s1 sx_m1 (sx_s1 sx_m2 (sx_s1 sx_m3 (sx_s1 sx_m4 (sx_s1 sx_m0 sx_s0))))) ?_
        exact tB_X3_takeFlags_36 hG hP hk4 h
theorem tL_X3_takeFlags_4 {g : sx_G} (hG : sx_Go g) {P : Option Value → sv_V → Prop} {r : Int32} {Vr : sv_V} (hP : P (some (.int r)) Vr) {N : Nat}   : ∀ (n : Nat) (l1 : Int32) (l2 : Int32) (l3 : Int32) (V : sv_V), sx_lp4 (B_X3_takeFlags_4 N ) n l1 l2 l3 V = some (r, Vr) → sv_N g qX3_takeFlags 2 4 [(0, .ref 16), (1, .int l1), (2, .int l2), (3, .int l3)] [] V P :=
  sx_lp4_ind (fun k0 ih _ _ _ V h => tB_X3_takeFlags_4 hG hP ih h)
def F_X3_takeFlags (N : Nat) (l1 : Int32) (V : sv_V) : Option (Int32 × sv_V) := sx_lp4 (B_X3_takeFlags_4 N ) N l1 (0 : Int32) (0 : Int32) V
set_option maxRecDepth 20000 in
theorem t_X3_takeFlags {g : sx_G} (hG : sx_Go g) {P : Option Value → sv_V → Prop} {r : Int32} {Vr : sv_V} (hP : P (some (.int r)) Vr) {N : Nat} {l1 : Int32} {V : sv_V} (h : F_X3_takeFlags N l1 V = some (r, Vr)) : sv_N g qX3_takeFlags 2 0 [(0, .ref 16), (1, .int l1)] [] V P := by
  unfold F_X3_takeFlags at h
  refine sx_iconst (pc := 0) (v := 0) dX3_takeFlags_0 (by decide) ?_
  refine sx_istore_n (pc := 1) (lo' := [(2, .int (0 : Int32)), (0, .ref 16), (1, .int l1)]) dX3_takeFlags_1 (by decide) rfl ?_
  refine sx_iconst (pc := 2) (v := 0) dX3_takeFlags_2 (by decide) ?_
  refine sx_istore_n (pc := 3) (lo' := [(3, .int (0 : Int32)), (2, .int (0 : Int32)), (0, .ref 16), (1, .int l1)]) dX3_takeFlags_3 (by decide) rfl ?_
  refine sx_wk (sx_s1 sx_m2 (sx_s1 sx_m3 (sx_s1 sx_m1 (sx_s1 sx_m0 sx_s0)))) ?_
  exact tL_X3_takeFlags_4 hG hP  N _ _ _ _ h
def ncX3_takePlaces : Nat := 70610073247653834366700631915207400895967114259075244426170187765201002777351754273491133159367085460423622779781408151590695567179367596685664064112049888862628275297157736257718424094741607036229641648756440204363115230445813543286275
theorem kcX3_takePlaces : CK cX3_takePlaces ncX3_takePlaces 98 := ⟨by decide +kernel, by decide +kernel⟩
theorem dX3_takePlaces_0 : decode cX3_takePlaces 0 = .ok (.iconst 0, 1) := dl_o3 kcX3_takePlaces (by decide +kernel)
theorem dX3_takePlaces_1 : decode cX3_takePlaces 1 = .ok (.istore 5, 2) := dl_o54 kcX3_takePlaces (by decide +kernel)
theorem dX3_takePlaces_3 : decode cX3_takePlaces 3 = .ok (.iconst 0, 1) := dl_o3 kcX3_takePlaces (by decide +kernel)
theorem dX3_takePlaces_4 : decode cX3_takePlaces 4 = .ok (.istore 6, 2) := dl_o54 kcX3_takePlaces (by decide +kernel)
theorem dX3_takePlaces_6 : decode cX3_takePlaces 6 = .ok (.iload 6, 2) := dl_o21 kcX3_takePlaces (by decide +kernel)
theorem dX3_takePlaces_8 : decode cX3_takePlaces 8 = .ok (.iload_n 2, 1) := dl_o28 kcX3_takePlaces (by decide +kernel)
theorem dX3_takePlaces_9 : decode cX3_takePlaces 9 = .ok (.if_icmp .ge 88, 3) := dl_o162 kcX3_takePlaces 88 (by decide +kernel) (by decide +kernel)
theorem dX3_takePlaces_12 : decode cX3_takePlaces 12 = .ok (.aload_n 0, 1) := dl_o42 kcX3_takePlaces (by decide +kernel)
theorem dX3_takePlaces_13 : decode cX3_takePlaces 13 = .ok (.getfield 20, 3) := dl_o180 kcX3_takePlaces (by decide +kernel)
theorem dX3_takePlaces_16 : decode cX3_takePlaces 16 = .ok (.iload 6, 2) := dl_o21 kcX3_takePlaces (by decide +kernel)
theorem dX3_takePlaces_18 : decode cX3_takePlaces 18 = .ok (.iaload, 1) := dl_o46 kcX3_takePlaces (by decide +kernel)
theorem dX3_takePlaces_19 : decode cX3_takePlaces 19 = .ok (.iload 4, 2) := dl_o21 kcX3_takePlaces (by decide +kernel)
theorem dX3_takePlaces_21 : decode cX3_takePlaces 21 = .ok (.iand, 1) := dl_o126 kcX3_takePlaces (by decide +kernel)
theorem dX3_takePlaces_22 : decode cX3_takePlaces 22 = .ok (.ifCond .eq 7, 3) := dl_o153 kcX3_takePlaces 7 (by decide +kernel) (by decide +kernel)
theorem dX3_takePlaces_25 : decode cX3_takePlaces 25 = .ok (.iconst 1, 1) := dl_o4 kcX3_takePlaces (by decide +kernel)
theorem dX3_takePlaces_26 : decode cX3_takePlaces 26 = .ok (.goto 4, 3) := dl_o167 kcX3_takePlaces 4 (by decide +kernel) (by decide +kernel)
theorem dX3_takePlaces_29 : decode cX3_takePlaces 29 = .ok (.iconst 0, 1) := dl_o3 kcX3_takePlaces (by decide +kernel)
theorem dX3_takePlaces_30 : decode cX3_takePlaces 30 = .ok (.istore 7, 2) := dl_o54 kcX3_takePlaces (by decide +kernel)
theorem dX3_takePlaces_32 : decode cX3_takePlaces 32 = .ok (.aload_n 0, 1) := dl_o42 kcX3_takePlaces (by decide +kernel)
theorem dX3_takePlaces_33 : decode cX3_takePlaces 33 = .ok (.getfield 20, 3) := dl_o180 kcX3_takePlaces (by decide +kernel)
theorem dX3_takePlaces_36 : decode cX3_takePlaces 36 = .ok (.iload 6, 2) := dl_o21 kcX3_takePlaces (by decide +kernel)
theorem dX3_takePlaces_38 : decode cX3_takePlaces 38 = .ok (.iaload, 1) := dl_o46 kcX3_takePlaces (by decide +kernel)
theorem dX3_takePlaces_39 : decode cX3_takePlaces 39 = .ok (.iload_n 3, 1) := dl_o29 kcX3_takePlaces (by decide +kernel)
theorem dX3_takePlaces_40 : decode cX3_takePlaces 40 = .ok (.iand, 1) := dl_o126 kcX3_takePlaces (by decide +kernel)
theorem dX3_takePlaces_41 : decode cX3_takePlaces 41 = .ok (.ifCond .eq 30, 3) := dl_o153 kcX3_takePlaces 30 (by decide +kernel) (by decide +kernel)
theorem dX3_takePlaces_44 : decode cX3_takePlaces 44 = .ok (.aload_n 0, 1) := dl_o42 kcX3_takePlaces (by decide +kernel)
theorem dX3_takePlaces_45 : decode cX3_takePlaces 45 = .ok (.invokevirtual 121, 3) := dl_o182 kcX3_takePlaces (by decide +kernel)
theorem dX3_takePlaces_48 : decode cX3_takePlaces 48 = .ok (.istore 8, 2) := dl_o54 kcX3_takePlaces (by decide +kernel)
theorem dX3_takePlaces_50 : decode cX3_takePlaces 50 = .ok (.iload 5, 2) := dl_o21 kcX3_takePlaces (by decide +kernel)
theorem dX3_takePlaces_52 : decode cX3_takePlaces 52 = .ok (.iload 7, 2) := dl_o21 kcX3_takePlaces (by decide +kernel)
theorem dX3_takePlaces_54 : decode cX3_takePlaces 54 = .ok (.ifCond .eq 8, 3) := dl_o153 kcX3_takePlaces 8 (by decide +kernel) (by decide +kernel)
theorem dX3_takePlaces_57 : decode cX3_takePlaces 57 = .ok (.iload 8, 2) := dl_o21 kcX3_takePlaces (by decide +kernel)
theorem dX3_takePlaces_59 : decode cX3_takePlaces 59 = .ok (.goto 6, 3) := dl_o167 kcX3_takePlaces 6 (by decide +kernel) (by decide +kernel)
theorem dX3_takePlaces_62 : decode cX3_takePlaces 62 = .ok (.iload 8, 2) := dl_o21 kcX3_takePlaces (by decide +kernel)
theorem dX3_takePlaces_64 : decode cX3_takePlaces 64 = .ok (.ineg, 1) := dl_o116 kcX3_takePlaces (by decide +kernel)
theorem dX3_takePlaces_65 : decode cX3_takePlaces 65 = .ok (.iadd, 1) := dl_o96 kcX3_takePlaces (by decide +kernel)
theorem dX3_takePlaces_66 : decode cX3_takePlaces 66 = .ok (.istore 5, 2) := dl_o54 kcX3_takePlaces (by decide +kernel)
theorem dX3_takePlaces_68 : decode cX3_takePlaces 68 = .ok (.goto 17, 3) := dl_o167 kcX3_takePlaces 17 (by decide +kernel) (by decide +kernel)
theorem dX3_takePlaces_71 : decode cX3_takePlaces 71 = .ok (.iload 7, 2) := dl_o21 kcX3_takePlaces (by decide +kernel)
theorem dX3_takePlaces_73 : decode cX3_takePlaces 73 = .ok (.ifCond .ne 12, 3) := dl_o154 kcX3_takePlaces 12 (by decide +kernel) (by decide +kernel)
theorem dX3_takePlaces_76 : decode cX3_takePlaces 76 = .ok (.iload 5, 2) := dl_o21 kcX3_takePlaces (by decide +kernel)
theorem dX3_takePlaces_78 : decode cX3_takePlaces 78 = .ok (.aload_n 0, 1) := dl_o42 kcX3_takePlaces (by decide +kernel)
theorem dX3_takePlaces_79 : decode cX3_takePlaces 79 = .ok (.invokevirtual 124, 3) := dl_o182 kcX3_takePlaces (by decide +kernel)
theorem dX3_takePlaces_82 : decode cX3_takePlaces 82 = .ok (.iadd, 1) := dl_o96 kcX3_takePlaces (by decide +kernel)
theorem dX3_takePlaces_83 : decode cX3_takePlaces 83 = .ok (.istore 5, 2) := dl_o54 kcX3_takePlaces (by decide +kernel)
theorem dX3_takePlaces_85 : decode cX3_takePlaces 85 = .ok (.aload_n 1, 1) := dl_o43 kcX3_takePlaces (by decide +kernel)
theorem dX3_takePlaces_86 : decode cX3_takePlaces 86 = .ok (.iload 6, 2) := dl_o21 kcX3_takePlaces (by decide +kernel)
theorem dX3_takePlaces_88 : decode cX3_takePlaces 88 = .ok (.iload 5, 2) := dl_o21 kcX3_takePlaces (by decide +kernel)
theorem dX3_takePlaces_90 : decode cX3_takePlaces 90 = .ok (.iastore, 1) := dl_o79 kcX3_takePlaces (by decide +kernel)
theorem dX3_takePlaces_91 : decode cX3_takePlaces 91 = .ok (.iinc 6 1, 3) := by decide +kernel
theorem dX3_takePlaces_94 : decode cX3_takePlaces 94 = .ok (.goto (-88), 3) := dl_o167 kcX3_takePlaces 65448 (by decide +kernel) (by decide +kernel)
theorem dX3_takePlaces_97 : decode cX3_takePlaces 97 = .ok (.return_, 1) := dl_o177 kcX3_takePlaces (by decide +kernel)
def B_X3_takePlaces_85 (N : Nat) (k6 : Nat → Int32 → Int32 → Int32 → Int32 → Int32 → sv_V → Option sv_V) (l1 : Nat) (l2 : Int32) (l3 : Int32) (l4 : Int32) (l5 : Int32) (l6 : Int32) (V : sv_V) : Option sv_V := (sv_len 0 l1).bind (fun n1 => if sx_in l6 n1 = true then sx_let (sv_I V l1 l6.toNatClampNeg l5) (fun V4 => sx_let (l6 + 1) (fun x5 => k6 l1 l2 l3 l4 l5 x5 V4)) else none)
set_option maxRecDepth 20000 in
theorem tB_X3_takePlaces_85 {g : sx_G} (hG : sx_Go g) {P : Option Value → sv_V → Prop} {Vr : sv_V} (hP : P none Vr) {N : Nat} {k6 : Nat → Int32 → Int32 → Int32 → Int32 → Int32 → sv_V → Option sv_V} (hk6 : ∀ (l1 : Nat) (l2 : Int32) (l3 : Int32) (l4 : Int32) (l5 : Int32) (l6 : Int32) (V : sv_V), k6 l1 l2 l3 l4 l5 l6 V = some Vr → sv_N g qX3_takePlaces 2 6 [(0, .ref 16), (1, .ref l1), (2, .int l2), (3, .int l3), (4, .int l4), (5, .int l5), (6, .int l6)] [] V P) {l1 : Nat} {l2 : Int32} {l3 : Int32} {l4 : Int32} {l5 : Int32} {l6 : Int32} {V : sv_V} (h : B_X3_takePlaces_85 N k6 l1 l2 l3 l4 l5 l6 V = some Vr) : sv_N g qX3_takePlaces 2 85 [(0, .ref 16), (1, .ref l1), (2, .int l2), (3, .int l3), (4, .int l4), (5, .int l5), (6, .int l6)] [] V P := by
  unfold B_X3_takePlaces_85 at h
  refine sx_aload_n (pc := 85) dX3_takePlaces_85 sx_m1 ?_
  refine sx_iload (pc := 86) dX3_takePlaces_86 sx_m6 ?_
  refine sx_iload (pc := 88) dX3_takePlaces_88 sx_m5 ?_
  obtain ⟨n1, g2, h⟩ := sx_bnd h
  obtain ⟨g3, h⟩ := sx_grd h
  obtain ⟨V4, hV4⟩ : ∃ z : sv_V, z = sv_I V l1 l6.toNatClampNeg l5 := ⟨_, rfl⟩
  have h := sx_letE hV4 h
  refine sv_iast (pc := 90) hG dX3_takePlaces_90 (sv_len_e g2) g3 hV4 ?_
  obtain ⟨x5, hx5⟩ : ∃ z : Int32, z = l6 + 1 := ⟨_, rfl⟩
  have h := sx_letE hx5 h
  refine sx_iinc (pc := 91) (v := x5) (lo' := [(6, .int x5), (0, .ref 16), (1, .ref l1), (2, .int l2), (3, .int l3), (4, .int l4), (5, .int l5)]) dX3_takePlaces_91 sx_m6 (by rw [hx5]; rfl) (by decide) rfl ?_
  refine sx_goto (pc := 94) (tgt := 6) dX3_takePlaces_94 (by decide) ?_
  refine sx_wk (sx_s1 sx_m1 (sx_s1 sx_m2 (sx_s1 sx_m3 (sx_s1 sx_m4 (sx_s1 sx_m5 (sx_s1 sx_m6 (sx_s1 sx_m0 sx_s0))))))) ?_
  exact hk6 _ _ _ _ _ _ _ h
def B_X3_takePlaces_65 (N : Nat) (k6 : Nat → Int32 → Int32 → Int32 → Int32 → Int32 → sv_V → Option sv_V) (l1 : Nat) (l2 : Int32) (l3 : Int32) (l4 : Int32) (l6 : Int32) (s0 : Int32) (s1 : Int32) (V : sv_V) : Option sv_V := sx_let (s0 + s1) (fun x6 => B_X3_takePlaces_85 N k6 l1 l2 l3 l4 x6 l6 V)
set_option maxRecDepth 20000 in
theorem tB_X3_takePlaces_65 {g : sx_G} (hG : sx_Go g) {P : Option Value → sv_V → Prop} {Vr : sv_V} (hP : P none Vr) {N : Nat} {k6 : Nat → Int32 → Int32 → Int32 → Int32 → Int32 → sv_V → Option sv_V} (hk6 : ∀ (l1 : Nat) (l2 : Int32) (l3 : Int32) (l4 : Int32) (l5 : Int32) (l6 : Int32) (V : sv_V), k6 l1 l2 l3 l4 l5 l6 V = some Vr → sv_N g qX3_takePlaces 2 6 [(0, .ref 16), (1, .ref l1), (2, .int l2), (3, .int l3), (4, .int l4), (5, .int l5), (6, .int l6)] [] V P) {l1 : Nat} {l2 : Int32} {l3 : Int32} {l4 : Int32} {l6 : Int32} {s0 : Int32} {s1 : Int32} {V : sv_V} (h : B_X3_takePlaces_65 N k6 l1 l2 l3 l4 l6 s0 s1 V = some Vr) : sv_N g qX3_takePlaces 2 65 [(0, .ref 16), (1, .ref l1), (2, .int l2), (3, .int l3), (4, .int l4), (6, .int l6)] [.int s1, .int s0] V P := by
  unfold B_X3_takePlaces_65 at h
  refine sx_iadd (pc := 65) dX3_takePlaces_65 ?_
  refine sv_tI (fun x6 hx6 => ?_)
  have h := sx_letE hx6 h
  refine sx_istore (pc := 66) (lo' := [(5, .int x6), (0, .ref 16), (1, .ref l1), (2, .int l2), (3, .int l3), (4, .int l4), (6, .int l6)]) dX3_takePlaces_66 (by decide) rfl ?_
  refine sx_goto (pc := 68) (tgt := 85) dX3_takePlaces_68 (by decide) ?_
  refine sx_wk (sx_s1 sx_m1 (sx_s1 sx_m2 (sx_s1 sx_m3 (sx_s1 sx_m4 (sx_s1 sx_m5 (sx_s1 sx_m0 (sx_s1 sx_m6 sx_s0))))))) ?_
  exact tB_X3_takePlaces_85 hG hP hk6 h
def B_X3_takePlaces_30 (N : Nat) (k6 : Nat → Int32 → Int32 → Int32 → Int32 → Int32 → sv_V → Option sv_V) (l1 : Nat) (l2 : Int32) (l3 : Int32) (l4 : Int32) (l5 : Int32) (l6 : Int32) (s0 : Int32) (V : sv_V) : Option sv_V := if sx_in l6 100 = true then if ((V.1 27 l6.toNatClampNeg) &&& l3) = 0 then (if s0 = 0 then ((F_X3_takeS2  V).bind (fun (x12, V10) => sx_let (l5 + x12) (fun x13 => B_X3_takePlaces_85 N k6 l1 l2 l3 l4 x13 l6 V10))) else (B_X3_takePlaces_85 N k6 l1 l2 l3 l4 l5 l6 V)) else ((F_X3_takeU1  V).bind (fun (x16, V14) => if s0 = 0 then (B_X3_takePlaces_65 N k6 l1 l2 l3 l4 l6 l5 (-x16) V14) else (B_X3_takePlaces_65 N k6 l1 l2 l3 l4 l6 l5 x16 V14))) else none
set_option maxRecDepth 20000 in
theorem tB_X3_takePlaces_30 {g : sx_G} (hG : sx_Go g) {P : Option Value → sv_V → Prop} {Vr : sv_V} (hP : P none Vr) {N : Nat} {k6 : Nat → Int32 → Int32 → Int32 → Int32 → Int32 → sv_V → Option sv_V} (hk6 : ∀ (l1 : Nat) (l2 : Int32) (l3 : Int32) (l4 : Int32) (l5 : Int32) (l6 : Int32) (V : sv_V), k6 l1 l2 l3 l4 l5 l6 V = some Vr → sv_N g qX3_takePlaces 2 6 [(0, .ref 16), (1, .ref l1), (2, .int l2), (3, .int l3), (4, .int l4), (5, .int l5), (6, .int l6)] [] V P) {l1 : Nat} {l2 : Int32} {l3 : Int32} {l4 : Int32} {l5 : Int32} {l6 : Int32} {s0 : Int32} {V : sv_V} (h : B_X3_takePlaces_30 N k6 l1 l2 l3 l4 l5 l6 s0 V = some Vr) : sv_N g qX3_takePlaces 2 30 [(0, .ref 16), (1, .ref l1), (2, .int l2), (3, .int l3), (4, .int l4), (5, .int l5), (6, .int l6)] [.int s0] V P := by
  unfold B_X3_takePlaces_30 at h
  refine sx_istore (pc := 30) (lo' := [(7, .int s0), (0, .ref 16), (1, .ref l1), (2, .int l2), (3, .int l3), (4, .int l4), (5, .int l5), (6, .int l6)]) dX3_takePlaces_30 (by decide) rfl ?_
  refine sx_aload_n (pc := 32) dX3_takePlaces_32 sx_m1 ?_
  refine sv_getA (pc := 33) hG dX3_takePlaces_33 f_3_20 lay_16 rfl cr_16_2 ?_
  refine sx_iload (pc := 36) dX3_takePlaces_36 sx_m7 ?_
  obtain ⟨g7, h⟩ := sx_grd h
  refine sv_iald (pc := 38) hG dX3_takePlaces_38 lay_27 g7 ?_
  refine sx_iload_n (pc := 39) dX3_takePlaces_39 sx_m4 ?_
  refine sx_iand (pc := 40) dX3_takePlaces_40 ?_
  refine sx_if_eq (pc := 41) (tgt := 71) dX3_takePlaces_41 (by decide) (fun c8 => ?_) (fun c8 => ?_)
  · have h := sx_pos c8 h
    refine sx_iload (pc := 71) dX3_takePlaces_71 sx_m0 ?_
    refine sx_if_ne (pc := 73) (tgt := 85) dX3_takePlaces_73 (by decide) (fun c9 => ?_) (fun c9 => ?_)
    · have h := sx_neg c9 h
      refine sx_wk (sx_s1 sx_m1 (sx_s1 sx_m2 (sx_s1 sx_m3 (sx_s1 sx_m4 (sx_s1 sx_m5 (sx_s1 sx_m6 (sx_s1 sx_m7 sx_s0))))))) ?_
      exact tB_X3_takePlaces_85 hG hP hk6 h
    · have h := sx_pos c9 h
      refine sx_iload (pc := 76) dX3_takePlaces_76 sx_m6 ?_
      refine sx_aload_n (pc := 78) dX3_takePlaces_78 sx_m1 ?_
      obtain ⟨⟨x12, V10⟩, g11, h⟩ := sx_bnd h
      refine sv_cV (pc := 79) (y := qX3_takeS2) (o := (some (.int x12))) (as := []) (V1 := V10) hG dX3_takePlaces_79 l_X3_124 y0X3_takeS2 yvX3_takeS2 rfl (Nat.le_of_ble_eq_true rfl) lay_16 kr_3 (by decide) (Nat.le_of_ble_eq_true rfl) rfl rfl rfl (t_X3_takeS2 hG ⟨rfl, rfl⟩ g11) ?_
      refine sx_iadd (pc := 82) dX3_takePlaces_82 ?_
      refine sv_tI (fun x13 hx13 => ?_)
      have h := sx_letE hx13 h
      refine sx_istore (pc := 83) (lo' := [(5, .int x13), (7, .int s0), (0, .ref 16), (1, .ref l1), (2, .int l2), (3, .int l3), (4, .int l4), (6, .int l6)]) dX3_takePlaces_83 (by decide) rfl ?_
      refine sx_wk (sx_s1 sx_m2 (sx_s1 sx_m3 (sx_s1 sx_m4 (sx_s1 sx_m5 (sx_s1 sx_m6 (sx_s1 sx_m0 (sx_s1 sx_m7 sx_s0))))))) ?_
      exact tB_X3_takePlaces_85 hG hP hk6 h
  · have h := sx_neg c8 h
    refine sx_aload_n (pc := 44) dX3_takePlaces_44 sx_m1 ?_
    obtain ⟨⟨x16, V14⟩, g15, h⟩ := sx_bnd h
    refine sv_cV (pc := 45) (y := qX3_takeU1) (o := (some (.int x16))) (as := []) (V1 := V14) hG dX3_takePlaces_45 l_X3_121 y0X3_takeU1 yvX3_takeU1 rfl (Nat.le_of_ble_eq_true rfl) lay_16 kr_3 (by decide) (Nat.le_of_ble_eq_true rfl) rfl rfl rfl (t_X3_takeU1 hG ⟨rfl, rfl⟩ g15) ?_
    refine sx_istore (pc := 48) (lo' := [(8, .int x16), (7, .int s0), (0, .ref 16), (1, .ref l1), (2, .int l2), (3, .int l3), (4, .int l4), (5, .int l5), (6, .int l6)]) dX3_takePlaces_48 (by decide) rfl ?_
    refine sx_iload (pc := 50) dX3_takePlaces_50 sx_m7 ?_
    refine sx_iload (pc := 52) dX3_takePlaces_52 sx_m1 ?_
    refine sx_if_eq (pc := 54) (tgt := 62) dX3_takePlaces_54 (by decide) (fun c17 => ?_) (fun c17 => ?_)
    · have h := sx_pos c17 h
      refine sx_iload (pc := 62) dX3_takePlaces_62 sx_m0 ?_
      refine sx_ineg (pc := 64) dX3_takePlaces_64 ?_
      refine sx_wk (sx_s1 sx_m2 (sx_s1 sx_m3 (sx_s1 sx_m4 (sx_s1 sx_m5 (sx_s1 sx_m6 (sx_s1 sx_m8 sx_s0)))))) ?_
      exact tB_X3_takePlaces_65 hG hP hk6 h
    · have h := sx_neg c17 h
      refine sx_iload (pc := 57) dX3_takePlaces_57 sx_m0 ?_
      refine sx_goto (pc := 59) (tgt := 65) dX3_takePlaces_59 (by decide) ?_
      refine sx_wk (sx_s1 sx_m2 (sx_s1 sx_m3 (sx_s1 sx_m4 (sx_s1 sx_m5 (sx_s1 sx_m6 (sx_s1 sx_m8 sx_s0)))))) ?_
      exact tB_X3_takePlaces_65 hG hP hk6 h
def B_X3_takePlaces_6 (N : Nat) (k6 : Nat → Int32 → Int32 → Int32 → Int32 → Int32 → sv_V → Option sv_V) (l1 : Nat) (l2 : Int32) (l3 : Int32) (l4 : Int32) (l5 : Int32) (l6 : Int32) (V : sv_V) : Option sv_V := if l2 ≤ l6 then (some V) else (if sx_in l6 100 = true then if ((V.1 27 l6.toNatClampNeg) &&& l4) = 0 then (B_X3_takePlaces_30 N k6 l1 l2 l3 l4 l5 l6 (0 : Int32) V) else (B_X3_takePlaces_30 N k6 l1 l2 l3 l4 l5 l6 (1 : Int32) V) else none)
set_option maxRecDepth 20000 in
theorem tB_X3_takePlaces_6 {g : sx_G} (hG : sx_Go g) {P : Option Value → sv_V → Prop} {Vr : sv_V} (hP : P none Vr) {N : Nat} {k6 : Nat → Int32 → Int32 → Int32 → Int32 → Int32 → sv_V → Option sv_V} (hk6 : ∀ (l1 : Nat) (l2 : Int32) (l3 : Int32) (l4 : Int32) (l5 : Int32) (l6 : Int32) (V : sv_V), k6 l1 l2 l3 l4 l5 l6 V = some Vr → sv_N g qX3_takePlaces 2 6 [(0, .ref 16), (1, .ref l1), (2, .int l2), (3, .int l3), (4, .int l4), (5, .int l5), (6, .int l6)] [] V P) {l1 : Nat} {l2 : Int32} {l3 : Int32} {l4 : Int32} {l5 : Int32} {l6 : Int32} {V : sv_V} (h : B_X3_takePlaces_6 N k6 l1 l2 l3 l4 l5 l6 V = some Vr) : sv_N g qX3_takePlaces 2 6 [(0, .ref 16), (1, .ref l1), (2, .int l2), (3, .int l3), (4, .int l4), (5, .int l5), (6, .int l6)] [] V P := by
  unfold B_X3_takePlaces_6 at h
  refine sx_iload (pc := 6) dX3_takePlaces_6 sx_m6 ?_
  refine sx_iload_n (pc := 8) dX3_takePlaces_8 sx_m2 ?_
  refine sx_icmp_ge (pc := 9) (tgt := 97) dX3_takePlaces_9 (by decide) (fun c18 => ?_) (fun c18 => ?_)
  · have h := sx_pos c18 h
    exact sv_vret (pc := 97) dX3_takePlaces_97 rfl h hP
  · have h := sx_neg c18 h
    refine sx_aload_n (pc := 12) dX3_takePlaces_12 sx_m0 ?_
    refine sv_getA (pc := 13) hG dX3_takePlaces_13 f_3_20 lay_16 rfl cr_16_2 ?_
    refine sx_iload (pc := 16) dX3_takePlaces_16 sx_m6 ?_
    obtain ⟨g19, h⟩ := sx_grd h
    refine sv_iald (pc := 18) hG dX3_takePlaces_18 lay_27 g19 ?_
    refine sx_iload (pc := 19) dX3_takePlaces_19 sx_m4 ?_
    refine sx_iand (pc := 21) dX3_takePlaces_21 ?_
    refine sx_if_eq (pc := 22) (tgt := 29) dX3_takePlaces_22 (by decide) (fun c20 => ?_) (fun c20 => ?_)
    · have h := sx_pos c20 h
      refine sx_iconst (pc := 29) (v := 0) dX3_takePlaces_29 (by decide) ?_
      refine sx_wk (sx_s1 sx_m0 (sx_s1 sx_m1 (sx_s1 sx_m2 (sx_s1 sx_m3 (sx_s1 sx_m4 (sx_s1 sx_m5 (sx_s1 sx_m6 sx_s0))))))) ?_
      exact tB_X3_takePlaces_30 hG hP hk6 h
    · have h := sx_neg c20 h
      refine sx_iconst (pc := 25) (v := 1) dX3_takePlaces_25 (by decide) ?_
      refine sx_goto (pc := 26) (tgt := 30) dX3_takePlaces_26 (by decide) ?_
      refine sx_wk (sx_s1 sx_m0 (sx_s1 sx_m1 (sx_s1 sx_m2 (sx_s1 sx_m3 (sx_s1 sx_m4 (sx_s1 sx_m5 (sx_s1 sx_m6 sx_s0))))))) ?_
      exact tB_X3_takePlaces_30 hG hP hk6 h
theorem tL_X3_takePlaces_6 {g : sx_G} (hG : sx_Go g) {P : Option Value → sv_V → Prop} {Vr : sv_V} (hP : P none Vr) {N : Nat}   : ∀ (n : Nat) (l1 : Nat) (l2 : Int32) (l3 : Int32) (l4 : Int32) (l5 : Int32) (l6 : Int32) (V : sv_V), sx_lp7 (B_X3_takePlaces_6 N ) n l1 l2 l3 l4 l5 l6 V = some Vr → sv_N g qX3_takePlaces 2 6 [(0, .ref 16), (1, .ref l1), (2, .int l2), (3, .int l3), (4, .int l4), (5, .int l5), (6, .int l6)] [] V P :=
  sx_lp7_ind (fun k0 ih _ _ _ _ _ _ V h => tB_X3_takePlaces_6 hG hP ih h)
def F_X3_takePlaces (N : Nat) (l1 : Nat) (l2 : Int32) (l3 : Int32) (l4 : Int32) (V : sv_V) : Option sv_V := sx_lp7 (B_X3_takePlaces_6 N ) N l1 l2 l3 l4 (0 : Int32) (0 : Int32) V
set_option maxRecDepth 20000 in
theorem t_X3_takePlaces {g : sx_G} (hG : sx_Go g) {P : Option Value → sv_V → Prop} {Vr : sv_V} (hP : P none Vr) {N : Nat} {l1 : Nat} {l2 : Int32} {l3 : Int32} {l4 : Int32} {V : sv_V} (h : F_X3_takePlaces N l1 l2 l3 l4 V = some Vr) : sv_N g qX3_takePlaces 2 0 [(0, .ref 16), (1, .ref l1), (2, .int l2), (3, .int l3), (4, .int l4)] [] V P := by
  unfold F_X3_takePlaces at h
  refine sx_iconst (pc := 0) (v := 0) dX3_takePlaces_0 (by decide) ?_
  refine sx_istore (pc := 1) (lo' := [(5, .int (0 : Int32)), (0, .ref 16), (1, .ref l1), (2, .int l2), (3, .int l3), (4, .int l4)]) dX3_takePlaces_1 (by decide) rfl ?_
  refine sx_iconst (pc := 3) (v := 0) dX3_takePlaces_3 (by decide) ?_
  refine sx_istore (pc := 4) (lo' := [(6, .int (0 : Int32)), (5, .int (0 : Int32)), (0, .ref 16), (1, .ref l1), (2, .int l2), (3, .int l3), (4, .int l4)]) dX3_takePlaces_4 (by decide) rfl ?_
  refine sx_wk (sx_s1 sx_m2 (sx_s1 sx_m3 (sx_s1 sx_m4 (sx_s1 sx_m5 (sx_s1 sx_m6 (sx_s1 sx_m1 (sx_s1 sx_m0 sx_s0))))))) ?_
  exact tL_X3_takePlaces_6 hG hP  N _ _ _ _ _ _ _ h
def ncX3_takePart : Nat := 18544266203936974788716143919598105768332334630518962924985655761676932238434398461182622735877124945780432031096192280403183653940117753158801847565478895949796893198572131667879240201303923224471715990899319620451413012984688028537547675397664309146086272520225033476223580954794798815398769994214821330324231165868860491478736170920631418477459668010717743519175061131672988624014016383363297226988196362849758831835809508499721047770942361795453601371482339566916723032425747354045883193558458723669830836622930490989302193229558080960794708636545942522458741681396322983449348917880564266
theorem kcX3_takePart : CK cX3_takePart ncX3_takePart 246 := ⟨by decide +kernel, by decide +kernel⟩
theorem dX3_takePart_0 : decode cX3_takePart 0 = .ok (.aload_n 0, 1) := dl_o42 kcX3_takePart (by decide +kernel)
theorem dX3_takePart_1 : decode cX3_takePart 1 = .ok (.aload_n 0, 1) := dl_o42 kcX3_takePart (by decide +kernel)
theorem dX3_takePart_2 : decode cX3_takePart 2 = .ok (.invokevirtual 89, 3) := dl_o182 kcX3_takePart (by decide +kernel)
theorem dX3_takePart_5 : decode cX3_takePart 5 = .ok (.putfield 133, 3) := dl_o181 kcX3_takePart (by decide +kernel)
theorem dX3_takePart_8 : decode cX3_takePart 8 = .ok (.aload_n 0, 1) := dl_o42 kcX3_takePart (by decide +kernel)
theorem dX3_takePart_9 : decode cX3_takePart 9 = .ok (.aload_n 0, 1) := dl_o42 kcX3_takePart (by decide +kernel)
theorem dX3_takePart_10 : decode cX3_takePart 10 = .ok (.invokevirtual 89, 3) := dl_o182 kcX3_takePart (by decide +kernel)
theorem dX3_takePart_13 : decode cX3_takePart 13 = .ok (.putfield 130, 3) := dl_o181 kcX3_takePart (by decide +kernel)
theorem dX3_takePart_16 : decode cX3_takePart 16 = .ok (.aload_n 0, 1) := dl_o42 kcX3_takePart (by decide +kernel)
theorem dX3_takePart_17 : decode cX3_takePart 17 = .ok (.getfield 133, 3) := dl_o180 kcX3_takePart (by decide +kernel)
theorem dX3_takePart_20 : decode cX3_takePart 20 = .ok (.iconst 1, 1) := dl_o4 kcX3_takePart (by decide +kernel)
theorem dX3_takePart_21 : decode cX3_takePart 21 = .ok (.iand, 1) := dl_o126 kcX3_takePart (by decide +kernel)
theorem dX3_takePart_22 : decode cX3_takePart 22 = .ok (.ifCond .eq 7, 3) := dl_o153 kcX3_takePart 7 (by decide +kernel) (by decide +kernel)
theorem dX3_takePart_25 : decode cX3_takePart 25 = .ok (.iconst 1, 1) := dl_o4 kcX3_takePart (by decide +kernel)
theorem dX3_takePart_26 : decode cX3_takePart 26 = .ok (.goto 4, 3) := dl_o167 kcX3_takePart 4 (by decide +kernel) (by decide +kernel)
theorem dX3_takePart_29 : decode cX3_takePart 29 = .ok (.iconst 0, 1) := dl_o3 kcX3_takePart (by decide +kernel)
theorem dX3_takePart_30 : decode cX3_takePart 30 = .ok (.istore_n 1, 1) := dl_o60 kcX3_takePart (by decide +kernel)
theorem dX3_takePart_31 : decode cX3_takePart 31 = .ok (.aload_n 0, 1) := dl_o42 kcX3_takePart (by decide +kernel)
theorem dX3_takePart_32 : decode cX3_takePart 32 = .ok (.iload_n 1, 1) := dl_o27 kcX3_takePart (by decide +kernel)
theorem dX3_takePart_33 : decode cX3_takePart 33 = .ok (.ifCond .eq 10, 3) := dl_o153 kcX3_takePart 10 (by decide +kernel) (by decide +kernel)
theorem dX3_takePart_36 : decode cX3_takePart 36 = .ok (.aload_n 0, 1) := dl_o42 kcX3_takePart (by decide +kernel)
theorem dX3_takePart_37 : decode cX3_takePart 37 = .ok (.invokevirtual 89, 3) := dl_o182 kcX3_takePart (by decide +kernel)
theorem dX3_takePart_40 : decode cX3_takePart 40 = .ok (.goto 7, 3) := dl_o167 kcX3_takePart 7 (by decide +kernel) (by decide +kernel)
theorem dX3_takePart_43 : decode cX3_takePart 43 = .ok (.aload_n 0, 1) := dl_o42 kcX3_takePart (by decide +kernel)
theorem dX3_takePart_44 : decode cX3_takePart 44 = .ok (.invokevirtual 121, 3) := dl_o182 kcX3_takePart (by decide +kernel)
theorem dX3_takePart_47 : decode cX3_takePart 47 = .ok (.putfield 136, 3) := dl_o181 kcX3_takePart (by decide +kernel)
theorem dX3_takePart_50 : decode cX3_takePart 50 = .ok (.aload_n 0, 1) := dl_o42 kcX3_takePart (by decide +kernel)
theorem dX3_takePart_51 : decode cX3_takePart 51 = .ok (.iload_n 1, 1) := dl_o27 kcX3_takePart (by decide +kernel)
theorem dX3_takePart_52 : decode cX3_takePart 52 = .ok (.ifCond .eq 10, 3) := dl_o153 kcX3_takePart 10 (by decide +kernel) (by decide +kernel)
theorem dX3_takePart_55 : decode cX3_takePart 55 = .ok (.aload_n 0, 1) := dl_o42 kcX3_takePart (by decide +kernel)
theorem dX3_takePart_56 : decode cX3_takePart 56 = .ok (.invokevirtual 89, 3) := dl_o182 kcX3_takePart (by decide +kernel)
theorem dX3_takePart_59 : decode cX3_takePart 59 = .ok (.goto 7, 3) := dl_o167 kcX3_takePart 7 (by decide +kernel) (by decide +kernel)
theorem dX3_takePart_62 : decode cX3_takePart 62 = .ok (.aload_n 0, 1) := dl_o42 kcX3_takePart (by decide +kernel)
theorem dX3_takePart_63 : decode cX3_takePart 63 = .ok (.invokevirtual 121, 3) := dl_o182 kcX3_takePart (by decide +kernel)
theorem dX3_takePart_66 : decode cX3_takePart 66 = .ok (.putfield 139, 3) := dl_o181 kcX3_takePart (by decide +kernel)
theorem dX3_takePart_69 : decode cX3_takePart 69 = .ok (.aload_n 0, 1) := dl_o42 kcX3_takePart (by decide +kernel)
theorem dX3_takePart_70 : decode cX3_takePart 70 = .ok (.getfield 133, 3) := dl_o180 kcX3_takePart (by decide +kernel)
theorem dX3_takePart_73 : decode cX3_takePart 73 = .ok (.iconst 2, 1) := dl_o5 kcX3_takePart (by decide +kernel)
theorem dX3_takePart_74 : decode cX3_takePart 74 = .ok (.iand, 1) := dl_o126 kcX3_takePart (by decide +kernel)
theorem dX3_takePart_75 : decode cX3_takePart 75 = .ok (.ifCond .eq 45, 3) := dl_o153 kcX3_takePart 45 (by decide +kernel) (by decide +kernel)
theorem dX3_takePart_78 : decode cX3_takePart 78 = .ok (.aload_n 0, 1) := dl_o42 kcX3_takePart (by decide +kernel)
theorem dX3_takePart_79 : decode cX3_takePart 79 = .ok (.iload_n 1, 1) := dl_o27 kcX3_takePart (by decide +kernel)
theorem dX3_takePart_80 : decode cX3_takePart 80 = .ok (.ifCond .eq 11, 3) := dl_o153 kcX3_takePart 11 (by decide +kernel) (by decide +kernel)
theorem dX3_takePart_83 : decode cX3_takePart 83 = .ok (.aload_n 0, 1) := dl_o42 kcX3_takePart (by decide +kernel)
theorem dX3_takePart_84 : decode cX3_takePart 84 = .ok (.getfield 136, 3) := dl_o180 kcX3_takePart (by decide +kernel)
theorem dX3_takePart_87 : decode cX3_takePart 87 = .ok (.i2s, 1) := dl_o147 kcX3_takePart (by decide +kernel)
theorem dX3_takePart_88 : decode cX3_takePart 88 = .ok (.goto 8, 3) := dl_o167 kcX3_takePart 8 (by decide +kernel) (by decide +kernel)
theorem dX3_takePart_91 : decode cX3_takePart 91 = .ok (.aload_n 0, 1) := dl_o42 kcX3_takePart (by decide +kernel)
theorem dX3_takePart_92 : decode cX3_takePart 92 = .ok (.getfield 136, 3) := dl_o180 kcX3_takePart (by decide +kernel)
theorem dX3_takePart_95 : decode cX3_takePart 95 = .ok (.i2b, 1) := dl_o145 kcX3_takePart (by decide +kernel)
theorem dX3_takePart_96 : decode cX3_takePart 96 = .ok (.putfield 136, 3) := dl_o181 kcX3_takePart (by decide +kernel)
theorem dX3_takePart_99 : decode cX3_takePart 99 = .ok (.aload_n 0, 1) := dl_o42 kcX3_takePart (by decide +kernel)
theorem dX3_takePart_100 : decode cX3_takePart 100 = .ok (.iload_n 1, 1) := dl_o27 kcX3_takePart (by decide +kernel)
theorem dX3_takePart_101 : decode cX3_takePart 101 = .ok (.ifCond .eq 11, 3) := dl_o153 kcX3_takePart 11 (by decide +kernel) (by decide +kernel)
theorem dX3_takePart_104 : decode cX3_takePart 104 = .ok (.aload_n 0, 1) := dl_o42 kcX3_takePart (by decide +kernel)
theorem dX3_takePart_105 : decode cX3_takePart 105 = .ok (.getfield 139, 3) := dl_o180 kcX3_takePart (by decide +kernel)
theorem dX3_takePart_108 : decode cX3_takePart 108 = .ok (.i2s, 1) := dl_o147 kcX3_takePart (by decide +kernel)
theorem dX3_takePart_109 : decode cX3_takePart 109 = .ok (.goto 8, 3) := dl_o167 kcX3_takePart 8 (by decide +kernel) (by decide +kernel)
theorem dX3_takePart_112 : decode cX3_takePart 112 = .ok (.aload_n 0, 1) := dl_o42 kcX3_takePart (by decide +kernel)
theorem dX3_takePart_113 : decode cX3_takePart 113 = .ok (.getfield 139, 3) := dl_o180 kcX3_takePart (by decide +kernel)
theorem dX3_takePart_116 : decode cX3_takePart 116 = .ok (.i2b, 1) := dl_o145 kcX3_takePart (by decide +kernel)
theorem dX3_takePart_117 : decode cX3_takePart 117 = .ok (.putfield 139, 3) := dl_o181 kcX3_takePart (by decide +kernel)
theorem dX3_takePart_120 : decode cX3_takePart 120 = .ok (.aload_n 0, 1) := dl_o42 kcX3_takePart (by decide +kernel)
theorem dX3_takePart_121 : decode cX3_takePart 121 = .ok (.sipush 16384, 3) := dl_o17 kcX3_takePart 16384 (by decide +kernel) (by decide +kernel)
theorem dX3_takePart_124 : decode cX3_takePart 124 = .ok (.putfield 142, 3) := dl_o181 kcX3_takePart (by decide +kernel)
theorem dX3_takePart_127 : decode cX3_takePart 127 = .ok (.aload_n 0, 1) := dl_o42 kcX3_takePart (by decide +kernel)
theorem dX3_takePart_128 : decode cX3_takePart 128 = .ok (.iconst 0, 1) := dl_o3 kcX3_takePart (by decide +kernel)
theorem dX3_takePart_129 : decode cX3_takePart 129 = .ok (.putfield 145, 3) := dl_o181 kcX3_takePart (by decide +kernel)
theorem dX3_takePart_132 : decode cX3_takePart 132 = .ok (.aload_n 0, 1) := dl_o42 kcX3_takePart (by decide +kernel)
theorem dX3_takePart_133 : decode cX3_takePart 133 = .ok (.iconst 0, 1) := dl_o3 kcX3_takePart (by decide +kernel)
theorem dX3_takePart_134 : decode cX3_takePart 134 = .ok (.putfield 148, 3) := dl_o181 kcX3_takePart (by decide +kernel)
theorem dX3_takePart_137 : decode cX3_takePart 137 = .ok (.aload_n 0, 1) := dl_o42 kcX3_takePart (by decide +kernel)
theorem dX3_takePart_138 : decode cX3_takePart 138 = .ok (.sipush 16384, 3) := dl_o17 kcX3_takePart 16384 (by decide +kernel) (by decide +kernel)
theorem dX3_takePart_141 : decode cX3_takePart 141 = .ok (.putfield 151, 3) := dl_o181 kcX3_takePart (by decide +kernel)
theorem dX3_takePart_144 : decode cX3_takePart 144 = .ok (.aload_n 0, 1) := dl_o42 kcX3_takePart (by decide +kernel)
theorem dX3_takePart_145 : decode cX3_takePart 145 = .ok (.getfield 133, 3) := dl_o180 kcX3_takePart (by decide +kernel)
theorem dX3_takePart_148 : decode cX3_takePart 148 = .ok (.bipush 8, 2) := dl_o16 kcX3_takePart 8 (by decide +kernel) (by decide +kernel)
theorem dX3_takePart_150 : decode cX3_takePart 150 = .ok (.iand, 1) := dl_o126 kcX3_takePart (by decide +kernel)
theorem dX3_takePart_151 : decode cX3_takePart 151 = .ok (.ifCond .eq 22, 3) := dl_o153 kcX3_takePart 22 (by decide +kernel) (by decide +kernel)
theorem dX3_takePart_154 : decode cX3_takePart 154 = .ok (.aload_n 0, 1) := dl_o42 kcX3_takePart (by decide +kernel)
theorem dX3_takePart_155 : decode cX3_takePart 155 = .ok (.aload_n 0, 1) := dl_o42 kcX3_takePart (by decide +kernel)
theorem dX3_takePart_156 : decode cX3_takePart 156 = .ok (.invokevirtual 124, 3) := dl_o182 kcX3_takePart (by decide +kernel)
theorem dX3_takePart_159 : decode cX3_takePart 159 = .ok (.putfield 142, 3) := dl_o181 kcX3_takePart (by decide +kernel)
theorem dX3_takePart_162 : decode cX3_takePart 162 = .ok (.aload_n 0, 1) := dl_o42 kcX3_takePart (by decide +kernel)
theorem dX3_takePart_163 : decode cX3_takePart 163 = .ok (.aload_n 0, 1) := dl_o42 kcX3_takePart (by decide +kernel)
theorem dX3_takePart_164 : decode cX3_takePart 164 = .ok (.getfield 142, 3) := dl_o180 kcX3_takePart (by decide +kernel)
theorem dX3_takePart_167 : decode cX3_takePart 167 = .ok (.putfield 151, 3) := dl_o181 kcX3_takePart (by decide +kernel)
theorem dX3_takePart_170 : decode cX3_takePart 170 = .ok (.goto 75, 3) := dl_o167 kcX3_takePart 75 (by decide +kernel) (by decide +kernel)
theorem dX3_takePart_173 : decode cX3_takePart 173 = .ok (.aload_n 0, 1) := dl_o42 kcX3_takePart (by decide +kernel)
theorem dX3_takePart_174 : decode cX3_takePart 174 = .ok (.getfield 133, 3) := dl_o180 kcX3_takePart (by decide +kernel)
theorem dX3_takePart_177 : decode cX3_takePart 177 = .ok (.bipush 64, 2) := dl_o16 kcX3_takePart 64 (by decide +kernel) (by decide +kernel)
theorem dX3_takePart_179 : decode cX3_takePart 179 = .ok (.iand, 1) := dl_o126 kcX3_takePart (by decide +kernel)
theorem dX3_takePart_180 : decode cX3_takePart 180 = .ok (.ifCond .eq 22, 3) := dl_o153 kcX3_takePart 22 (by decide +kernel) (by decide +kernel)
theorem dX3_takePart_183 : decode cX3_takePart 183 = .ok (.aload_n 0, 1) := dl_o42 kcX3_takePart (by decide +kernel)
theorem dX3_takePart_184 : decode cX3_takePart 184 = .ok (.aload_n 0, 1) := dl_o42 kcX3_takePart (by decide +kernel)
theorem dX3_takePart_185 : decode cX3_takePart 185 = .ok (.invokevirtual 124, 3) := dl_o182 kcX3_takePart (by decide +kernel)
theorem dX3_takePart_188 : decode cX3_takePart 188 = .ok (.putfield 142, 3) := dl_o181 kcX3_takePart (by decide +kernel)
theorem dX3_takePart_191 : decode cX3_takePart 191 = .ok (.aload_n 0, 1) := dl_o42 kcX3_takePart (by decide +kernel)
theorem dX3_takePart_192 : decode cX3_takePart 192 = .ok (.aload_n 0, 1) := dl_o42 kcX3_takePart (by decide +kernel)
theorem dX3_takePart_193 : decode cX3_takePart 193 = .ok (.invokevirtual 124, 3) := dl_o182 kcX3_takePart (by decide +kernel)
theorem dX3_takePart_196 : decode cX3_takePart 196 = .ok (.putfield 151, 3) := dl_o181 kcX3_takePart (by decide +kernel)
theorem dX3_takePart_199 : decode cX3_takePart 199 = .ok (.goto 46, 3) := dl_o167 kcX3_takePart 46 (by decide +kernel) (by decide +kernel)
theorem dX3_takePart_202 : decode cX3_takePart 202 = .ok (.aload_n 0, 1) := dl_o42 kcX3_takePart (by decide +kernel)
theorem dX3_takePart_203 : decode cX3_takePart 203 = .ok (.getfield 133, 3) := dl_o180 kcX3_takePart (by decide +kernel)
theorem dX3_takePart_206 : decode cX3_takePart 206 = .ok (.sipush 128, 3) := dl_o17 kcX3_takePart 128 (by decide +kernel) (by decide +kernel)
theorem dX3_takePart_209 : decode cX3_takePart 209 = .ok (.iand, 1) := dl_o126 kcX3_takePart (by decide +kernel)
theorem dX3_takePart_210 : decode cX3_takePart 210 = .ok (.ifCond .eq 35, 3) := dl_o153 kcX3_takePart 35 (by decide +kernel) (by decide +kernel)
theorem dX3_takePart_213 : decode cX3_takePart 213 = .ok (.aload_n 0, 1) := dl_o42 kcX3_takePart (by decide +kernel)
theorem dX3_takePart_214 : decode cX3_takePart 214 = .ok (.aload_n 0, 1) := dl_o42 kcX3_takePart (by decide +kernel)
theorem dX3_takePart_215 : decode cX3_takePart 215 = .ok (.invokevirtual 124, 3) := dl_o182 kcX3_takePart (by decide +kernel)
theorem dX3_takePart_218 : decode cX3_takePart 218 = .ok (.putfield 142, 3) := dl_o181 kcX3_takePart (by decide +kernel)
theorem dX3_takePart_221 : decode cX3_takePart 221 = .ok (.aload_n 0, 1) := dl_o42 kcX3_takePart (by decide +kernel)
theorem dX3_takePart_222 : decode cX3_takePart 222 = .ok (.aload_n 0, 1) := dl_o42 kcX3_takePart (by decide +kernel)
theorem dX3_takePart_223 : decode cX3_takePart 223 = .ok (.invokevirtual 124, 3) := dl_o182 kcX3_takePart (by decide +kernel)
theorem dX3_takePart_226 : decode cX3_takePart 226 = .ok (.putfield 145, 3) := dl_o181 kcX3_takePart (by decide +kernel)
theorem dX3_takePart_229 : decode cX3_takePart 229 = .ok (.aload_n 0, 1) := dl_o42 kcX3_takePart (by decide +kernel)
theorem dX3_takePart_230 : decode cX3_takePart 230 = .ok (.aload_n 0, 1) := dl_o42 kcX3_takePart (by decide +kernel)
theorem dX3_takePart_231 : decode cX3_takePart 231 = .ok (.invokevirtual 124, 3) := dl_o182 kcX3_takePart (by decide +kernel)
theorem dX3_takePart_234 : decode cX3_takePart 234 = .ok (.putfield 148, 3) := dl_o181 kcX3_takePart (by decide +kernel)
theorem dX3_takePart_237 : decode cX3_takePart 237 = .ok (.aload_n 0, 1) := dl_o42 kcX3_takePart (by decide +kernel)
theorem dX3_takePart_238 : decode cX3_takePart 238 = .ok (.aload_n 0, 1) := dl_o42 kcX3_takePart (by decide +kernel)
theorem dX3_takePart_239 : decode cX3_takePart 239 = .ok (.invokevirtual 124, 3) := dl_o182 kcX3_takePart (by decide +kernel)
theorem dX3_takePart_242 : decode cX3_takePart 242 = .ok (.putfield 151, 3) := dl_o181 kcX3_takePart (by decide +kernel)
theorem dX3_takePart_245 : decode cX3_takePart 245 = .ok (.return_, 1) := dl_o177 kcX3_takePart (by decide +kernel)
def B_X3_takePart_120   (V : sv_V) : Option sv_V := sx_let (sv_I V 16 11 (16384 : Int32)) (fun V1 => sx_let (sv_I V1 16 12 (0 : Int32)) (fun V2 => sx_let (sv_I V2 16 13 (0 : Int32)) (fun V3 => sx_let (sv_I V3 16 14 (16384 : Int32)) (fun V4 => if ((V4.1 16 7) &&& (8 : Int32)) = 0 then (if ((V4.1 16 7) &&& (64 : Int32)) = 0 then (if ((V4.1 16 7) &&& (128 : Int32)) = 0 then (some V4) else ((F_X3_takeS2  V4).bind (fun (x10, V8) => sx_let (sv_I V8 16 11 x10) (fun V11 => (F_X3_takeS2  V11).bind (fun (x14, V12) => sx_let (sv_I V12 16 12 x14) (fun V15 => (F_X3_takeS2  V15).bind (fun (x18, V16) => sx_let (sv_I V16 16 13 x18) (fun V19 => (F_X3_takeS2  V19).bind (fun (x22, V20) => sx_let (sv_I V20 16 14 x22) (fun V23 => some V23)))))))))) else ((F_X3_takeS2  V4).bind (fun (x26, V24) => sx_let (sv_I V24 16 11 x26) (fun V27 => (F_X3_takeS2  V27).bind (fun (x30, V28) => sx_let (sv_I V28 16 14 x30) (fun V31 => some V31)))))) else ((F_X3_takeS2  V4).bind (fun (x34, V32) => sx_let (sv_I V32 16 11 x34) (fun V35 => sx_let (sv_I V35 16 14 (V35.1 16 11)) (fun V36 => some V36))))))))
set_option maxRecDepth 20000 in
theorem tB_X3_takePart_120 {g : sx_G} (hG : sx_Go g) {P : Option Value → sv_V → Prop} {Vr : sv_V} (hP : P none Vr)    {V : sv_V} (h : B_X3_takePart_120   V = some Vr) : sv_N g qX3_takePart 2 120 [(0, .ref 16)] [] V P := by
  unfold B_X3_takePart_120 at h
  refine sx_aload_n (pc := 120) dX3_takePart_120 sx_m0 ?_
  refine sx_sipush (pc := 121) (v := 16384) dX3_takePart_121 (by decide) ?_
  obtain ⟨V1, hV1⟩ : ∃ z : sv_V, z = sv_I V 16 11 (16384 : Int32) := ⟨_, rfl⟩
  have h := sx_letE hV1 h
  refine sv_putI (pc := 124) hG dX3_takePart_124 f_3_142 lay_16 rfl hV1 ?_
  refine sx_aload_n (pc := 127) dX3_takePart_127 sx_m0 ?_
  refine sx_iconst (pc := 128) (v := 0) dX3_takePart_128 (by decide) ?_
  obtain ⟨V2, hV2⟩ : ∃ z : sv_V, z = sv_I V1 16 12 (0 : Int32) := ⟨_, rfl⟩
  have h := sx_letE hV2 h
  refine sv_putI (pc := 129) hG dX3_takePart_129 f_3_145 lay_16 rfl hV2 ?_
  refine sx_aload_n (pc := 132) dX3_takePart_132 sx_m0 ?_
  refine sx_iconst (pc := 133) (v := 0) dX3_takePart_133 (by decide) ?_
  obtain ⟨V3, hV3⟩ : ∃ z : sv_V, z = sv_I V2 16 13 (0 : Int32) := ⟨_, rfl⟩
  have h := sx_letE hV3 h
  refine sv_putI (pc := 134) hG dX3_takePart_134 f_3_148 lay_16 rfl hV3 ?_
  refine sx_aload_n (pc := 137) dX3_takePart_137 sx_m0 ?_
  refine sx_sipush (pc := 138) (v := 16384) dX3_takePart_138 (by decide) ?_
  obtain ⟨V4, hV4⟩ : ∃ z : sv_V, z = sv_I V3 16 14 (16384 : Int32) := ⟨_, rfl⟩
  have h := sx_letE hV4 h
  refine sv_putI (pc := 141) hG dX3_takePart_141 f_3_151 lay_16 rfl hV4 ?_
  refine sx_aload_n (pc := 144) dX3_takePart_144 sx_m0 ?_
  refine sv_getI (pc := 145) hG dX3_takePart_145 f_3_133 lay_16 rfl ?_
  refine sx_bipush (pc := 148) (v := 8) dX3_takePart_148 (by decide) ?_
  refine sx_iand (pc := 150) dX3_takePart_150 ?_
  refine sx_if_eq (pc := 151) (tgt := 173) dX3_takePart_151 (by decide) (fun c5 => ?_) (fun c5 => ?_)
  · have h := sx_pos c5 h
    refine sx_aload_n (pc := 173) dX3_takePart_173 sx_m0 ?_
    refine sv_getI (pc := 174) hG dX3_takePart_174 f_3_133 lay_16 rfl ?_
    refine sx_bipush (pc := 177) (v := 64) dX3_takePart_177 (by decide) ?_
    refine sx_iand (pc := 179) dX3_takePart_179 ?_
    refine sx_if_eq (pc := 180) (tgt := 202) dX3_takePart_180 (by decide) (fun c6 => ?_) (fun c6 => ?_)
    · have h := sx_pos c6 h
      refine sx_aload_n (pc := 202) dX3_takePart_202 sx_m0 ?_
      refine sv_getI (pc := 203) hG dX3_takePart_203 f_3_133 lay_16 rfl ?_
      refine sx_sipush (pc := 206) (v := 128) dX3_takePart_206 (by decide) ?_
      refine sx_iand (pc := 209) dX3_takePart_209 ?_
      refine sx_if_eq (pc := 210) (tgt := 245) dX3_takePart_210 (by decide) (fun c7 => ?_) (fun c7 => ?_)
      · have h := sx_pos c7 h
        exact sv_vret (pc := 245) dX3_takePart_245 rfl h hP
      · have h := sx_neg c7 h
        refine sx_aload_n (pc := 213) dX3_takePart_213 sx_m0 ?_
        refine sx_aload_n (pc := 214) dX3_takePart_214 sx_m0 ?_
        obtain ⟨⟨x10, V8⟩, g9, h⟩ := sx_bnd h
        refine sv_cV (pc := 215) (y := qX3_takeS2) (o := (some (.int x10))) (as := []) (V1 := V8) hG dX3_takePart_215 l_X3_124 y0X3_takeS2 yvX3_takeS2 rfl (Nat.le_of_ble_eq_true rfl) lay_16 kr_3 (by decide) (Nat.le_of_ble_eq_true rfl) rfl rfl rfl (t_X3_takeS2 hG ⟨rfl, rfl⟩ g9) ?_
        obtain ⟨V11, hV11⟩ : ∃ z : sv_V, z = sv_I V8 16 11 x10 := ⟨_, rfl⟩
        have h := sx_letE hV11 h
        refine sv_putI (pc := 218) hG dX3_takePart_218 f_3_142 lay_16 rfl hV11 ?_
        refine sx_aload_n (pc := 221) dX3_takePart_221 sx_m0 ?_
        refine sx_aload_n (pc := 222) dX3_takePart_222 sx_m0 ?_
        obtain ⟨⟨x14, V12⟩, g13, h⟩ := sx_bnd h
        refine sv_cV (pc := 223) (y := qX3_takeS2) (o := (some (.int x14))) (as := []) (V1 := V12) hG dX3_takePart_223 l_X3_124 y0X3_takeS2 yvX3_takeS2 rfl (Nat.le_of_ble_eq_true rfl) lay_16 kr_3 (by decide) (Nat.le_of_ble_eq_true rfl) rfl rfl rfl (t_X3_takeS2 hG ⟨rfl, rfl⟩ g13) ?_
        obtain ⟨V15, hV15⟩ : ∃ z : sv_V, z = sv_I V12 16 12 x14 := ⟨_, rfl⟩
        have h := sx_letE hV15 h
        refine sv_putI (pc := 226) hG dX3_takePart_226 f_3_145 lay_16 rfl hV15 ?_
        refine sx_aload_n (pc := 229) dX3_takePart_229 sx_m0 ?_
        refine sx_aload_n (pc := 230) dX3_takePart_230 sx_m0 ?_
        obtain ⟨⟨x18, V16⟩, g17, h⟩ := sx_bnd h
        refine sv_cV (pc := 231) (y := qX3_takeS2) (o := (some (.int x18))) (as := []) (V1 := V16) hG dX3_takePart_231 l_X3_124 y0X3_takeS2 yvX3_takeS2 rfl (Nat.le_of_ble_eq_true rfl) lay_16 kr_3 (by decide) (Nat.le_of_ble_eq_true rfl) rfl rfl rfl (t_X3_takeS2 hG ⟨rfl, rfl⟩ g17) ?_
        obtain ⟨V19, hV19⟩ : ∃ z : sv_V, z = sv_I V16 16 13 x18 := ⟨_, rfl⟩
        have h := sx_letE hV19 h
        refine sv_putI (pc := 234) hG dX3_takePart_234 f_3_148 lay_16 rfl hV19 ?_
        refine sx_aload_n (pc := 237) dX3_takePart_237 sx_m0 ?_
        refine sx_aload_n (pc := 238) dX3_takePart_238 sx_m0 ?_
        obtain ⟨⟨x22, V20⟩, g21, h⟩ := sx_bnd h
        refine sv_cV (pc := 239) (y := qX3_takeS2) (o := (some (.int x22))) (as := []) (V1 := V20) hG dX3_takePart_239 l_X3_124 y0X3_takeS2 yvX3_takeS2 rfl (Nat.le_of_ble_eq_true rfl) lay_16 kr_3 (by decide) (Nat.le_of_ble_eq_true rfl) rfl rfl rfl (t_X3_takeS2 hG ⟨rfl, rfl⟩ g21) ?_
        obtain ⟨V23, hV23⟩ : ∃ z : sv_V, z = sv_I V20 16 14 x22 := ⟨_, rfl⟩
        have h := sx_letE hV23 h
        refine sv_putI (pc := 242) hG dX3_takePart_242 f_3_151 lay_16 rfl hV23 ?_
        exact sv_vret (pc := 245) dX3_takePart_245 rfl h hP
    · have h := sx_neg c6 h
      refine sx_aload_n (pc := 183) dX3_takePart_183 sx_m0 ?_
      refine sx_aload_n (pc := 184) dX3_takePart_184 sx_m0 ?_
      obtain ⟨⟨x26, V24⟩, g25, h⟩ := sx_bnd h
      refine sv_cV (pc := 185) (y := qX3_takeS2) (o := (some (.int x26))) (as := []) (V1 := V24) hG dX3_takePart_185 l_X3_124 y0X3_takeS2 yvX3_takeS2 rfl (Nat.le_of_ble_eq_true rfl) lay_16 kr_3 (by decide) (Nat.le_of_ble_eq_true rfl) rfl rfl rfl (t_X3_takeS2 hG ⟨rfl, rfl⟩ g25) ?_
      obtain ⟨V27, hV27⟩ : ∃ z : sv_V, z = sv_I V24 16 11 x26 := ⟨_, rfl⟩
      have h := sx_letE hV27 h
      refine sv_putI (pc := 188) hG dX3_takePart_188 f_3_142 lay_16 rfl hV27 ?_
      refine sx_aload_n (pc := 191) dX3_takePart_191 sx_m0 ?_
      refine sx_aload_n (pc := 192) dX3_takePart_192 sx_m0 ?_
      obtain ⟨⟨x30, V28⟩, g29, h⟩ := sx_bnd h
      refine sv_cV (pc := 193) (y := qX3_takeS2) (o := (some (.int x30))) (as := []) (V1 := V28) hG dX3_takePart_193 l_X3_124 y0X3_takeS2 yvX3_takeS2 rfl (Nat.le_of_ble_eq_true rfl) lay_16 kr_3 (by decide) (Nat.le_of_ble_eq_true rfl) rfl rfl rfl (t_X3_takeS2 hG ⟨rfl, rfl⟩ g29) ?_
      obtain ⟨V31, hV31⟩ : ∃ z : sv_V, z = sv_I V28 16 14 x30 := ⟨_, rfl⟩
      have h := sx_letE hV31 h
      refine sv_putI (pc := 196) hG dX3_takePart_196 f_3_151 lay_16 rfl hV31 ?_
      refine sx_goto (pc := 199) (tgt := 245) dX3_takePart_199 (by decide) ?_
      exact sv_vret (pc := 245) dX3_takePart_245 rfl h hP
  · have h := sx_neg c5 h
    refine sx_aload_n (pc := 154) dX3_takePart_154 sx_m0 ?_
    refine sx_aload_n (pc := 155) dX3_takePart_155 sx_m0 ?_
    obtain ⟨⟨x34, V32⟩, g33, h⟩ := sx_bnd h
    refine sv_cV (pc := 156) (y := qX3_takeS2) (o := (some (.int x34))) (as := []) (V1 := V32) hG dX3_takePart_156 l_X3_124 y0X3_takeS2 yvX3_takeS2 rfl (Nat.le_of_ble_eq_true rfl) lay_16 kr_3 (by decide) (Nat.le_of_ble_eq_true rfl) rfl rfl rfl (t_X3_takeS2 hG ⟨rfl, rfl⟩ g33) ?_
    obtain ⟨V35, hV35⟩ : ∃ z : sv_V, z = sv_I V32 16 11 x34 := ⟨_, rfl⟩
    have h := sx_letE hV35 h
    refine sv_putI (pc := 159) hG dX3_takePart_159 f_3_142 lay_16 rfl hV35 ?_
    refine sx_aload_n (pc := 162) dX3_takePart_162 sx_m0 ?_
    refine sx_aload_n (pc := 163) dX3_takePart_163 sx_m0 ?_
    refine sv_getI (pc := 164) hG dX3_takePart_164 f_3_142 lay_16 rfl ?_
    obtain ⟨V36, hV36⟩ : ∃ z : sv_V, z = sv_I V35 16 14 (V35.1 16 11) := ⟨_, rfl⟩
    have h := sx_letE hV36 h
    refine sv_putI (pc := 167) hG dX3_takePart_167 f_3_151 lay_16 rfl hV36 ?_
    refine sx_goto (pc := 170) (tgt := 245) dX3_takePart_170 (by decide) ?_
    exact sv_vret (pc := 245) dX3_takePart_245 rfl h hP
def B_X3_takePart_117  (s1 : Int32) (V : sv_V) : Option sv_V := sx_let (sv_I V 16 10 s1) (fun V37 => B_X3_takePart_120   V37)
set_option maxRecDepth 20000 in
theorem tB_X3_takePart_117 {g : sx_G} (hG : sx_Go g) {P : Option Value → sv_V → Prop} {Vr : sv_V} (hP : P none Vr)   {s1 : Int32} {V : sv_V} (h : B_X3_takePart_117  s1 V = some Vr) : sv_N g qX3_takePart 2 117 [(0, .ref 16)] [.int s1, .ref 16] V P := by
  unfold B_X3_takePart_117 at h
  obtain ⟨V37, hV37⟩ : ∃ z : sv_V, z = sv_I V 16 10 s1 := ⟨_, rfl⟩
  have h := sx_letE hV37 h
  refine sv_putI (pc := 117) hG dX3_takePart_117 f_3_139 lay_16 rfl hV37 ?_
  refine sx_wk (sx_s1 sx_m0 sx_s0) ?_
  exact tB_X3_takePart_120 hG hP  h
def B_X3_takePart_96  (l1 : Int32) (s1 : Int32) (V : sv_V) : Option sv_V := sx_let (sv_I V 16 9 s1) (fun V38 => if l1 = 0 then (B_X3_takePart_117  ((V38.1 16 10).toInt8.toInt32) V38) else (B_X3_takePart_117  ((V38.1 16 10).toInt16.toInt32) V38))
set_option maxRecDepth 20000 in
theorem tB_X3_takePart_96 {g : sx_G} (hG : sx_Go g) {P : Option Value → sv_V → Prop} {Vr : sv_V} (hP : P none Vr)   {l1 : Int32} {s1 : Int32} {V : sv_V} (h : B_X3_takePart_96  l1 s1 V = some Vr) : sv_N g qX3_takePart 2 96 [(0, .ref 16), (1, .int l1)] [.int s1, .ref 16] V P := by
  unfold B_X3_takePart_96 at h
  obtain ⟨V38, hV38⟩ : ∃ z : sv_V, z = sv_I V 16 9 s1 := ⟨_, rfl⟩
  have h := sx_letE hV38 h
  refine sv_putI (pc := 96) hG dX3_takePart_96 f_3_136 lay_16 rfl hV38 ?_
  refine sx_aload_n (pc := 99) dX3_takePart_99 sx_m0 ?_
  refine sx_iload_n (pc := 100) dX3_takePart_100 sx_m1 ?_
  refine sx_if_eq (pc := 101) (tgt := 112) dX3_takePart_101 (by decide) (fun c39 => ?_) (fun c39 => ?_)
  · have h := sx_pos c39 h
    refine sx_aload_n (pc := 112) dX3_takePart_112 sx_m0 ?_
    refine sv_getI (pc := 113) hG dX3_takePart_113 f_3_139 lay_16 rfl ?_
    refine sx_i2b (pc := 116) dX3_takePart_116 ?_
    refine sx_wk (sx_s1 sx_m0 sx_s0) ?_
    exact tB_X3_takePart_117 hG hP  h
  · have h := sx_neg c39 h
    refine sx_aload_n (pc := 104) dX3_takePart_104 sx_m0 ?_
    refine sv_getI (pc := 105) hG dX3_takePart_105 f_3_139 lay_16 rfl ?_
    refine sx_i2s (pc := 108) dX3_takePart_108 ?_
    refine sx_goto (pc := 109) (tgt := 117) dX3_takePart_109 (by decide) ?_
    refine sx_wk (sx_s1 sx_m0 sx_s0) ?_
    exact tB_X3_takePart_117 hG hP  h
def B_X3_takePart_66  (l1 : Int32) (s1 : Int32) (V : sv_V) : Option sv_V := sx_let (sv_I V 16 10 s1) (fun V40 => if ((V40.1 16 7) &&& (2 : Int32)) = 0 then (B_X3_takePart_120   V40) else (if l1 = 0 then (B_X3_takePart_96  l1 ((V40.1 16 9).toInt8.toInt32) V40) else (B_X3_takePart_96  l1 ((V40.1 16 9).toInt16.toInt32) V40)))
set_option maxRecDepth 20000 in
theorem tB_X3_takePart_66 {g : sx_G} (hG : sx_Go g) {P : Option Value → sv_V → Prop} {Vr : sv_V} (hP : P none Vr)   {l1 : Int32} {s1 : Int32} {V : sv_V} (h : B_X3_takePart_66  l1 s1 V = some Vr) : sv_N g qX3_takePart 2 66 [(0, .ref 16), (1, .int l1)] [.int s1, .ref 16] V P := by
  unfold B_X3_takePart_66 at h
  obtain ⟨V40, hV40⟩ : ∃ z : sv_V, z = sv_I V 16 10 s1 := ⟨_, rfl⟩
  have h := sx_letE hV40 h
  refine sv_putI (pc := 66) hG dX3_takePart_66 f_3_139 lay_16 rfl hV40 ?_
  refine sx_aload_n (pc := 69) dX3_takePart_69 sx_m0 ?_
  refine sv_getI (pc := 70) hG dX3_takePart_70 f_3_133 lay_16 rfl ?_
  refine sx_iconst (pc := 73) (v := 2) dX3_takePart_73 (by decide) ?_
  refine sx_iand (pc := 74) dX3_takePart_74 ?_
  refine sx_if_eq (pc := 75) (tgt := 120) dX3_takePart_75 (by decide) (fun c41 => ?_) (fun c41 => ?_)
  · have h := sx_pos c41 h
    refine sx_wk (sx_s1 sx_m0 sx_s0) ?_
    exact tB_X3_takePart_120 hG hP  h
  · have h := sx_neg c41 h
    refine sx_aload_n (pc := 78) dX3_takePart_78 sx_m0 ?_
    refine sx_iload_n (pc := 79) dX3_takePart_79 sx_m1 ?_
    refine sx_if_eq (pc := 80) (tgt := 91) dX3_takePart_80 (by decide) (fun c42 => ?_) (fun c42 => ?_)
    · have h := sx_pos c42 h
      refine sx_aload_n (pc := 91) dX3_takePart_91 sx_m0 ?_
      refine sv_getI (pc := 92) hG dX3_takePart_92 f_3_136 lay_16 rfl ?_
      refine sx_i2b (pc := 95) dX3_takePart_95 ?_
      refine sx_wk (sx_s1 sx_m0 (sx_s1 sx_m1 sx_s0)) ?_
      exact tB_X3_takePart_96 hG hP  h
    · have h := sx_neg c42 h
      refine sx_aload_n (pc := 83) dX3_takePart_83 sx_m0 ?_
      refine sv_getI (pc := 84) hG dX3_takePart_84 f_3_136 lay_16 rfl ?_
      refine sx_i2s (pc := 87) dX3_takePart_87 ?_
      refine sx_goto (pc := 88) (tgt := 96) dX3_takePart_88 (by decide) ?_
      refine sx_wk (sx_s1 sx_m0 (sx_s1 sx_m1 sx_s0)) ?_
      exact tB_X3_takePart_96 hG hP  h
def B_X3_takePart_47  (l1 : Int32) (s1 : Int32) (V : sv_V) : Option sv_V := sx_let (sv_I V 16 9 s1) (fun V43 => if l1 = 0 then ((F_X3_takeU1  V43).bind (fun (x47, V45) => B_X3_takePart_66  l1 x47 V45)) else ((F_X3_takeU2  V43).bind (fun (x50, V48) => B_X3_takePart_66  l1 x50 V48)))
set_option maxRecDepth 20000 in
theorem tB_X3_takePart_47 {g : sx_G} (hG : sx_Go g) {P : Option Value → sv_V → Prop} {Vr : sv_V} (hP : P none Vr)   {l1 : Int32} {s1 : Int32} {V : sv_V} (h : B_X3_takePart_47  l1 s1 V = some Vr) : sv_N g qX3_takePart 2 47 [(0, .ref 16), (1, .int l1)] [.int s1, .ref 16] V P := by
  unfold B_X3_takePart_47 at h
  obtain ⟨V43, hV43⟩ : ∃ z : sv_V, z = sv_I V 16 9 s1 := ⟨_, rfl⟩
  have h := sx_letE hV43 h
  refine sv_putI (pc := 47) hG dX3_takePart_47 f_3_136 lay_16 rfl hV43 ?_
  refine sx_aload_n (pc := 50) dX3_takePart_50 sx_m0 ?_
  refine sx_iload_n (pc := 51) dX3_takePart_51 sx_m1 ?_
  refine sx_if_eq (pc := 52) (tgt := 62) dX3_takePart_52 (by decide) (fun c44 => ?_) (fun c44 => ?_)
  · have h := sx_pos c44 h
    refine sx_aload_n (pc := 62) dX3_takePart_62 sx_m0 ?_
    obtain ⟨⟨x47, V45⟩, g46, h⟩ := sx_bnd h
    refine sv_cV (pc := 63) (y := qX3_takeU1) (o := (some (.int x47))) (as := []) (V1 := V45) hG dX3_takePart_63 l_X3_121 y0X3_takeU1 yvX3_takeU1 rfl (Nat.le_of_ble_eq_true rfl) lay_16 kr_3 (by decide) (Nat.le_of_ble_eq_true rfl) rfl rfl rfl (t_X3_takeU1 hG ⟨rfl, rfl⟩ g46) ?_
    refine sx_wk (sx_s1 sx_m0 (sx_s1 sx_m1 sx_s0)) ?_
    exact tB_X3_takePart_66 hG hP  h
  · have h := sx_neg c44 h
    refine sx_aload_n (pc := 55) dX3_takePart_55 sx_m0 ?_
    obtain ⟨⟨x50, V48⟩, g49, h⟩ := sx_bnd h
    refine sv_cV (pc := 56) (y := qX3_takeU2) (o := (some (.int x50))) (as := []) (V1 := V48) hG dX3_takePart_56 l_X3_89 y0X3_takeU2 yvX3_takeU2 rfl (Nat.le_of_ble_eq_true rfl) lay_16 kr_3 (by decide) (Nat.le_of_ble_eq_true rfl) rfl rfl rfl (t_X3_takeU2 hG ⟨rfl, rfl⟩ g49) ?_
    refine sx_goto (pc := 59) (tgt := 66) dX3_takePart_59 (by decide) ?_
    refine sx_wk (sx_s1 sx_m0 (sx_s1 sx_m1 sx_s0)) ?_
    exact tB_X3_takePart_66 hG hP  h
def B_X3_takePart_30  (s0 : Int32) (V : sv_V) : Option sv_V := if s0 = 0 then ((F_X3_takeU1  V).bind (fun (x54, V52) => B_X3_takePart_47  s0 x54 V52)) else ((F_X3_takeU2  V).bind (fun (x57, V55) => B_X3_takePart_47  s0 x57 V55))
set_option maxRecDepth 20000 in
theorem tB_X3_takePart_30 {g : sx_G} (hG : sx_Go g) {P : Option Value → sv_V → Prop} {Vr : sv_V} (hP : P none Vr)   {s0 : Int32} {V : sv_V} (h : B_X3_takePart_30  s0 V = some Vr) : sv_N g qX3_takePart 2 30 [(0, .ref 16)] [.int s0] V P := by
  unfold B_X3_takePart_30 at h
  refine sx_istore_n (pc := 30) (lo' := [(1, .int s0), (0, .ref 16)]) dX3_takePart_30 (by decide) rfl ?_
  refine sx_aload_n (pc := 31) dX3_takePart_31 sx_m1 ?_
  refine sx_iload_n (pc := 32) dX3_takePart_32 sx_m0 ?_
  refine sx_if_eq (pc := 33) (tgt := 43) dX3_takePart_33 (by decide) (fun c51 => ?_) (fun c51 => ?_)
  · have h := sx_pos c51 h
    refine sx_aload_n (pc := 43) dX3_takePart_43 sx_m1 ?_
    obtain ⟨⟨x54, V52⟩, g53, h⟩ := sx_bnd h
    refine sv_cV (pc := 44) (y := qX3_takeU1) (o := (some (.int x54))) (as := []) (V1 := V52) hG dX3_takePart_44 l_X3_121 y0X3_takeU1 yvX3_takeU1 rfl (Nat.le_of_ble_eq_true rfl) lay_16 kr_3 (by decide) (Nat.le_of_ble_eq_true rfl) rfl rfl rfl (t_X3_takeU1 hG ⟨rfl, rfl⟩ g53) ?_
    refine sx_wk (sx_s1 sx_m1 (sx_s1 sx_m0 sx_s0)) ?_
    exact tB_X3_takePart_47 hG hP  h
  · have h := sx_neg c51 h
    refine sx_aload_n (pc := 36) dX3_takePart_36 sx_m1 ?_
    obtain ⟨⟨x57, V55⟩, g56, h⟩ := sx_bnd h
    refine sv_cV (pc := 37) (y := qX3_takeU2) (o := (some (.int x57))) (as := []) (V1 := V55) hG dX3_takePart_37 l_X3_89 y0X3_takeU2 yvX3_takeU2 rfl (Nat.le_of_ble_eq_true rfl) lay_16 kr_3 (by decide) (Nat.le_of_ble_eq_true rfl) rfl rfl rfl (t_X3_takeU2 hG ⟨rfl, rfl⟩ g56) ?_
    refine sx_goto (pc := 40) (tgt := 47) dX3_takePart_40 (by decide) ?_
    refine sx_wk (sx_s1 sx_m1 (sx_s1 sx_m0 sx_s0)) ?_
    exact tB_X3_takePart_47 hG hP  h
def F_X3_takePart  (V : sv_V) : Option sv_V := (F_X3_takeU2  V).bind (fun (x60, V58) => sx_let (sv_I V58 16 7 x60) (fun V61 => (F_X3_takeU2  V61).bind (fun (x64, V62) => sx_let (sv_I V62 16 8 x64) (fun V65 => if ((V65.1 16 7) &&& (1 : Int32)) = 0 then (B_X3_takePart_30  (0 : Int32) V65) else (B_X3_takePart_30  (1 : Int32) V65)))))
set_option maxRecDepth 20000 in
theorem t_X3_takePart {g : sx_G} (hG : sx_Go g) {P : Option Value → sv_V → Prop} {Vr : sv_V} (hP : P none Vr)  {V : sv_V} (h : F_X3_takePart  V = some Vr) : sv_N g qX3_takePart 2 0 [(0, .ref 16)] [] V P := by
  unfold F_X3_takePart at h
  refine sx_aload_n (pc := 0) dX3_takePart_0 sx_m0 ?_
  refine sx_aload_n (pc := 1) dX3_takePart_1 sx_m0 ?_
  obtain ⟨⟨x60, V58⟩, g59, h⟩ := sx_bnd h
  refine sv_cV (pc := 2) (y := qX3_takeU2) (o := (some (.int x60))) (as := []) (V1 := V58) hG dX3_takePart_2 l_X3_89 y0X3_takeU2 yvX3_takeU2 rfl (Nat.le_of_ble_eq_true rfl) lay_16 kr_3 (by decide) (Nat.le_of_ble_eq_true rfl) rfl rfl rfl (t_X3_takeU2 hG ⟨rfl, rfl⟩ g59) ?_
  obtain ⟨V61, hV61⟩ : ∃ z : sv_V, z = sv_I V58 16 7 x60 := ⟨_, rfl⟩
  have h := sx_letE hV61 h
  refine sv_putI (pc := 5) hG dX3_takePart_5 f_3_133 lay_16 rfl hV61 ?_
  refine sx_aload_n (pc := 8) dX3_takePart_8 sx_m0 ?_
  refine sx_aload_n (pc := 9) dX3_takePart_9 sx_m0 ?_
  obtain ⟨⟨x64, V62⟩, g63, h⟩ := sx_bnd h
  refine sv_cV (pc := 10) (y := qX3_takeU2) (o := (some (.int x64))) (as := []) (V1 := V62) hG dX3_takePart_10 l_X3_89 y0X3_takeU2 yvX3_takeU2 rfl (Nat.le_of_ble_eq_true rfl) lay_16 kr_3 (by decide) (Nat.le_of_ble_eq_true rfl) rfl rfl rfl (t_X3_takeU2 hG ⟨rfl, rfl⟩ g63) ?_
  obtain ⟨V65, hV65⟩ : ∃ z : sv_V, z = sv_I V62 16 8 x64 := ⟨_, rfl⟩
  have h := sx_letE hV65 h
  refine sv_putI (pc := 13) hG dX3_takePart_13 f_3_130 lay_16 rfl hV65 ?_
  refine sx_aload_n (pc := 16) dX3_takePart_16 sx_m0 ?_
  refine sv_getI (pc := 17) hG dX3_takePart_17 f_3_133 lay_16 rfl ?_
  refine sx_iconst (pc := 20) (v := 1) dX3_takePart_20 (by decide) ?_
  refine sx_iand (pc := 21) dX3_takePart_21 ?_
  refine sx_if_eq (pc := 22) (tgt := 29) dX3_takePart_22 (by decide) (fun c66 => ?_) (fun c66 => ?_)
  · have h := sx_pos c66 h
    refine sx_iconst (pc := 29) (v := 0) dX3_takePart_29 (by decide) ?_
    refine sx_wk (sx_s1 sx_m0 sx_s0) ?_
    exact tB_X3_takePart_30 hG hP  h
  · have h := sx_neg c66 h
    refine sx_iconst (pc := 25) (v := 1) dX3_takePart_25 (by decide) ?_
    refine sx_goto (pc := 26) (tgt := 30) dX3_takePart_26 (by decide) ?_
    refine sx_wk (sx_s1 sx_m0 sx_s0) ?_
    exact tB_X3_takePart_30 hG hP  h
def ncX4_directoryHolds : Nat := 194103299090456705491103610952683901205057500668329041091170674811401086419161703931874489511198097187163134058735053866068553390924545512088796646275107972681539662418418307899790604558620390774928604394064690073007987397803769658056036927493995664914497304678377642598545690072267157658573509264449163980896438398800979536760327624290012668709580074547653483207636010
theorem kcX4_directoryHolds : CK cX4_directoryHolds ncX4_directoryHolds 153 := ⟨by decide +kernel, by decide +kernel⟩
theorem dX4_directoryHolds_0 : decode cX4_directoryHolds 0 = .ok (.aload_n 0, 1) := dl_o42 kcX4_directoryHolds (by decide +kernel)
theorem dX4_directoryHolds_1 : decode cX4_directoryHolds 1 = .ok (.getfield 9, 3) := dl_o180 kcX4_directoryHolds (by decide +kernel)
theorem dX4_directoryHolds_4 : decode cX4_directoryHolds 4 = .ok (.iconst 4, 1) := dl_o7 kcX4_directoryHolds (by decide +kernel)
theorem dX4_directoryHolds_5 : decode cX4_directoryHolds 5 = .ok (.invokevirtual 64, 3) := dl_o182 kcX4_directoryHolds (by decide +kernel)
theorem dX4_directoryHolds_8 : decode cX4_directoryHolds 8 = .ok (.istore_n 1, 1) := dl_o60 kcX4_directoryHolds (by decide +kernel)
theorem dX4_directoryHolds_9 : decode cX4_directoryHolds 9 = .ok (.aload_n 0, 1) := dl_o42 kcX4_directoryHolds (by decide +kernel)
theorem dX4_directoryHolds_10 : decode cX4_directoryHolds 10 = .ok (.getfield 9, 3) := dl_o180 kcX4_directoryHolds (by decide +kernel)
theorem dX4_directoryHolds_13 : decode cX4_directoryHolds 13 = .ok (.getfield 70, 3) := dl_o180 kcX4_directoryHolds (by decide +kernel)
theorem dX4_directoryHolds_16 : decode cX4_directoryHolds 16 = .ok (.bipush 12, 2) := dl_o16 kcX4_directoryHolds 12 (by decide +kernel) (by decide +kernel)
theorem dX4_directoryHolds_18 : decode cX4_directoryHolds 18 = .ok (.if_icmp .lt 29, 3) := dl_o161 kcX4_directoryHolds 29 (by decide +kernel) (by decide +kernel)
theorem dX4_directoryHolds_21 : decode cX4_directoryHolds 21 = .ok (.aload_n 0, 1) := dl_o42 kcX4_directoryHolds (by decide +kernel)
theorem dX4_directoryHolds_22 : decode cX4_directoryHolds 22 = .ok (.getfield 9, 3) := dl_o180 kcX4_directoryHolds (by decide +kernel)
theorem dX4_directoryHolds_25 : decode cX4_directoryHolds 25 = .ok (.iconst 0, 1) := dl_o3 kcX4_directoryHolds (by decide +kernel)
theorem dX4_directoryHolds_26 : decode cX4_directoryHolds 26 = .ok (.invokevirtual 74, 3) := dl_o182 kcX4_directoryHolds (by decide +kernel)
theorem dX4_directoryHolds_29 : decode cX4_directoryHolds 29 = .ok (.ldc2_w 78, 3) := dl_o20 kcX4_directoryHolds (by decide +kernel)
theorem dX4_directoryHolds_32 : decode cX4_directoryHolds 32 = .ok (.lcmp, 1) := dl_o148 kcX4_directoryHolds (by decide +kernel)
theorem dX4_directoryHolds_33 : decode cX4_directoryHolds 33 = .ok (.ifCond .ne 14, 3) := dl_o154 kcX4_directoryHolds 14 (by decide +kernel) (by decide +kernel)
theorem dX4_directoryHolds_36 : decode cX4_directoryHolds 36 = .ok (.iload_n 1, 1) := dl_o27 kcX4_directoryHolds (by decide +kernel)
theorem dX4_directoryHolds_37 : decode cX4_directoryHolds 37 = .ok (.iconst 1, 1) := dl_o4 kcX4_directoryHolds (by decide +kernel)
theorem dX4_directoryHolds_38 : decode cX4_directoryHolds 38 = .ok (.if_icmp .lt 9, 3) := dl_o161 kcX4_directoryHolds 9 (by decide +kernel) (by decide +kernel)
theorem dX4_directoryHolds_41 : decode cX4_directoryHolds 41 = .ok (.iload_n 1, 1) := dl_o27 kcX4_directoryHolds (by decide +kernel)
theorem dX4_directoryHolds_42 : decode cX4_directoryHolds 42 = .ok (.bipush 16, 2) := dl_o16 kcX4_directoryHolds 16 (by decide +kernel) (by decide +kernel)
theorem dX4_directoryHolds_44 : decode cX4_directoryHolds 44 = .ok (.if_icmp .le 5, 3) := dl_o164 kcX4_directoryHolds 5 (by decide +kernel) (by decide +kernel)
theorem dX4_directoryHolds_47 : decode cX4_directoryHolds 47 = .ok (.iconst 0, 1) := dl_o3 kcX4_directoryHolds (by decide +kernel)
theorem dX4_directoryHolds_48 : decode cX4_directoryHolds 48 = .ok (.ireturn, 1) := dl_o172 kcX4_directoryHolds (by decide +kernel)
theorem dX4_directoryHolds_49 : decode cX4_directoryHolds 49 = .ok (.iconst 0, 1) := dl_o3 kcX4_directoryHolds (by decide +kernel)
theorem dX4_directoryHolds_50 : decode cX4_directoryHolds 50 = .ok (.istore_n 2, 1) := dl_o61 kcX4_directoryHolds (by decide +kernel)
theorem dX4_directoryHolds_51 : decode cX4_directoryHolds 51 = .ok (.iconst 1, 1) := dl_o4 kcX4_directoryHolds (by decide +kernel)
theorem dX4_directoryHolds_52 : decode cX4_directoryHolds 52 = .ok (.istore_n 3, 1) := dl_o62 kcX4_directoryHolds (by decide +kernel)
theorem dX4_directoryHolds_53 : decode cX4_directoryHolds 53 = .ok (.iload_n 3, 1) := dl_o29 kcX4_directoryHolds (by decide +kernel)
theorem dX4_directoryHolds_54 : decode cX4_directoryHolds 54 = .ok (.iconst 4, 1) := dl_o7 kcX4_directoryHolds (by decide +kernel)
theorem dX4_directoryHolds_55 : decode cX4_directoryHolds 55 = .ok (.if_icmp .gt 18, 3) := dl_o163 kcX4_directoryHolds 18 (by decide +kernel) (by decide +kernel)
theorem dX4_directoryHolds_58 : decode cX4_directoryHolds 58 = .ok (.iconst 1, 1) := dl_o4 kcX4_directoryHolds (by decide +kernel)
theorem dX4_directoryHolds_59 : decode cX4_directoryHolds 59 = .ok (.iload_n 3, 1) := dl_o29 kcX4_directoryHolds (by decide +kernel)
theorem dX4_directoryHolds_60 : decode cX4_directoryHolds 60 = .ok (.ishl, 1) := dl_o120 kcX4_directoryHolds (by decide +kernel)
theorem dX4_directoryHolds_61 : decode cX4_directoryHolds 61 = .ok (.iload_n 1, 1) := dl_o27 kcX4_directoryHolds (by decide +kernel)
theorem dX4_directoryHolds_62 : decode cX4_directoryHolds 62 = .ok (.if_icmp .gt 5, 3) := dl_o163 kcX4_directoryHolds 5 (by decide +kernel) (by decide +kernel)
theorem dX4_directoryHolds_65 : decode cX4_directoryHolds 65 = .ok (.iload_n 3, 1) := dl_o29 kcX4_directoryHolds (by decide +kernel)
theorem dX4_directoryHolds_66 : decode cX4_directoryHolds 66 = .ok (.istore_n 2, 1) := dl_o61 kcX4_directoryHolds (by decide +kernel)
theorem dX4_directoryHolds_67 : decode cX4_directoryHolds 67 = .ok (.iinc 3 1, 3) := by decide +kernel
theorem dX4_directoryHolds_70 : decode cX4_directoryHolds 70 = .ok (.goto (-17), 3) := dl_o167 kcX4_directoryHolds 65519 (by decide +kernel) (by decide +kernel)
theorem dX4_directoryHolds_73 : decode cX4_directoryHolds 73 = .ok (.bipush 16, 2) := dl_o16 kcX4_directoryHolds 16 (by decide +kernel) (by decide +kernel)
theorem dX4_directoryHolds_75 : decode cX4_directoryHolds 75 = .ok (.iload_n 2, 1) := dl_o28 kcX4_directoryHolds (by decide +kernel)
theorem dX4_directoryHolds_76 : decode cX4_directoryHolds 76 = .ok (.ishl, 1) := dl_o120 kcX4_directoryHolds (by decide +kernel)
theorem dX4_directoryHolds_77 : decode cX4_directoryHolds 77 = .ok (.istore_n 3, 1) := dl_o62 kcX4_directoryHolds (by decide +kernel)
theorem dX4_directoryHolds_78 : decode cX4_directoryHolds 78 = .ok (.aload_n 0, 1) := dl_o42 kcX4_directoryHolds (by decide +kernel)
theorem dX4_directoryHolds_79 : decode cX4_directoryHolds 79 = .ok (.getfield 9, 3) := dl_o180 kcX4_directoryHolds (by decide +kernel)
theorem dX4_directoryHolds_82 : decode cX4_directoryHolds 82 = .ok (.iload_n 1, 1) := dl_o27 kcX4_directoryHolds (by decide +kernel)
theorem dX4_directoryHolds_83 : decode cX4_directoryHolds 83 = .ok (.putfield 80, 3) := dl_o181 kcX4_directoryHolds (by decide +kernel)
theorem dX4_directoryHolds_86 : decode cX4_directoryHolds 86 = .ok (.aload_n 0, 1) := dl_o42 kcX4_directoryHolds (by decide +kernel)
theorem dX4_directoryHolds_87 : decode cX4_directoryHolds 87 = .ok (.getfield 9, 3) := dl_o180 kcX4_directoryHolds (by decide +kernel)
theorem dX4_directoryHolds_90 : decode cX4_directoryHolds 90 = .ok (.bipush 6, 2) := dl_o16 kcX4_directoryHolds 6 (by decide +kernel) (by decide +kernel)
theorem dX4_directoryHolds_92 : decode cX4_directoryHolds 92 = .ok (.invokevirtual 64, 3) := dl_o182 kcX4_directoryHolds (by decide +kernel)
theorem dX4_directoryHolds_95 : decode cX4_directoryHolds 95 = .ok (.iload_n 3, 1) := dl_o29 kcX4_directoryHolds (by decide +kernel)
theorem dX4_directoryHolds_96 : decode cX4_directoryHolds 96 = .ok (.if_icmp .ne 55, 3) := dl_o160 kcX4_directoryHolds 55 (by decide +kernel) (by decide +kernel)
theorem dX4_directoryHolds_99 : decode cX4_directoryHolds 99 = .ok (.aload_n 0, 1) := dl_o42 kcX4_directoryHolds (by decide +kernel)
theorem dX4_directoryHolds_100 : decode cX4_directoryHolds 100 = .ok (.getfield 9, 3) := dl_o180 kcX4_directoryHolds (by decide +kernel)
theorem dX4_directoryHolds_103 : decode cX4_directoryHolds 103 = .ok (.bipush 8, 2) := dl_o16 kcX4_directoryHolds 8 (by decide +kernel) (by decide +kernel)
theorem dX4_directoryHolds_105 : decode cX4_directoryHolds 105 = .ok (.invokevirtual 64, 3) := dl_o182 kcX4_directoryHolds (by decide +kernel)
theorem dX4_directoryHolds_108 : decode cX4_directoryHolds 108 = .ok (.iload_n 2, 1) := dl_o28 kcX4_directoryHolds (by decide +kernel)
theorem dX4_directoryHolds_109 : decode cX4_directoryHolds 109 = .ok (.if_icmp .ne 42, 3) := dl_o160 kcX4_directoryHolds 42 (by decide +kernel) (by decide +kernel)
theorem dX4_directoryHolds_112 : decode cX4_directoryHolds 112 = .ok (.aload_n 0, 1) := dl_o42 kcX4_directoryHolds (by decide +kernel)
theorem dX4_directoryHolds_113 : decode cX4_directoryHolds 113 = .ok (.getfield 9, 3) := dl_o180 kcX4_directoryHolds (by decide +kernel)
theorem dX4_directoryHolds_116 : decode cX4_directoryHolds 116 = .ok (.bipush 10, 2) := dl_o16 kcX4_directoryHolds 10 (by decide +kernel) (by decide +kernel)
theorem dX4_directoryHolds_118 : decode cX4_directoryHolds 118 = .ok (.invokevirtual 64, 3) := dl_o182 kcX4_directoryHolds (by decide +kernel)
theorem dX4_directoryHolds_121 : decode cX4_directoryHolds 121 = .ok (.bipush 16, 2) := dl_o16 kcX4_directoryHolds 16 (by decide +kernel) (by decide +kernel)
theorem dX4_directoryHolds_123 : decode cX4_directoryHolds 123 = .ok (.iload_n 1, 1) := dl_o27 kcX4_directoryHolds (by decide +kernel)
theorem dX4_directoryHolds_124 : decode cX4_directoryHolds 124 = .ok (.imul, 1) := dl_o104 kcX4_directoryHolds (by decide +kernel)
theorem dX4_directoryHolds_125 : decode cX4_directoryHolds 125 = .ok (.iload_n 3, 1) := dl_o29 kcX4_directoryHolds (by decide +kernel)
theorem dX4_directoryHolds_126 : decode cX4_directoryHolds 126 = .ok (.isub, 1) := dl_o100 kcX4_directoryHolds (by decide +kernel)
theorem dX4_directoryHolds_127 : decode cX4_directoryHolds 127 = .ok (.if_icmp .ne 24, 3) := dl_o160 kcX4_directoryHolds 24 (by decide +kernel) (by decide +kernel)
theorem dX4_directoryHolds_130 : decode cX4_directoryHolds 130 = .ok (.bipush 12, 2) := dl_o16 kcX4_directoryHolds 12 (by decide +kernel) (by decide +kernel)
theorem dX4_directoryHolds_132 : decode cX4_directoryHolds 132 = .ok (.bipush 16, 2) := dl_o16 kcX4_directoryHolds 16 (by decide +kernel) (by decide +kernel)
theorem dX4_directoryHolds_134 : decode cX4_directoryHolds 134 = .ok (.iload_n 1, 1) := dl_o27 kcX4_directoryHolds (by decide +kernel)
theorem dX4_directoryHolds_135 : decode cX4_directoryHolds 135 = .ok (.imul, 1) := dl_o104 kcX4_directoryHolds (by decide +kernel)
theorem dX4_directoryHolds_136 : decode cX4_directoryHolds 136 = .ok (.iadd, 1) := dl_o96 kcX4_directoryHolds (by decide +kernel)
theorem dX4_directoryHolds_137 : decode cX4_directoryHolds 137 = .ok (.aload_n 0, 1) := dl_o42 kcX4_directoryHolds (by decide +kernel)
theorem dX4_directoryHolds_138 : decode cX4_directoryHolds 138 = .ok (.getfield 9, 3) := dl_o180 kcX4_directoryHolds (by decide +kernel)
theorem dX4_directoryHolds_141 : decode cX4_directoryHolds 141 = .ok (.getfield 70, 3) := dl_o180 kcX4_directoryHolds (by decide +kernel)
theorem dX4_directoryHolds_144 : decode cX4_directoryHolds 144 = .ok (.if_icmp .gt 7, 3) := dl_o163 kcX4_directoryHolds 7 (by decide +kernel) (by decide +kernel)
theorem dX4_directoryHolds_147 : decode cX4_directoryHolds 147 = .ok (.iconst 1, 1) := dl_o4 kcX4_directoryHolds (by decide +kernel)
theorem dX4_directoryHolds_148 : decode cX4_directoryHolds 148 = .ok (.goto 4, 3) := dl_o167 kcX4_directoryHolds 4 (by decide +kernel) (by decide +kernel)
theorem dX4_directoryHolds_151 : decode cX4_directoryHolds 151 = .ok (.iconst 0, 1) := dl_o3 kcX4_directoryHolds (by decide +kernel)
theorem dX4_directoryHolds_152 : decode cX4_directoryHolds 152 = .ok (.ireturn, 1) := dl_o172 kcX4_directoryHolds (by decide +kernel)
def B_X4_directoryHolds_67 (N : Nat) (k53 : Int32 → Int32 → Int32 → sv_V → Option (Int32 × sv_V)) (l1 : Int32) (l2 : Int32) (l3 : Int32) (V : sv_V) : Option (Int32 × sv_V) := sx_let (l3 + 1) (fun x1 => k53 l1 l2 x1 V)
set_option maxRecDepth 20000 in
theorem tB_X4_directoryHolds_67 {g : sx_G} (hG : sx_Go g) {P : Option Value → sv_V → Prop} {r : Int32} {Vr : sv_V} (hP : P (some (.int r)) Vr) {N : Nat} {k53 : Int32 → Int32 → Int32 → sv_V → Option (Int32 × sv_V)} (hk53 : ∀ (l1 : Int32) (l2 : Int32) (l3 : Int32) (V : sv_V), k53 l1 l2 l3 V = some (r, Vr) → sv_N g qX4_directoryHolds 2 53 [(0, .ref 29), (1, .int l1), (2, .int l2), (3, .int l3)] [] V P) {l1 : Int32} {l2 : Int32} {l3 : Int32} {V : sv_V} (h : B_X4_directoryHolds_67 N k53 l1 l2 l3 V = some (r, Vr)) : sv_N g qX4_directoryHolds 2 67 [(0, .ref 29), (1, .int l1), (2, .int l2), (3, .int l3)] [] V P := by
  unfold B_X4_directoryHolds_67 at h
  obtain ⟨x1, hx1⟩ : ∃ z : Int32, z = l3 + 1 := ⟨_, rfl⟩
  have h := sx_letE hx1 h
  refine sx_iinc (pc := 67) (v := x1) (lo' := [(3, .int x1), (0, .ref 29), (1, .int l1), (2, .int l2)]) dX4_directoryHolds_67 sx_m3 (by rw [hx1]; rfl) (by decide) rfl ?_
  refine sx_goto (pc := 70) (tgt := 53) dX4_directoryHolds_70 (by decide) ?_
  refine sx_wk (sx_s1 sx_m1 (sx_s1 sx_m2 (sx_s1 sx_m3 (sx_s1 sx_m0 sx_s0)))) ?_
  exact hk53 _ _ _ _ h
def B_X4_directoryHolds_53 (N : Nat) (k53 : Int32 → Int32 → Int32 → sv_V → Option (Int32 × sv_V)) (l1 : Int32) (l2 : Int32) (l3 : Int32) (V : sv_V) : Option (Int32 × sv_V) := if (4 : Int32) < l3 then (sx_let ((16 : Int32) <<< (l2 &&& 31)) (fun x3 => sx_let (sv_I V 2 5 l1) (fun V4 => (F_X2_u2 (6 : Int32) V4).bind (fun (x7, V5) => if x7 = x3 then ((F_X2_u2 (8 : Int32) V5).bind (fun (x11, V9) => if x11 = l2 then ((F_X2_u2 (10 : Int32) V9).bind (fun (x15, V13) => if x15 = (((16 : Int32) * l1) - x3) then (if (V13.1 2 1) < ((12 : Int32) + ((16 : Int32) * l1)) then (some ((0 : Int32), V13)) else (some ((1 : Int32), V13))) else (some ((0 : Int32), V13)))) else (some ((0 : Int32), V9)))) else (some ((0 : Int32), V5)))))) else (if l1 < ((1 : Int32) <<< (l3 &&& 31)) then (B_X4_directoryHolds_67 N k53 l1 l2 l3 V) else (B_X4_directoryHolds_67 N k53 l1 l3 l3 V))
set_option maxRecDepth 20000 in
theorem tB_X4_directoryHolds_53 {g : sx_G} (hG : sx_Go g) {P : Option Value → sv_V → Prop} {r : Int32} {Vr : sv_V} (hP : P (some (.int r)) Vr) {N : Nat} {k53 : Int32 → Int32 → Int32 → sv_V → Option (Int32 × sv_V)} (hk53 : ∀ (l1 : Int32) (l2 : Int32) (l3 : Int32) (V : sv_V), k53 l1 l2 l3 V = some (r, Vr) → sv_N g qX4_directoryHolds 2 53 [(0, .ref 29), (1, .int l1), (2, .int l2), (3, .int l3)] [] V P) {l1 : Int32} {l2 : Int32} {l3 : Int32} {V : sv_V} (h : B_X4_directoryHolds_53 N k53 l1 l2 l3 V = some (r, Vr)) : sv_N g qX4_directoryHolds 2 53 [(0, .ref 29), (1, .int l1), (2, .int l2), (3, .int l3)] [] V P := by
  unfold B_X4_directoryHolds_53 at h
  refine sx_iload_n (pc := 53) dX4_directoryHolds_53 sx_m3 ?_
  refine sx_iconst (pc := 54) (v := 4) dX4_directoryHolds_54 (by decide) ?_
  refine sx_icmp_gt (pc := 55) (tgt := 73) dX4_directoryHolds_55 (by decide) (fun c2 => ?_) (fun c2 => ?_)
  · have h := sx_pos c2 h
    refine sx_bipush (pc := 73) (v := 16) dX4_directoryHolds_73 (by decide) ?_
    refine sx_iload_n (pc := 75) dX4_directoryHolds_75 sx_m2 ?_
    refine sx_ishl (pc := 76) dX4_directoryHolds_76 ?_
    refine sv_tI (fun x3 hx3 => ?_)
    have h := sx_letE hx3 h
    refine sx_istore_n (pc := 77) (lo' := [(3, .int x3), (0, .ref 29), (1, .int l1), (2, .int l2)]) dX4_directoryHolds_77 (by decide) rfl ?_
    refine sx_aload_n (pc := 78) dX4_directoryHolds_78 sx_m1 ?_
    refine sv_getO (pc := 79) hG dX4_directoryHolds_79 f_4_9 lay_29 rfl cr_29_0 ?_
    refine sx_iload_n (pc := 82) dX4_directoryHolds_82 sx_m2 ?_
    obtain ⟨V4, hV4⟩ : ∃ z : sv_V, z = sv_I V 2 5 l1 := ⟨_, rfl⟩
    have h := sx_letE hV4 h
    refine sv_putI (pc := 83) hG dX4_directoryHolds_83 f_4_80 lay_2 rfl hV4 ?_
    refine sx_aload_n (pc := 86) dX4_directoryHolds_86 sx_m1 ?_
    refine sv_getO (pc := 87) hG dX4_directoryHolds_87 f_4_9 lay_29 rfl cr_29_0 ?_
    refine sx_bipush (pc := 90) (v := 6) dX4_directoryHolds_90 (by decide) ?_
    obtain ⟨⟨x7, V5⟩, g6, h⟩ := sx_bnd h
    refine sv_cV (pc := 92) (y := qX2_u2) (o := (some (.int x7))) (as := [.int (6 : Int32)]) (V1 := V5) hG dX4_directoryHolds_92 l_X4_64 y0X2_u2 yvX2_u2 rfl (Nat.le_of_ble_eq_true rfl) lay_2 kr_2 (by decide) (Nat.le_of_ble_eq_true rfl) rfl rfl rfl (t_X2_u2 hG ⟨rfl, rfl⟩ g6) ?_
    refine sx_iload_n (pc := 95) dX4_directoryHolds_95 sx_m0 ?_
    refine sx_icmp_ne (pc := 96) (tgt := 151) dX4_directoryHolds_96 (by decide) (fun c8 => ?_) (fun c8 => ?_)
    · have h := sx_neg c8 h
      refine sx_iconst (pc := 151) (v := 0) dX4_directoryHolds_151 (by decide) ?_
      exact sv_zret (pc := 152) dX4_directoryHolds_152 rfl rfl h hP
    · have h := sx_pos c8 h
      refine sx_aload_n (pc := 99) dX4_directoryHolds_99 sx_m1 ?_
      refine sv_getO (pc := 100) hG dX4_directoryHolds_100 f_4_9 lay_29 rfl cr_29_0 ?_
      refine sx_bipush (pc := 103) (v := 8) dX4_directoryHolds_103 (by decide) ?_
      obtain ⟨⟨x11, V9⟩, g10, h⟩ := sx_bnd h
      refine sv_cV (pc := 105) (y := qX2_u2) (o := (some (.int x11))) (as := [.int (8 : Int32)]) (V1 := V9) hG dX4_directoryHolds_105 l_X4_64 y0X2_u2 yvX2_u2 rfl (Nat.le_of_ble_eq_true rfl) lay_2 kr_2 (by decide) (Nat.le_of_ble_eq_true rfl) rfl rfl rfl (t_X2_u2 hG ⟨rfl, rfl⟩ g10) ?_
      refine sx_iload_n (pc := 108) dX4_directoryHolds_108 sx_m3 ?_
      refine sx_icmp_ne (pc := 109) (tgt := 151) dX4_directoryHolds_109 (by decide) (fun c12 => ?_) (fun c12 => ?_)
      · have h := sx_neg c12 h
        refine sx_iconst (pc := 151) (v := 0) dX4_directoryHolds_151 (by decide) ?_
        exact sv_zret (pc := 152) dX4_directoryHolds_152 rfl rfl h hP
      · have h := sx_pos c12 h
        refine sx_aload_n (pc := 112) dX4_directoryHolds_112 sx_m1 ?_
        refine sv_getO (pc := 113) hG dX4_directoryHolds_113 f_4_9 lay_29 rfl cr_29_0 ?_
        refine sx_bipush (pc := 116) (v := 10) dX4_directoryHolds_116 (by decide) ?_
        obtain ⟨⟨x15, V13⟩, g14, h⟩ := sx_bnd h
        refine sv_cV (pc := 118) (y := qX2_u2) (o := (some (.int x15))) (as := [.int (10 : Int32)]) (V1 := V13) hG dX4_directoryHolds_118 l_X4_64 y0X2_u2 yvX2_u2 rfl (Nat.le_of_ble_eq_true rfl) lay_2 kr_2 (by decide) (Nat.le_of_ble_eq_true rfl) rfl rfl rfl (t_X2_u2 hG ⟨rfl, rfl⟩ g14) ?_
        refine sx_bipush (pc := 121) (v := 16) dX4_directoryHolds_121 (by decide) ?_
        refine sx_iload_n (pc := 123) dX4_directoryHolds_123 sx_m2 ?_
        refine sx_imul (pc := 124) dX4_directoryHolds_124 ?_
        refine sx_iload_n (pc := 125) dX4_directoryHolds_125 sx_m0 ?_
        refine sx_isub (pc := 126) dX4_directoryHolds_126 ?_
        refine sx_icmp_ne (pc := 127) (tgt := 151) dX4_directoryHolds_127 (by decide) (fun c16 => ?_) (fun c16 => ?_)
        · have h := sx_neg c16 h
          refine sx_iconst (pc := 151) (v := 0) dX4_directoryHolds_151 (by decide) ?_
          exact sv_zret (pc := 152) dX4_directoryHolds_152 rfl rfl h hP
        · have h := sx_pos c16 h
          refine sx_bipush (pc := 130) (v := 12) dX4_directoryHolds_130 (by decide) ?_
          refine sx_bipush (pc := 132) (v := 16) dX4_directoryHolds_132 (by decide) ?_
          refine sx_iload_n (pc := 134) dX4_directoryHolds_134 sx_m2 ?_
          refine sx_imul (pc := 135) dX4_directoryHolds_135 ?_
          refine sx_iadd (pc := 136) dX4_directoryHolds_136 ?_
          refine sx_aload_n (pc := 137) dX4_directoryHolds_137 sx_m1 ?_
          refine sv_getO (pc := 138) hG dX4_directoryHolds_138 f_4_9 lay_29 rfl cr_29_0 ?_
          refine sv_getI (pc := 141) hG dX4_directoryHolds_141 f_4_70 lay_2 rfl ?_
          refine sx_icmp_gt (pc := 144) (tgt := 151) dX4_directoryHolds_144 (by decide) (fun c17 => ?_) (fun c17 => ?_)
          · have h := sx_pos c17 h
            refine sx_iconst (pc := 151) (v := 0) dX4_directoryHolds_151 (by decide) ?_
            exact sv_zret (pc := 152) dX4_directoryHolds_152 rfl rfl h hP
          · have h := sx_neg c17 h
            refine sx_iconst (pc := 147) (v := 1) dX4_directoryHolds_147 (by decide) ?_
            refine sx_goto (pc := 148) (tgt := 152) dX4_directoryHolds_148 (by decide) ?_
            exact sv_zret (pc := 152) dX4_directoryHolds_152 rfl rfl h hP
  · have h := sx_neg c2 h
    refine sx_iconst (pc := 58) (v := 1) dX4_directoryHolds_58 (by decide) ?_
    refine sx_iload_n (pc := 59) dX4_directoryHolds_59 sx_m3 ?_
    refine sx_ishl (pc := 60) dX4_directoryHolds_60 ?_
    refine sx_iload_n (pc := 61) dX4_directoryHolds_61 sx_m1 ?_
    refine sx_icmp_gt (pc := 62) (tgt := 67) dX4_directoryHolds_62 (by decide) (fun c18 => ?_) (fun c18 => ?_)
    · have h := sx_pos c18 h
      refine sx_wk (sx_s1 sx_m0 (sx_s1 sx_m1 (sx_s1 sx_m2 (sx_s1 sx_m3 sx_s0)))) ?_
      exact tB_X4_directoryHolds_67 hG hP hk53 h
    · have h := sx_neg c18 h
      refine sx_iload_n (pc := 65) dX4_directoryHolds_65 sx_m3 ?_
      refine sx_istore_n (pc := 66) (lo' := [(2, .int l3), (0, .ref 29), (1, .int l1), (3, .int l3)]) dX4_directoryHolds_66 (by decide) rfl ?_
      refine sx_wk (sx_s1 sx_m1 (sx_s1 sx_m2 (sx_s1 sx_m0 (sx_s1 sx_m3 sx_s0)))) ?_
      exact tB_X4_directoryHolds_67 hG hP hk53 h
theorem tL_X4_directoryHolds_53 {g : sx_G} (hG : sx_Go g) {P : Option Value → sv_V → Prop} {r : Int32} {Vr : sv_V} (hP : P (some (.int r)) Vr) {N : Nat}   : ∀ (n : Nat) (l1 : Int32) (l2 : Int32) (l3 : Int32) (V : sv_V), sx_lp4 (B_X4_directoryHolds_53 N ) n l1 l2 l3 V = some (r, Vr) → sv_N g qX4_directoryHolds 2 53 [(0, .ref 29), (1, .int l1), (2, .int l2), (3, .int l3)] [] V P :=
  sx_lp4_ind (fun k0 ih _ _ _ V h => tB_X4_directoryHolds_53 hG hP ih h)
def F_X4_directoryHolds (N : Nat)  (V : sv_V) : Option (Int32 × sv_V) := (F_X2_u2 (4 : Int32) V).bind (fun (x21, V19) => if (V19.1 2 1) < (12 : Int32) then (some ((0 : Int32), V19)) else ((F_X2_u4 (0 : Int32) V19).bind (fun (x25, V23) => if (lg_cmp x25 (65536 : Int64)) = 0 then (if x21 < (1 : Int32) then (some ((0 : Int32), V23)) else (if x21 ≤ (16 : Int32) then (sx_lp4 (B_X4_directoryHolds_53 N ) N x21 (0 : Int32) (1 : Int32) V23) else (some ((0 : Int32), V23)))) else (some ((0 : Int32), V23)))))
set_option maxRecDepth 20000 in
theorem t_X4_directoryHolds {g : sx_G} (hG : sx_Go g) {P : Option Value → sv_V → Prop} {r : Int32} {Vr : sv_V} (hP : P (some (.int r)) Vr) {N : Nat}  {V : sv_V} (h : F_X4_directoryHolds N  V = some (r, Vr)) : sv_N g qX4_directoryHolds 2 0 [(0, .ref 29)] [] V P := by
  unfold F_X4_directoryHolds at h
  refine sx_aload_n (pc := 0) dX4_directoryHolds_0 sx_m0 ?_
  refine sv_getO (pc := 1) hG dX4_directoryHolds_1 f_4_9 lay_29 rfl cr_29_0 ?_
  refine sx_iconst (pc := 4) (v := 4) dX4_directoryHolds_4 (by decide) ?_
  obtain ⟨⟨x21, V19⟩, g20, h⟩ := sx_bnd h
  refine sv_cV (pc := 5) (y := qX2_u2) (o := (some (.int x21))) (as := [.int (4 : Int32)]) (V1 := V19) hG dX4_directoryHolds_5 l_X4_64 y0X2_u2 yvX2_u2 rfl (Nat.le_of_ble_eq_true rfl) lay_2 kr_2 (by decide) (Nat.le_of_ble_eq_true rfl) rfl rfl rfl (t_X2_u2 hG ⟨rfl, rfl⟩ g20) ?_
  refine sx_istore_n (pc := 8) (lo' := [(1, .int x21), (0, .ref 29)]) dX4_directoryHolds_8 (by decide) rfl ?_
  refine sx_aload_n (pc := 9) dX4_directoryHolds_9 sx_m1 ?_
  refine sv_getO (pc := 10) hG dX4_directoryHolds_10 f_4_9 lay_29 rfl cr_29_0 ?_
  refine sv_getI (pc := 13) hG dX4_directoryHolds_13 f_4_70 lay_2 rfl ?_
  refine sx_bipush (pc := 16) (v := 12) dX4_directoryHolds_16 (by decide) ?_
  refine sx_icmp_lt (pc := 18) (tgt := 47) dX4_directoryHolds_18 (by decide) (fun c22 => ?_) (fun c22 => ?_)
  · have h := sx_pos c22 h
    refine sx_iconst (pc := 47) (v := 0) dX4_directoryHolds_47 (by decide) ?_
    exact sv_zret (pc := 48) dX4_directoryHolds_48 rfl rfl h hP
  · have h := sx_neg c22 h
    refine sx_aload_n (pc := 21) dX4_directoryHolds_21 sx_m1 ?_
    refine sv_getO (pc := 22) hG dX4_directoryHolds_22 f_4_9 lay_29 rfl cr_29_0 ?_
    refine sx_iconst (pc := 25) (v := 0) dX4_directoryHolds_25 (by decide) ?_
    obtain ⟨⟨x25, V23⟩, g24, h⟩ := sx_bnd h
    refine sv_cV (pc := 26) (y := qX2_u4) (o := (some (.long x25))) (as := [.int (0 : Int32)]) (V1 := V23) hG dX4_directoryHolds_26 l_X4_74 y0X2_u4 yvX2_u4 rfl (Nat.le_of_ble_eq_true rfl) lay_2 kr_2 (by decide) (Nat.le_of_ble_eq_true rfl) rfl rfl rfl (t_X2_u4 hG ⟨rfl, rfl⟩ g24) ?_
    refine sx_ldc2 (pc := 29) dX4_directoryHolds_29 k_X4_78 ?_
    refine sx_lcmp (pc := 32) dX4_directoryHolds_32 ?_
    refine sx_if_ne (pc := 33) (tgt := 47) dX4_directoryHolds_33 (by decide) (fun c26 => ?_) (fun c26 => ?_)
    · have h := sx_neg c26 h
      refine sx_iconst (pc := 47) (v := 0) dX4_directoryHolds_47 (by decide) ?_
      exact sv_zret (pc := 48) dX4_directoryHolds_48 rfl rfl h hP
    · have h := sx_pos c26 h
      refine sx_iload_n (pc := 36) dX4_directoryHolds_36 sx_m0 ?_
      refine sx_iconst (pc := 37) (v := 1) dX4_directoryHolds_37 (by decide) ?_
      refine sx_icmp_lt (pc := 38) (tgt := 47) dX4_directoryHolds_38 (by decide) (fun c27 => ?_) (fun c27 => ?_)
      · have h := sx_pos c27 h
        refine sx_iconst (pc := 47) (v := 0) dX4_directoryHolds_47 (by decide) ?_
        exact sv_zret (pc := 48) dX4_directoryHolds_48 rfl rfl h hP
      · have h := sx_neg c27 h
        refine sx_iload_n (pc := 41) dX4_directoryHolds_41 sx_m0 ?_
        refine sx_bipush (pc := 42) (v := 16) dX4_directoryHolds_42 (by decide) ?_
        refine sx_icmp_le (pc := 44) (tgt := 49) dX4_directoryHolds_44 (by decide) (fun c28 => ?_) (fun c28 => ?_)
        · have h := sx_pos c28 h
          refine sx_iconst (pc := 49) (v := 0) dX4_directoryHolds_49 (by decide) ?_
          refine sx_istore_n (pc := 50) (lo' := [(2, .int (0 : Int32)), (1, .int x21), (0, .ref 29)]) dX4_directoryHolds_50 (by decide) rfl ?_
          refine sx_iconst (pc := 51) (v := 1) dX4_directoryHolds_51 (by decide) ?_
          refine sx_istore_n (pc := 52) (lo' := [(3, .int (1 : Int32)), (2, .int (0 : Int32)), (1, .int x21), (0, .ref 29)]) dX4_directoryHolds_52 (by decide) rfl ?_
          refine sx_wk (sx_s1 sx_m3 (sx_s1 sx_m2 (sx_s1 sx_m1 (sx_s1 sx_m0 sx_s0)))) ?_
          exact tL_X4_directoryHolds_53 hG hP  N _ _ _ _ h
        · have h := sx_neg c28 h
          refine sx_iconst (pc := 47) (v := 0) dX4_directoryHolds_47 (by decide) ?_
          exact sv_zret (pc := 48) dX4_directoryHolds_48 rfl rfl h hP
def ncX4_entry : Nat := 3864475470924815384281835496454876391874278442
theorem kcX4_entry : CK cX4_entry ncX4_entry 19 := ⟨by decide +kernel, by decide +kernel⟩
theorem dX4_entry_0 : decode cX4_entry 0 = .ok (.aload_n 0, 1) := dl_o42 kcX4_entry (by decide +kernel)
theorem dX4_entry_1 : decode cX4_entry 1 = .ok (.getfield 9, 3) := dl_o180 kcX4_entry (by decide +kernel)
theorem dX4_entry_4 : decode cX4_entry 4 = .ok (.bipush 12, 2) := dl_o16 kcX4_entry 12 (by decide +kernel) (by decide +kernel)
theorem dX4_entry_6 : decode cX4_entry 6 = .ok (.bipush 16, 2) := dl_o16 kcX4_entry 16 (by decide +kernel) (by decide +kernel)
theorem dX4_entry_8 : decode cX4_entry 8 = .ok (.iload_n 1, 1) := dl_o27 kcX4_entry (by decide +kernel)
theorem dX4_entry_9 : decode cX4_entry 9 = .ok (.imul, 1) := dl_o104 kcX4_entry (by decide +kernel)
theorem dX4_entry_10 : decode cX4_entry 10 = .ok (.iadd, 1) := dl_o96 kcX4_entry (by decide +kernel)
theorem dX4_entry_11 : decode cX4_entry 11 = .ok (.iconst 4, 1) := dl_o7 kcX4_entry (by decide +kernel)
theorem dX4_entry_12 : decode cX4_entry 12 = .ok (.iload_n 2, 1) := dl_o28 kcX4_entry (by decide +kernel)
theorem dX4_entry_13 : decode cX4_entry 13 = .ok (.imul, 1) := dl_o104 kcX4_entry (by decide +kernel)
theorem dX4_entry_14 : decode cX4_entry 14 = .ok (.iadd, 1) := dl_o96 kcX4_entry (by decide +kernel)
theorem dX4_entry_15 : decode cX4_entry 15 = .ok (.invokevirtual 74, 3) := dl_o182 kcX4_entry (by decide +kernel)
theorem dX4_entry_18 : decode cX4_entry 18 = .ok (.lreturn, 1) := dl_o173 kcX4_entry (by decide +kernel)
def F_X4_entry (l1 : Int32) (l2 : Int32) (V : sv_V) : Option (Int64 × sv_V) := (F_X2_u4 (((12 : Int32) + ((16 : Int32) * l1)) + ((4 : Int32) * l2)) V).bind (fun (x3, V1) => some (x3, V1))
set_option maxRecDepth 20000 in
theorem t_X4_entry {g : sx_G} (hG : sx_Go g) {P : Option Value → sv_V → Prop} {r : Int64} {Vr : sv_V} (hP : P (some (.long r)) Vr) {l1 : Int32} {l2 : Int32} {V : sv_V} (h : F_X4_entry l1 l2 V = some (r, Vr)) : sv_N g qX4_entry 2 0 [(0, .ref 29), (1, .int l1), (2, .int l2)] [] V P := by
  unfold F_X4_entry at h
  refine sx_aload_n (pc := 0) dX4_entry_0 sx_m0 ?_
  refine sv_getO (pc := 1) hG dX4_entry_1 f_4_9 lay_29 rfl cr_29_0 ?_
  refine sx_bipush (pc := 4) (v := 12) dX4_entry_4 (by decide) ?_
  refine sx_bipush (pc := 6) (v := 16) dX4_entry_6 (by decide) ?_
  refine sx_iload_n (pc := 8) dX4_entry_8 sx_m1 ?_
  refine sx_imul (pc := 9) dX4_entry_9 ?_
  refine sx_iadd (pc := 10) dX4_entry_10 ?_
  refine sx_iconst (pc := 11) (v := 4) dX4_entry_11 (by decide) ?_
  refine sx_iload_n (pc := 12) dX4_entry_12 sx_m2 ?_
  refine sx_imul (pc := 13) dX4_entry_13 ?_
  refine sx_iadd (pc := 14) dX4_entry_14 ?_
  obtain ⟨⟨x3, V1⟩, g2, h⟩ := sx_bnd h
  refine sv_cV (pc := 15) (y := qX2_u4) (o := (some (.long x3))) (as := [.int (((12 : Int32) + ((16 : Int32) * l1)) + ((4 : Int32) * l2))]) (V1 := V1) hG dX4_entry_15 l_X4_74 y0X2_u4 yvX2_u4 rfl (Nat.le_of_ble_eq_true rfl) lay_2 kr_2 (by decide) (Nat.le_of_ble_eq_true rfl) rfl rfl rfl (t_X2_u4 hG ⟨rfl, rfl⟩ g2) ?_
  exact sv_lret (pc := 18) dX4_entry_18 rfl h hP
def ncX4_tagsRise : Nat := 367430413075936545988072420956770857329245698727794785528544586469236484481117701560950821922487300
theorem kcX4_tagsRise : CK cX4_tagsRise ncX4_tagsRise 41 := ⟨by decide +kernel, by decide +kernel⟩
theorem dX4_tagsRise_0 : decode cX4_tagsRise 0 = .ok (.iconst 1, 1) := dl_o4 kcX4_tagsRise (by decide +kernel)
theorem dX4_tagsRise_1 : decode cX4_tagsRise 1 = .ok (.istore_n 1, 1) := dl_o60 kcX4_tagsRise (by decide +kernel)
theorem dX4_tagsRise_2 : decode cX4_tagsRise 2 = .ok (.iload_n 1, 1) := dl_o27 kcX4_tagsRise (by decide +kernel)
theorem dX4_tagsRise_3 : decode cX4_tagsRise 3 = .ok (.aload_n 0, 1) := dl_o42 kcX4_tagsRise (by decide +kernel)
theorem dX4_tagsRise_4 : decode cX4_tagsRise 4 = .ok (.getfield 9, 3) := dl_o180 kcX4_tagsRise (by decide +kernel)
theorem dX4_tagsRise_7 : decode cX4_tagsRise 7 = .ok (.getfield 80, 3) := dl_o180 kcX4_tagsRise (by decide +kernel)
theorem dX4_tagsRise_10 : decode cX4_tagsRise 10 = .ok (.if_icmp .ge 29, 3) := dl_o162 kcX4_tagsRise 29 (by decide +kernel) (by decide +kernel)
theorem dX4_tagsRise_13 : decode cX4_tagsRise 13 = .ok (.aload_n 0, 1) := dl_o42 kcX4_tagsRise (by decide +kernel)
theorem dX4_tagsRise_14 : decode cX4_tagsRise 14 = .ok (.iload_n 1, 1) := dl_o27 kcX4_tagsRise (by decide +kernel)
theorem dX4_tagsRise_15 : decode cX4_tagsRise 15 = .ok (.iconst 0, 1) := dl_o3 kcX4_tagsRise (by decide +kernel)
theorem dX4_tagsRise_16 : decode cX4_tagsRise 16 = .ok (.invokevirtual 83, 3) := dl_o182 kcX4_tagsRise (by decide +kernel)
theorem dX4_tagsRise_19 : decode cX4_tagsRise 19 = .ok (.aload_n 0, 1) := dl_o42 kcX4_tagsRise (by decide +kernel)
theorem dX4_tagsRise_20 : decode cX4_tagsRise 20 = .ok (.iload_n 1, 1) := dl_o27 kcX4_tagsRise (by decide +kernel)
theorem dX4_tagsRise_21 : decode cX4_tagsRise 21 = .ok (.iconst 1, 1) := dl_o4 kcX4_tagsRise (by decide +kernel)
theorem dX4_tagsRise_22 : decode cX4_tagsRise 22 = .ok (.isub, 1) := dl_o100 kcX4_tagsRise (by decide +kernel)
theorem dX4_tagsRise_23 : decode cX4_tagsRise 23 = .ok (.iconst 0, 1) := dl_o3 kcX4_tagsRise (by decide +kernel)
theorem dX4_tagsRise_24 : decode cX4_tagsRise 24 = .ok (.invokevirtual 83, 3) := dl_o182 kcX4_tagsRise (by decide +kernel)
theorem dX4_tagsRise_27 : decode cX4_tagsRise 27 = .ok (.lcmp, 1) := dl_o148 kcX4_tagsRise (by decide +kernel)
theorem dX4_tagsRise_28 : decode cX4_tagsRise 28 = .ok (.ifCond .gt 5, 3) := dl_o157 kcX4_tagsRise 5 (by decide +kernel) (by decide +kernel)
theorem dX4_tagsRise_31 : decode cX4_tagsRise 31 = .ok (.iconst 0, 1) := dl_o3 kcX4_tagsRise (by decide +kernel)
theorem dX4_tagsRise_32 : decode cX4_tagsRise 32 = .ok (.ireturn, 1) := dl_o172 kcX4_tagsRise (by decide +kernel)
theorem dX4_tagsRise_33 : decode cX4_tagsRise 33 = .ok (.iinc 1 1, 3) := by decide +kernel
theorem dX4_tagsRise_36 : decode cX4_tagsRise 36 = .ok (.goto (-34), 3) := dl_o167 kcX4_tagsRise 65502 (by decide +kernel) (by decide +kernel)
theorem dX4_tagsRise_39 : decode cX4_tagsRise 39 = .ok (.iconst 1, 1) := dl_o4 kcX4_tagsRise (by decide +kernel)
theorem dX4_tagsRise_40 : decode cX4_tagsRise 40 = .ok (.ireturn, 1) := dl_o172 kcX4_tagsRise (by decide +kernel)
def B_X4_tagsRise_2 (N : Nat) (k2 : Int32 → sv_V → Option (Int32 × sv_V)) (l1 : Int32) (V : sv_V) : Option (Int32 × sv_V) := if (V.1 2 5) ≤ l1 then (some ((1 : Int32), V)) else ((F_X4_entry l1 (0 : Int32) V).bind (fun (x4, V2) => (F_X4_entry (l1 - (1 : Int32)) (0 : Int32) V2).bind (fun (x7, V5) => if 0 < (lg_cmp x4 x7) then (sx_let (l1 + 1) (fun x9 => k2 x9 V5)) else (some ((0 : Int32), V5)))))
set_option maxRecDepth 20000 in
theorem tB_X4_tagsRise_2 {g : sx_G} (hG : sx_Go g) {P : Option Value → sv_V → Prop} {r : Int32} {Vr : sv_V} (hP : P (some (.int r)) Vr) {N : Nat} {k2 : Int32 → sv_V → Option (Int32 × sv_V)} (hk2 : ∀ (l1 : Int32) (V : sv_V), k2 l1 V = some (r, Vr) → sv_N g qX4_tagsRise 3 2 [(0, .ref 29), (1, .int l1)] [] V P) {l1 : Int32} {V : sv_V} (h : B_X4_tagsRise_2 N k2 l1 V = some (r, Vr)) : sv_N g qX4_tagsRise 3 2 [(0, .ref 29), (1, .int l1)] [] V P := by
  unfold B_X4_tagsRise_2 at h
  refine sx_iload_n (pc := 2) dX4_tagsRise_2 sx_m1 ?_
  refine sx_aload_n (pc := 3) dX4_tagsRise_3 sx_m0 ?_
  refine sv_getO (pc := 4) hG dX4_tagsRise_4 f_4_9 lay_29 rfl cr_29_0 ?_
  refine sv_getI (pc := 7) hG dX4_tagsRise_7 f_4_80 lay_2 rfl ?_
  refine sx_icmp_ge (pc := 10) (tgt := 39) dX4_tagsRise_10 (by decide) (fun c1 => ?_) (fun c1 => ?_)
  · have h := sx_pos c1 h
    refine sx_iconst (pc := 39) (v := 1) dX4_tagsRise_39 (by decide) ?_
    exact sv_zret (pc := 40) dX4_tagsRise_40 rfl rfl h hP
  · have h := sx_neg c1 h
    refine sx_aload_n (pc := 13) dX4_tagsRise_13 sx_m0 ?_
    refine sx_iload_n (pc := 14) dX4_tagsRise_14 sx_m1 ?_
    refine sx_iconst (pc := 15) (v := 0) dX4_tagsRise_15 (by decide) ?_
    obtain ⟨⟨x4, V2⟩, g3, h⟩ := sx_bnd h
    refine sv_cV (pc := 16) (y := qX4_entry) (o := (some (.long x4))) (as := [.int l1, .int (0 : Int32)]) (V1 := V2) hG dX4_tagsRise_16 l_X4_83 y0X4_entry yvX4_entry rfl (Nat.le_of_ble_eq_true rfl) lay_29 kr_4 (by decide) (Nat.le_of_ble_eq_true rfl) rfl rfl rfl (t_X4_entry hG ⟨rfl, rfl⟩ g3) ?_
    refine sx_aload_n (pc := 19) dX4_tagsRise_19 sx_m0 ?_
    refine sx_iload_n (pc := 20) dX4_tagsRise_20 sx_m1 ?_
    refine sx_iconst (pc := 21) (v := 1) dX4_tagsRise_21 (by decide) ?_
    refine sx_isub (pc := 22) dX4_tagsRise_22 ?_
    refine sx_iconst (pc := 23) (v := 0) dX4_tagsRise_23 (by decide) ?_
    obtain ⟨⟨x7, V5⟩, g6, h⟩ := sx_bnd h
    refine sv_cV (pc := 24) (y := qX4_entry) (o := (some (.long x7))) (as := [.int (l1 - (1 : Int32)), .int (0 : Int32)]) (V1 := V5) hG dX4_tagsRise_24 l_X4_83 y0X4_entry yvX4_entry rfl (Nat.le_of_ble_eq_true rfl) lay_29 kr_4 (by decide) (Nat.le_of_ble_eq_true rfl) rfl rfl rfl (t_X4_entry hG ⟨rfl, rfl⟩ g6) ?_
    refine sx_lcmp (pc := 27) dX4_tagsRise_27 ?_
    refine sx_if_gt (pc := 28) (tgt := 33) dX4_tagsRise_28 (by decide) (fun c8 => ?_) (fun c8 => ?_)
    · have h := sx_pos c8 h
      obtain ⟨x9, hx9⟩ : ∃ z : Int32, z = l1 + 1 := ⟨_, rfl⟩
      have h := sx_letE hx9 h
      refine sx_iinc (pc := 33) (v := x9) (lo' := [(1, .int x9), (0, .ref 29)]) dX4_tagsRise_33 sx_m1 (by rw [hx9]; rfl) (by decide) rfl ?_
      refine sx_goto (pc := 36) (tgt := 2) dX4_tagsRise_36 (by decide) ?_
      refine sx_wk (sx_s1 sx_m1 (sx_s1 sx_m0 sx_s0)) ?_
      exact hk2 _ _ h
    · have h := sx_neg c8 h
      refine sx_iconst (pc := 31) (v := 0) dX4_tagsRise_31 (by decide) ?_
      exact sv_zret (pc := 32) dX4_tagsRise_32 rfl rfl h hP
theorem tL_X4_tagsRise_2 {g : sx_G} (hG : sx_Go g) {P : Option Value → sv_V → Prop} {r : Int32} {Vr : sv_V} (hP : P (some (.int r)) Vr) {N : Nat}   : ∀ (n : Nat) (l1 : Int32) (V : sv_V), sx_lp2 (B_X4_tagsRise_2 N ) n l1 V = some (r, Vr) → sv_N g qX4_tagsRise 3 2 [(0, .ref 29), (1, .int l1)] [] V P :=
  sx_lp2_ind (fun k0 ih _ V h => tB_X4_tagsRise_2 hG hP ih h)
def F_X4_tagsRise (N : Nat)  (V : sv_V) : Option (Int32 × sv_V) := sx_lp2 (B_X4_tagsRise_2 N ) N (1 : Int32) V
set_option maxRecDepth 20000 in
theorem t_X4_tagsRise {g : sx_G} (hG : sx_Go g) {P : Option Value → sv_V → Prop} {r : Int32} {Vr : sv_V} (hP : P (some (.int r)) Vr) {N : Nat}  {V : sv_V} (h : F_X4_tagsRise N  V = some (r, Vr)) : sv_N g qX4_tagsRise 3 0 [(0, .ref 29)] [] V P := by
  unfold F_X4_tagsRise at h
  refine sx_iconst (pc := 0) (v := 1) dX4_tagsRise_0 (by decide) ?_
  refine sx_istore_n (pc := 1) (lo' := [(1, .int (1 : Int32)), (0, .ref 29)]) dX4_tagsRise_1 (by decide) rfl ?_
  refine sx_wk (sx_s1 sx_m1 (sx_s1 sx_m0 sx_s0)) ?_
  exact tL_X4_tagsRise_2 hG hP  N _ _ h
end
section
/-! methods: X4_sumOf, X4_findTables, X4_headHolds, X4_maxpHolds, X4_hheaHolds, X4_hmtxHolds, X4_placeInGlyf, X4_locaHolds, X4_mapPlace, X4_noteMap, X4_byteMapHolds, X4_segmentsHold, X4_groupsHold -/
def ncX4_sumOf : Nat := 654774245912315809903807026221263146991951690088741242885767754772256436220031868116875130988993060579588582662623640986426598336995348938347728015781324298216849614845705
theorem kcX4_sumOf : CK cX4_sumOf ncX4_sumOf 71 := ⟨by decide +kernel, by decide +kernel⟩
theorem dX4_sumOf_0 : decode cX4_sumOf 0 = .ok (.lconst 0, 1) := dl_o9 kcX4_sumOf (by decide +kernel)
theorem dX4_sumOf_1 : decode cX4_sumOf 1 = .ok (.lstore 4, 2) := dl_o55 kcX4_sumOf (by decide +kernel)
theorem dX4_sumOf_3 : decode cX4_sumOf 3 = .ok (.iconst 0, 1) := dl_o3 kcX4_sumOf (by decide +kernel)
theorem dX4_sumOf_4 : decode cX4_sumOf 4 = .ok (.istore 6, 2) := dl_o54 kcX4_sumOf (by decide +kernel)
theorem dX4_sumOf_6 : decode cX4_sumOf 6 = .ok (.iload 6, 2) := dl_o21 kcX4_sumOf (by decide +kernel)
theorem dX4_sumOf_8 : decode cX4_sumOf 8 = .ok (.iload_n 2, 1) := dl_o28 kcX4_sumOf (by decide +kernel)
theorem dX4_sumOf_9 : decode cX4_sumOf 9 = .ok (.if_icmp .ge 55, 3) := dl_o162 kcX4_sumOf 55 (by decide +kernel) (by decide +kernel)
theorem dX4_sumOf_12 : decode cX4_sumOf 12 = .ok (.iload_n 3, 1) := dl_o29 kcX4_sumOf (by decide +kernel)
theorem dX4_sumOf_13 : decode cX4_sumOf 13 = .ok (.ifCond .eq 17, 3) := dl_o153 kcX4_sumOf 17 (by decide +kernel) (by decide +kernel)
theorem dX4_sumOf_16 : decode cX4_sumOf 16 = .ok (.iload 6, 2) := dl_o21 kcX4_sumOf (by decide +kernel)
theorem dX4_sumOf_18 : decode cX4_sumOf 18 = .ok (.bipush 8, 2) := dl_o16 kcX4_sumOf 8 (by decide +kernel) (by decide +kernel)
theorem dX4_sumOf_20 : decode cX4_sumOf 20 = .ok (.if_icmp .lt 10, 3) := dl_o161 kcX4_sumOf 10 (by decide +kernel) (by decide +kernel)
theorem dX4_sumOf_23 : decode cX4_sumOf 23 = .ok (.iload 6, 2) := dl_o21 kcX4_sumOf (by decide +kernel)
theorem dX4_sumOf_25 : decode cX4_sumOf 25 = .ok (.bipush 11, 2) := dl_o16 kcX4_sumOf 11 (by decide +kernel) (by decide +kernel)
theorem dX4_sumOf_27 : decode cX4_sumOf 27 = .ok (.if_icmp .le 31, 3) := dl_o164 kcX4_sumOf 31 (by decide +kernel) (by decide +kernel)
theorem dX4_sumOf_30 : decode cX4_sumOf 30 = .ok (.lload 4, 2) := dl_o22 kcX4_sumOf (by decide +kernel)
theorem dX4_sumOf_32 : decode cX4_sumOf 32 = .ok (.aload_n 0, 1) := dl_o42 kcX4_sumOf (by decide +kernel)
theorem dX4_sumOf_33 : decode cX4_sumOf 33 = .ok (.getfield 9, 3) := dl_o180 kcX4_sumOf (by decide +kernel)
theorem dX4_sumOf_36 : decode cX4_sumOf 36 = .ok (.iload_n 1, 1) := dl_o27 kcX4_sumOf (by decide +kernel)
theorem dX4_sumOf_37 : decode cX4_sumOf 37 = .ok (.iload 6, 2) := dl_o21 kcX4_sumOf (by decide +kernel)
theorem dX4_sumOf_39 : decode cX4_sumOf 39 = .ok (.iadd, 1) := dl_o96 kcX4_sumOf (by decide +kernel)
theorem dX4_sumOf_40 : decode cX4_sumOf 40 = .ok (.invokevirtual 110, 3) := dl_o182 kcX4_sumOf (by decide +kernel)
theorem dX4_sumOf_43 : decode cX4_sumOf 43 = .ok (.i2l, 1) := dl_o133 kcX4_sumOf (by decide +kernel)
theorem dX4_sumOf_44 : decode cX4_sumOf 44 = .ok (.bipush 24, 2) := dl_o16 kcX4_sumOf 24 (by decide +kernel) (by decide +kernel)
theorem dX4_sumOf_46 : decode cX4_sumOf 46 = .ok (.bipush 8, 2) := dl_o16 kcX4_sumOf 8 (by decide +kernel) (by decide +kernel)
theorem dX4_sumOf_48 : decode cX4_sumOf 48 = .ok (.iload 6, 2) := dl_o21 kcX4_sumOf (by decide +kernel)
theorem dX4_sumOf_50 : decode cX4_sumOf 50 = .ok (.iconst 3, 1) := dl_o6 kcX4_sumOf (by decide +kernel)
theorem dX4_sumOf_51 : decode cX4_sumOf 51 = .ok (.iand, 1) := dl_o126 kcX4_sumOf (by decide +kernel)
theorem dX4_sumOf_52 : decode cX4_sumOf 52 = .ok (.imul, 1) := dl_o104 kcX4_sumOf (by decide +kernel)
theorem dX4_sumOf_53 : decode cX4_sumOf 53 = .ok (.isub, 1) := dl_o100 kcX4_sumOf (by decide +kernel)
theorem dX4_sumOf_54 : decode cX4_sumOf 54 = .ok (.lshl, 1) := dl_o121 kcX4_sumOf (by decide +kernel)
theorem dX4_sumOf_55 : decode cX4_sumOf 55 = .ok (.ladd, 1) := dl_o97 kcX4_sumOf (by decide +kernel)
theorem dX4_sumOf_56 : decode cX4_sumOf 56 = .ok (.lstore 4, 2) := dl_o55 kcX4_sumOf (by decide +kernel)
theorem dX4_sumOf_58 : decode cX4_sumOf 58 = .ok (.iinc 6 1, 3) := by decide +kernel
theorem dX4_sumOf_61 : decode cX4_sumOf 61 = .ok (.goto (-55), 3) := dl_o167 kcX4_sumOf 65481 (by decide +kernel) (by decide +kernel)
theorem dX4_sumOf_64 : decode cX4_sumOf 64 = .ok (.lload 4, 2) := dl_o22 kcX4_sumOf (by decide +kernel)
theorem dX4_sumOf_66 : decode cX4_sumOf 66 = .ok (.ldc2_w 113, 3) := dl_o20 kcX4_sumOf (by decide +kernel)
theorem dX4_sumOf_69 : decode cX4_sumOf 69 = .ok (.land, 1) := dl_o127 kcX4_sumOf (by decide +kernel)
theorem dX4_sumOf_70 : decode cX4_sumOf 70 = .ok (.lreturn, 1) := dl_o173 kcX4_sumOf (by decide +kernel)
def B_X4_sumOf_58 (N : Nat) (k6 : Int32 → Int32 → Int32 → Int64 → Int32 → sv_V → Option (Int64 × sv_V)) (l1 : Int32) (l2 : Int32) (l3 : Int32) (l4 : Int64) (l6 : Int32) (V : sv_V) : Option (Int64 × sv_V) := sx_let (l6 + 1) (fun x1 => k6 l1 l2 l3 l4 x1 V)
set_option maxRecDepth 20000 in
theorem tB_X4_sumOf_58 {g : sx_G} (hG : sx_Go g) {P : Option Value → sv_V → Prop} {r : Int64} {Vr : sv_V} (hP : P (some (.long r)) Vr) {N : Nat} {k6 : Int32 → Int32 → Int32 → Int64 → Int32 → sv_V → Option (Int64 × sv_V)} (hk6 : ∀ (l1 : Int32) (l2 : Int32) (l3 : Int32) (l4 : Int64) (l6 : Int32) (V : sv_V), k6 l1 l2 l3 l4 l6 V = some (r, Vr) → sv_N g qX4_sumOf 1 6 [(0, .ref 29), (1, .int l1), (2, .int l2), (3, .int l3), (4, .long l4), (6, .int l6)] [] V P) {l1 : Int32} {l2 : Int32} {l3 : Int32} {l4 : Int64} {l6 : Int32} {V : sv_V} (h : B_X4_sumOf_58 N k6 l1 l2 l3 l4 l6 V = some (r, Vr)) : sv_N g qX4_sumOf 1 58 [(0, .ref 29), (1, .int l1), (2, .int l2), (3, .int l3), (4, .long l4), (6, .int l6)] [] V P := by
  unfold B_X4_sumOf_58 at h
  obtain ⟨x1, hx1⟩ : ∃ z : Int32, z = l6 + 1 := ⟨_, rfl⟩
  have h := sx_letE hx1 h
  refine sx_iinc (pc := 58) (v := x1) (lo' := [(6, .int x1), (0, .ref 29), (1, .int l1), (2, .int l2), (3, .int l3), (4, .long l4)]) dX4_sumOf_58 sx_m5 (by rw [hx1]; rfl) (by decide) rfl ?_
  refine sx_goto (pc := 61) (tgt := 6) dX4_sumOf_61 (by decide) ?_
  refine sx_wk (sx_s1 sx_m1 (sx_s1 sx_m2 (sx_s1 sx_m3 (sx_s1 sx_m4 (sx_s1 sx_m5 (sx_s1 sx_m0 sx_s0)))))) ?_
  exact hk6 _ _ _ _ _ _ h
def B_X4_sumOf_30 (N : Nat) (k6 : Int32 → Int32 → Int32 → Int64 → Int32 → sv_V → Option (Int64 × sv_V)) (l1 : Int32) (l2 : Int32) (l3 : Int32) (l4 : Int64) (l6 : Int32) (V : sv_V) : Option (Int64 × sv_V) := (F_X2_u1 (l1 + l6) V).bind (fun (x4, V2) => sx_let (l4 + (x4.toInt64 <<< (((24 : Int32) - ((8 : Int32) * (l6 &&& (3 : Int32)))).toInt64 &&& 63))) (fun x5 => B_X4_sumOf_58 N k6 l1 l2 l3 x5 l6 V2))
set_option maxRecDepth 20000 in
theorem tB_X4_sumOf_30 {g : sx_G} (hG : sx_Go g) {P : Option Value → sv_V → Prop} {r : Int64} {Vr : sv_V} (hP : P (some (.long r)) Vr) {N : Nat} {k6 : Int32 → Int32 → Int32 → Int64 → Int32 → sv_V → Option (Int64 × sv_V)} (hk6 : ∀ (l1 : Int32) (l2 : Int32) (l3 : Int32) (l4 : Int64) (l6 : Int32) (V : sv_V), k6 l1 l2 l3 l4 l6 V = some (r, Vr) → sv_N g qX4_sumOf 1 6 [(0, .ref 29), (1, .int l1), (2, .int l2), (3, .int l3), (4, .long l4), (6, .int l6)] [] V P) {l1 : Int32} {l2 : Int32} {l3 : Int32} {l4 : Int64} {l6 : Int32} {V : sv_V} (h : B_X4_sumOf_30 N k6 l1 l2 l3 l4 l6 V = some (r, Vr)) : sv_N g qX4_sumOf 1 30 [(0, .ref 29), (1, .int l1), (2, .int l2), (3, .int l3), (4, .long l4), (6, .int l6)] [] V P := by
  unfold B_X4_sumOf_30 at h
  refine sx_lload (pc := 30) dX4_sumOf_30 sx_m4 ?_
  refine sx_aload_n (pc := 32) dX4_sumOf_32 sx_m0 ?_
  refine sv_getO (pc := 33) hG dX4_sumOf_33 f_4_9 lay_29 rfl cr_29_0 ?_
  refine sx_iload_n (pc := 36) dX4_sumOf_36 sx_m1 ?_
  refine sx_iload (pc := 37) dX4_sumOf_37 sx_m5 ?_
  refine sx_iadd (pc := 39) dX4_sumOf_39 ?_
  obtain ⟨⟨x4, V2⟩, g3, h⟩ := sx_bnd h
  refine sv_cV (pc := 40) (y := qX2_u1) (o := (some (.int x4))) (as := [.int (l1 + l6)]) (V1 := V2) hG dX4_sumOf_40 l_X4_110 y0X2_u1 yvX2_u1 rfl (Nat.le_of_ble_eq_true rfl) lay_2 kr_2 (by decide) (Nat.le_of_ble_eq_true rfl) rfl rfl rfl (t_X2_u1 hG ⟨rfl, rfl⟩ g3) ?_
  refine sx_i2l (pc := 43) dX4_sumOf_43 ?_
  refine sx_bipush (pc := 44) (v := 24) dX4_sumOf_44 (by decide) ?_
  refine sx_bipush (pc := 46) (v := 8) dX4_sumOf_46 (by decide) ?_
  refine sx_iload (pc := 48) dX4_sumOf_48 sx_m5 ?_
  refine sx_iconst (pc := 50) (v := 3) dX4_sumOf_50 (by decide) ?_
  refine sx_iand (pc := 51) dX4_sumOf_51 ?_
  refine sx_imul (pc := 52) dX4_sumOf_52 ?_
  refine sx_isub (pc := 53) dX4_sumOf_53 ?_
  refine sx_lshl (pc := 54) dX4_sumOf_54 ?_
  refine sx_ladd (pc := 55) dX4_sumOf_55 ?_
  refine sv_tJ (fun x5 hx5 => ?_)
  have h := sx_letE hx5 h
  refine sx_lstore (pc := 56) (lo' := [(4, .long x5), (0, .ref 29), (1, .int l1), (2, .int l2), (3, .int l3), (6, .int l6)]) dX4_sumOf_56 (by decide) rfl ?_
  refine sx_wk (sx_s1 sx_m1 (sx_s1 sx_m2 (sx_s1 sx_m3 (sx_s1 sx_m4 (sx_s1 sx_m0 (sx_s1 sx_m5 sx_s0)))))) ?_
  exact tB_X4_sumOf_58 hG hP hk6 h
def B_X4_sumOf_6 (N : Nat) (k6 : Int32 → Int32 → Int32 → Int64 → Int32 → sv_V → Option (Int64 × sv_V)) (l1 : Int32) (l2 : Int32) (l3 : Int32) (l4 : Int64) (l6 : Int32) (V : sv_V) : Option (Int64 × sv_V) := if l2 ≤ l6 then (some (l4 &&& (4294967295 : Int64), V)) else (if l3 = 0 then (B_X4_sumOf_30 N k6 l1 l2 l3 l4 l6 V) else (if l6 < (8 : Int32) then (B_X4_sumOf_30 N k6 l1 l2 l3 l4 l6 V) else (if l6 ≤ (11 : Int32) then (B_X4_sumOf_58 N k6 l1 l2 l3 l4 l6 V) else (B_X4_sumOf_30 N k6 l1 l2 l3 l4 l6 V))))
set_option maxRecDepth 20000 in
theorem tB_X4_sumOf_6 {g : sx_G} (hG : sx_Go g) {P : Option Value → sv_V → Prop} {r : Int64} {Vr : sv_V} (hP : P (some (.long r)) Vr) {N : Nat} {k6 : Int32 → Int32 → Int32 → Int64 → Int32 → sv_V → Option (Int64 × sv_V)} (hk6 : ∀ (l1 : Int32) (l2 : Int32) (l3 : Int32) (l4 : Int64) (l6 : Int32) (V : sv_V), k6 l1 l2 l3 l4 l6 V = some (r, Vr) → sv_N g qX4_sumOf 1 6 [(0, .ref 29), (1, .int l1), (2, .int l2), (3, .int l3), (4, .long l4), (6, .int l6)] [] V P) {l1 : Int32} {l2 : Int32} {l3 : Int32} {l4 : Int64} {l6 : Int32} {V : sv_V} (h : B_X4_sumOf_6 N k6 l1 l2 l3 l4 l6 V = some (r, Vr)) : sv_N g qX4_sumOf 1 6 [(0, .ref 29), (1, .int l1), (2, .int l2), (3, .int l3), (4, .long l4), (6, .int l6)] [] V P := by
  unfold B_X4_sumOf_6 at h
  refine sx_iload (pc := 6) dX4_sumOf_6 sx_m5 ?_
  refine sx_iload_n (pc := 8) dX4_sumOf_8 sx_m2 ?_
  refine sx_icmp_ge (pc := 9) (tgt := 64) dX4_sumOf_9 (by decide) (fun c6 => ?_) (fun c6 => ?_)
  · have h := sx_pos c6 h
    refine sx_lload (pc := 64) dX4_sumOf_64 sx_m4 ?_
    refine sx_ldc2 (pc := 66) dX4_sumOf_66 k_X4_113 ?_
    refine sx_land (pc := 69) dX4_sumOf_69 ?_
    exact sv_lret (pc := 70) dX4_sumOf_70 rfl h hP
  · have h := sx_neg c6 h
    refine sx_iload_n (pc := 12) dX4_sumOf_12 sx_m3 ?_
    refine sx_if_eq (pc := 13) (tgt := 30) dX4_sumOf_13 (by decide) (fun c7 => ?_) (fun c7 => ?_)
    · have h := sx_pos c7 h
      refine sx_wk (sx_s1 sx_m0 (sx_s1 sx_m1 (sx_s1 sx_m2 (sx_s1 sx_m3 (sx_s1 sx_m4 (sx_s1 sx_m5 sx_s0)))))) ?_
      exact tB_X4_sumOf_30 hG hP hk6 h
    · have h := sx_neg c7 h
      refine sx_iload (pc := 16) dX4_sumOf_16 sx_m5 ?_
      refine sx_bipush (pc := 18) (v := 8) dX4_sumOf_18 (by decide) ?_
      refine sx_icmp_lt (pc := 20) (tgt := 30) dX4_sumOf_20 (by decide) (fun c8 => ?_) (fun c8 => ?_)
      · have h := sx_pos c8 h
        refine sx_wk (sx_s1 sx_m0 (sx_s1 sx_m1 (sx_s1 sx_m2 (sx_s1 sx_m3 (sx_s1 sx_m4 (sx_s1 sx_m5 sx_s0)))))) ?_
        exact tB_X4_sumOf_30 hG hP hk6 h
      · have h := sx_neg c8 h
        refine sx_iload (pc := 23) dX4_sumOf_23 sx_m5 ?_
        refine sx_bipush (pc := 25) (v := 11) dX4_sumOf_25 (by decide) ?_
        refine sx_icmp_le (pc := 27) (tgt := 58) dX4_sumOf_27 (by decide) (fun c9 => ?_) (fun c9 => ?_)
        · have h := sx_pos c9 h
          refine sx_wk (sx_s1 sx_m0 (sx_s1 sx_m1 (sx_s1 sx_m2 (sx_s1 sx_m3 (sx_s1 sx_m4 (sx_s1 sx_m5 sx_s0)))))) ?_
          exact tB_X4_sumOf_58 hG hP hk6 h
        · have h := sx_neg c9 h
          refine sx_wk (sx_s1 sx_m0 (sx_s1 sx_m1 (sx_s1 sx_m2 (sx_s1 sx_m3 (sx_s1 sx_m4 (sx_s1 sx_m5 sx_s0)))))) ?_
          exact tB_X4_sumOf_30 hG hP hk6 h
theorem tL_X4_sumOf_6 {g : sx_G} (hG : sx_Go g) {P : Option Value → sv_V → Prop} {r : Int64} {Vr : sv_V} (hP : P (some (.long r)) Vr) {N : Nat}   : ∀ (n : Nat) (l1 : Int32) (l2 : Int32) (l3 : Int32) (l4 : Int64) (l6 : Int32) (V : sv_V), sx_lp6 (B_X4_sumOf_6 N ) n l1 l2 l3 l4 l6 V = some (r, Vr) → sv_N g qX4_sumOf 1 6 [(0, .ref 29), (1, .int l1), (2, .int l2), (3, .int l3), (4, .long l4), (6, .int l6)] [] V P :=
  sx_lp6_ind (fun k0 ih _ _ _ _ _ V h => tB_X4_sumOf_6 hG hP ih h)
def F_X4_sumOf (N : Nat) (l1 : Int32) (l2 : Int32) (l3 : Int32) (V : sv_V) : Option (Int64 × sv_V) := sx_lp6 (B_X4_sumOf_6 N ) N l1 l2 l3 (0 : Int64) (0 : Int32) V
set_option maxRecDepth 20000 in
theorem t_X4_sumOf {g : sx_G} (hG : sx_Go g) {P : Option Value → sv_V → Prop} {r : Int64} {Vr : sv_V} (hP : P (some (.long r)) Vr) {N : Nat} {l1 : Int32} {l2 : Int32} {l3 : Int32} {V : sv_V} (h : F_X4_sumOf N l1 l2 l3 V = some (r, Vr)) : sv_N g qX4_sumOf 1 0 [(0, .ref 29), (1, .int l1), (2, .int l2), (3, .int l3)] [] V P := by
  unfold F_X4_sumOf at h
  refine sx_lconst (pc := 0) (v := 0) dX4_sumOf_0 rfl ?_
  refine sx_lstore (pc := 1) (lo' := [(4, .long (0 : Int64)), (0, .ref 29), (1, .int l1), (2, .int l2), (3, .int l3)]) dX4_sumOf_1 (by decide) rfl ?_
  refine sx_iconst (pc := 3) (v := 0) dX4_sumOf_3 (by decide) ?_
  refine sx_istore (pc := 4) (lo' := [(6, .int (0 : Int32)), (4, .long (0 : Int64)), (0, .ref 29), (1, .int l1), (2, .int l2), (3, .int l3)]) dX4_sumOf_4 (by decide) rfl ?_
  refine sx_wk (sx_s1 sx_m2 (sx_s1 sx_m3 (sx_s1 sx_m4 (sx_s1 sx_m5 (sx_s1 sx_m1 (sx_s1 sx_m0 sx_s0)))))) ?_
  exact tL_X4_sumOf_6 hG hP  N _ _ _ _ _ _ h
def ncX4_findTables : Nat := 2026620546646549270803000038245072450422069038013579082395344573916036657790340733208181516399443423074584253568351656531983861243003441893047583389643149967411277228202159351610534666894360128208358872796630534436401311259436311078155313913703780899055536105986795220740975134170710088432646619365901892124954803203
theorem kcX4_findTables : CK cX4_findTables ncX4_findTables 131 := ⟨by decide +kernel, by decide +kernel⟩
theorem dX4_findTables_0 : decode cX4_findTables 0 = .ok (.iconst 0, 1) := dl_o3 kcX4_findTables (by decide +kernel)
theorem dX4_findTables_1 : decode cX4_findTables 1 = .ok (.istore_n 1, 1) := dl_o60 kcX4_findTables (by decide +kernel)
theorem dX4_findTables_2 : decode cX4_findTables 2 = .ok (.iload_n 1, 1) := dl_o27 kcX4_findTables (by decide +kernel)
theorem dX4_findTables_3 : decode cX4_findTables 3 = .ok (.getstatic 102, 3) := dl_o178 kcX4_findTables (by decide +kernel)
theorem dX4_findTables_6 : decode cX4_findTables 6 = .ok (.arraylength, 1) := dl_o190 kcX4_findTables (by decide +kernel)
theorem dX4_findTables_7 : decode cX4_findTables 7 = .ok (.if_icmp .ge 95, 3) := dl_o162 kcX4_findTables 95 (by decide +kernel) (by decide +kernel)
theorem dX4_findTables_10 : decode cX4_findTables 10 = .ok (.aload_n 0, 1) := dl_o42 kcX4_findTables (by decide +kernel)
theorem dX4_findTables_11 : decode cX4_findTables 11 = .ok (.getfield 9, 3) := dl_o180 kcX4_findTables (by decide +kernel)
theorem dX4_findTables_14 : decode cX4_findTables 14 = .ok (.getfield 115, 3) := dl_o180 kcX4_findTables (by decide +kernel)
theorem dX4_findTables_17 : decode cX4_findTables 17 = .ok (.iload_n 1, 1) := dl_o27 kcX4_findTables (by decide +kernel)
theorem dX4_findTables_18 : decode cX4_findTables 18 = .ok (.iconst 0, 1) := dl_o3 kcX4_findTables (by decide +kernel)
theorem dX4_findTables_19 : decode cX4_findTables 19 = .ok (.iastore, 1) := dl_o79 kcX4_findTables (by decide +kernel)
theorem dX4_findTables_20 : decode cX4_findTables 20 = .ok (.aload_n 0, 1) := dl_o42 kcX4_findTables (by decide +kernel)
theorem dX4_findTables_21 : decode cX4_findTables 21 = .ok (.getfield 9, 3) := dl_o180 kcX4_findTables (by decide +kernel)
theorem dX4_findTables_24 : decode cX4_findTables 24 = .ok (.getfield 118, 3) := dl_o180 kcX4_findTables (by decide +kernel)
theorem dX4_findTables_27 : decode cX4_findTables 27 = .ok (.iload_n 1, 1) := dl_o27 kcX4_findTables (by decide +kernel)
theorem dX4_findTables_28 : decode cX4_findTables 28 = .ok (.iconst 0, 1) := dl_o3 kcX4_findTables (by decide +kernel)
theorem dX4_findTables_29 : decode cX4_findTables 29 = .ok (.iastore, 1) := dl_o79 kcX4_findTables (by decide +kernel)
theorem dX4_findTables_30 : decode cX4_findTables 30 = .ok (.iconst 0, 1) := dl_o3 kcX4_findTables (by decide +kernel)
theorem dX4_findTables_31 : decode cX4_findTables 31 = .ok (.istore_n 2, 1) := dl_o61 kcX4_findTables (by decide +kernel)
theorem dX4_findTables_32 : decode cX4_findTables 32 = .ok (.iload_n 2, 1) := dl_o28 kcX4_findTables (by decide +kernel)
theorem dX4_findTables_33 : decode cX4_findTables 33 = .ok (.aload_n 0, 1) := dl_o42 kcX4_findTables (by decide +kernel)
theorem dX4_findTables_34 : decode cX4_findTables 34 = .ok (.getfield 9, 3) := dl_o180 kcX4_findTables (by decide +kernel)
theorem dX4_findTables_37 : decode cX4_findTables 37 = .ok (.getfield 80, 3) := dl_o180 kcX4_findTables (by decide +kernel)
theorem dX4_findTables_40 : decode cX4_findTables 40 = .ok (.if_icmp .ge 56, 3) := dl_o162 kcX4_findTables 56 (by decide +kernel) (by decide +kernel)
theorem dX4_findTables_43 : decode cX4_findTables 43 = .ok (.aload_n 0, 1) := dl_o42 kcX4_findTables (by decide +kernel)
theorem dX4_findTables_44 : decode cX4_findTables 44 = .ok (.iload_n 2, 1) := dl_o28 kcX4_findTables (by decide +kernel)
theorem dX4_findTables_45 : decode cX4_findTables 45 = .ok (.iconst 0, 1) := dl_o3 kcX4_findTables (by decide +kernel)
theorem dX4_findTables_46 : decode cX4_findTables 46 = .ok (.invokevirtual 83, 3) := dl_o182 kcX4_findTables (by decide +kernel)
theorem dX4_findTables_49 : decode cX4_findTables 49 = .ok (.l2i, 1) := dl_o136 kcX4_findTables (by decide +kernel)
theorem dX4_findTables_50 : decode cX4_findTables 50 = .ok (.getstatic 102, 3) := dl_o178 kcX4_findTables (by decide +kernel)
theorem dX4_findTables_53 : decode cX4_findTables 53 = .ok (.iload_n 1, 1) := dl_o27 kcX4_findTables (by decide +kernel)
theorem dX4_findTables_54 : decode cX4_findTables 54 = .ok (.iaload, 1) := dl_o46 kcX4_findTables (by decide +kernel)
theorem dX4_findTables_55 : decode cX4_findTables 55 = .ok (.if_icmp .ne 35, 3) := dl_o160 kcX4_findTables 35 (by decide +kernel) (by decide +kernel)
theorem dX4_findTables_58 : decode cX4_findTables 58 = .ok (.aload_n 0, 1) := dl_o42 kcX4_findTables (by decide +kernel)
theorem dX4_findTables_59 : decode cX4_findTables 59 = .ok (.getfield 9, 3) := dl_o180 kcX4_findTables (by decide +kernel)
theorem dX4_findTables_62 : decode cX4_findTables 62 = .ok (.getfield 115, 3) := dl_o180 kcX4_findTables (by decide +kernel)
theorem dX4_findTables_65 : decode cX4_findTables 65 = .ok (.iload_n 1, 1) := dl_o27 kcX4_findTables (by decide +kernel)
theorem dX4_findTables_66 : decode cX4_findTables 66 = .ok (.aload_n 0, 1) := dl_o42 kcX4_findTables (by decide +kernel)
theorem dX4_findTables_67 : decode cX4_findTables 67 = .ok (.iload_n 2, 1) := dl_o28 kcX4_findTables (by decide +kernel)
theorem dX4_findTables_68 : decode cX4_findTables 68 = .ok (.iconst 2, 1) := dl_o5 kcX4_findTables (by decide +kernel)
theorem dX4_findTables_69 : decode cX4_findTables 69 = .ok (.invokevirtual 83, 3) := dl_o182 kcX4_findTables (by decide +kernel)
theorem dX4_findTables_72 : decode cX4_findTables 72 = .ok (.l2i, 1) := dl_o136 kcX4_findTables (by decide +kernel)
theorem dX4_findTables_73 : decode cX4_findTables 73 = .ok (.iastore, 1) := dl_o79 kcX4_findTables (by decide +kernel)
theorem dX4_findTables_74 : decode cX4_findTables 74 = .ok (.aload_n 0, 1) := dl_o42 kcX4_findTables (by decide +kernel)
theorem dX4_findTables_75 : decode cX4_findTables 75 = .ok (.getfield 9, 3) := dl_o180 kcX4_findTables (by decide +kernel)
theorem dX4_findTables_78 : decode cX4_findTables 78 = .ok (.getfield 118, 3) := dl_o180 kcX4_findTables (by decide +kernel)
theorem dX4_findTables_81 : decode cX4_findTables 81 = .ok (.iload_n 1, 1) := dl_o27 kcX4_findTables (by decide +kernel)
theorem dX4_findTables_82 : decode cX4_findTables 82 = .ok (.aload_n 0, 1) := dl_o42 kcX4_findTables (by decide +kernel)
theorem dX4_findTables_83 : decode cX4_findTables 83 = .ok (.iload_n 2, 1) := dl_o28 kcX4_findTables (by decide +kernel)
theorem dX4_findTables_84 : decode cX4_findTables 84 = .ok (.iconst 3, 1) := dl_o6 kcX4_findTables (by decide +kernel)
theorem dX4_findTables_85 : decode cX4_findTables 85 = .ok (.invokevirtual 83, 3) := dl_o182 kcX4_findTables (by decide +kernel)
theorem dX4_findTables_88 : decode cX4_findTables 88 = .ok (.l2i, 1) := dl_o136 kcX4_findTables (by decide +kernel)
theorem dX4_findTables_89 : decode cX4_findTables 89 = .ok (.iastore, 1) := dl_o79 kcX4_findTables (by decide +kernel)
theorem dX4_findTables_90 : decode cX4_findTables 90 = .ok (.iinc 2 1, 3) := by decide +kernel
theorem dX4_findTables_93 : decode cX4_findTables 93 = .ok (.goto (-61), 3) := dl_o167 kcX4_findTables 65475 (by decide +kernel) (by decide +kernel)
theorem dX4_findTables_96 : decode cX4_findTables 96 = .ok (.iinc 1 1, 3) := by decide +kernel
theorem dX4_findTables_99 : decode cX4_findTables 99 = .ok (.goto (-97), 3) := dl_o167 kcX4_findTables 65439 (by decide +kernel) (by decide +kernel)
theorem dX4_findTables_102 : decode cX4_findTables 102 = .ok (.iconst 0, 1) := dl_o3 kcX4_findTables (by decide +kernel)
theorem dX4_findTables_103 : decode cX4_findTables 103 = .ok (.istore_n 1, 1) := dl_o60 kcX4_findTables (by decide +kernel)
theorem dX4_findTables_104 : decode cX4_findTables 104 = .ok (.iload_n 1, 1) := dl_o27 kcX4_findTables (by decide +kernel)
theorem dX4_findTables_105 : decode cX4_findTables 105 = .ok (.bipush 7, 2) := dl_o16 kcX4_findTables 7 (by decide +kernel) (by decide +kernel)
theorem dX4_findTables_107 : decode cX4_findTables 107 = .ok (.if_icmp .ge 22, 3) := dl_o162 kcX4_findTables 22 (by decide +kernel) (by decide +kernel)
theorem dX4_findTables_110 : decode cX4_findTables 110 = .ok (.aload_n 0, 1) := dl_o42 kcX4_findTables (by decide +kernel)
theorem dX4_findTables_111 : decode cX4_findTables 111 = .ok (.getfield 9, 3) := dl_o180 kcX4_findTables (by decide +kernel)
theorem dX4_findTables_114 : decode cX4_findTables 114 = .ok (.iload_n 1, 1) := dl_o27 kcX4_findTables (by decide +kernel)
theorem dX4_findTables_115 : decode cX4_findTables 115 = .ok (.invokevirtual 121, 3) := dl_o182 kcX4_findTables (by decide +kernel)
theorem dX4_findTables_118 : decode cX4_findTables 118 = .ok (.ifCond .ne 5, 3) := dl_o154 kcX4_findTables 5 (by decide +kernel) (by decide +kernel)
theorem dX4_findTables_121 : decode cX4_findTables 121 = .ok (.iconst 0, 1) := dl_o3 kcX4_findTables (by decide +kernel)
theorem dX4_findTables_122 : decode cX4_findTables 122 = .ok (.ireturn, 1) := dl_o172 kcX4_findTables (by decide +kernel)
theorem dX4_findTables_123 : decode cX4_findTables 123 = .ok (.iinc 1 1, 3) := by decide +kernel
theorem dX4_findTables_126 : decode cX4_findTables 126 = .ok (.goto (-22), 3) := dl_o167 kcX4_findTables 65514 (by decide +kernel) (by decide +kernel)
theorem dX4_findTables_129 : decode cX4_findTables 129 = .ok (.iconst 1, 1) := dl_o4 kcX4_findTables (by decide +kernel)
theorem dX4_findTables_130 : decode cX4_findTables 130 = .ok (.ireturn, 1) := dl_o172 kcX4_findTables (by decide +kernel)
def B_X4_findTables_90 (N : Nat) (k2 : Int32 → sv_V → Option (Int32 × sv_V)) (k32 : Int32 → Int32 → sv_V → Option (Int32 × sv_V)) (l1 : Int32) (l2 : Int32) (V : sv_V) : Option (Int32 × sv_V) := sx_let (l2 + 1) (fun x1 => k32 l1 x1 V)
set_option maxRecDepth 20000 in
theorem tB_X4_findTables_90 {g : sx_G} (hG : sx_Go g) {P : Option Value → sv_V → Prop} {r : Int32} {Vr : sv_V} (hP : P (some (.int r)) Vr) {N : Nat} {k2 : Int32 → sv_V → Option (Int32 × sv_V)} {k32 : Int32 → Int32 → sv_V → Option (Int32 × sv_V)} (hk2 : ∀ (l1 : Int32) (V : sv_V), k2 l1 V = some (r, Vr) → sv_N g qX4_findTables 3 2 [(0, .ref 29), (1, .int l1)] [] V P) (hk32 : ∀ (l1 : Int32) (l2 : Int32) (V : sv_V), k32 l1 l2 V = some (r, Vr) → sv_N g qX4_findTables 3 32 [(0, .ref 29), (1, .int l1), (2, .int l2)] [] V P) {l1 : Int32} {l2 : Int32} {V : sv_V} (h : B_X4_findTables_90 N k2 k32 l1 l2 V = some (r, Vr)) : sv_N g qX4_findTables 3 90 [(0, .ref 29), (1, .int l1), (2, .int l2)] [] V P := by
  unfold B_X4_findTables_90 at h
  obtain ⟨x1, hx1⟩ : ∃ z : Int32, z = l2 + 1 := ⟨_, rfl⟩
  have h := sx_letE hx1 h
  refine sx_iinc (pc := 90) (v := x1) (lo' := [(2, .int x1), (0, .ref 29), (1, .int l1)]) dX4_findTables_90 sx_m2 (by rw [hx1]; rfl) (by decide) rfl ?_
  refine sx_goto (pc := 93) (tgt := 32) dX4_findTables_93 (by decide) ?_
  refine sx_wk (sx_s1 sx_m1 (sx_s1 sx_m2 (sx_s1 sx_m0 sx_s0))) ?_
  exact hk32 _ _ _ h
def B_X4_findTables_32 (N : Nat) (k2 : Int32 → sv_V → Option (Int32 × sv_V)) (k32 : Int32 → Int32 → sv_V → Option (Int32 × sv_V)) (l1 : Int32) (l2 : Int32) (V : sv_V) : Option (Int32 × sv_V) := if (V.1 2 5) ≤ l2 then (sx_let (l1 + 1) (fun x3 => k2 x3 V)) else ((F_X4_entry l2 (0 : Int32) V).bind (fun (x6, V4) => if sx_in l1 11 = true then if x6.toInt32 = (V4.1 1001 l1.toNatClampNeg) then ((F_X4_entry l2 (2 : Int32) V4).bind (fun (x11, V9) => if sx_in l1 11 = true then sx_let (sv_I V9 4 l1.toNatClampNeg x11.toInt32) (fun V13 => (F_X4_entry l2 (3 : Int32) V13).bind (fun (x16, V14) => if sx_in l1 11 = true then sx_let (sv_I V14 5 l1.toNatClampNeg x16.toInt32) (fun V18 => B_X4_findTables_90 N k2 k32 l1 l2 V18) else none)) else none)) else (B_X4_findTables_90 N k2 k32 l1 l2 V4) else none))
set_option maxRecDepth 20000 in
theorem tB_X4_findTables_32 {g : sx_G} (hG : sx_Go g) {P : Option Value → sv_V → Prop} {r : Int32} {Vr : sv_V} (hP : P (some (.int r)) Vr) {N : Nat} {k2 : Int32 → sv_V → Option (Int32 × sv_V)} {k32 : Int32 → Int32 → sv_V → Option (Int32 × sv_V)} (hk2 : ∀ (l1 : Int32) (V : sv_V), k2 l1 V = some (r, Vr) → sv_N g qX4_findTables 3 2 [(0, .ref 29), (1, .int l1)] [] V P) (hk32 : ∀ (l1 : Int32) (l2 : Int32) (V : sv_V), k32 l1 l2 V = some (r, Vr) → sv_N g qX4_findTables 3 32 [(0, .ref 29), (1, .int l1), (2, .int l2)] [] V P) {l1 : Int32} {l2 : Int32} {V : sv_V} (h : B_X4_findTables_32 N k2 k32 l1 l2 V = some (r, Vr)) : sv_N g qX4_findTables 3 32 [(0, .ref 29), (1, .int l1), (2, .int l2)] [] V P := by
  unfold B_X4_findTables_32 at h
  refine sx_iload_n (pc := 32) dX4_findTables_32 sx_m2 ?_
  refine sx_aload_n (pc := 33) dX4_findTables_33 sx_m0 ?_
  refine sv_getO (pc := 34) hG dX4_findTables_34 f_4_9 lay_29 rfl cr_29_0 ?_
  refine sv_getI (pc := 37) hG dX4_findTables_37 f_4_80 lay_2 rfl ?_
  refine sx_icmp_ge (pc := 40) (tgt := 96) dX4_findTables_40 (by decide) (fun c2 => ?_) (fun c2 => ?_)
  · have h := sx_pos c2 h
    obtain ⟨x3, hx3⟩ : ∃ z : Int32, z = l1 + 1 := ⟨_, rfl⟩
    have h := sx_letE hx3 h
    refine sx_iinc (pc := 96) (v := x3) (lo' := [(1, .int x3), (0, .ref 29), (2, .int l2)]) dX4_findTables_96 sx_m1 (by rw [hx3]; rfl) (by decide) rfl ?_
    refine sx_goto (pc := 99) (tgt := 2) dX4_findTables_99 (by decide) ?_
    refine sx_wk (sx_s1 sx_m1 (sx_s1 sx_m0 sx_s0)) ?_
    exact hk2 _ _ h
  · have h := sx_neg c2 h
    refine sx_aload_n (pc := 43) dX4_findTables_43 sx_m0 ?_
    refine sx_iload_n (pc := 44) dX4_findTables_44 sx_m2 ?_
    refine sx_iconst (pc := 45) (v := 0) dX4_findTables_45 (by decide) ?_
    obtain ⟨⟨x6, V4⟩, g5, h⟩ := sx_bnd h
    refine sv_cV (pc := 46) (y := qX4_entry) (o := (some (.long x6))) (as := [.int l2, .int (0 : Int32)]) (V1 := V4) hG dX4_findTables_46 l_X4_83 y0X4_entry yvX4_entry rfl (Nat.le_of_ble_eq_true rfl) lay_29 kr_4 (by decide) (Nat.le_of_ble_eq_true rfl) rfl rfl rfl (t_X4_entry hG ⟨rfl, rfl⟩ g5) ?_
    refine sx_l2i (pc := 49) dX4_findTables_49 ?_
    refine sv_getS (pc := 50) (j := 0) dX4_findTables_50 rfl n_X4_102 ?_
    refine sx_iload_n (pc := 53) dX4_findTables_53 sx_m1 ?_
    obtain ⟨g7, h⟩ := sx_grd h
    refine sv_xld (pc := 54) hG dX4_findTables_54 lay_1001 g7 ?_
    refine sx_icmp_ne (pc := 55) (tgt := 90) dX4_findTables_55 (by decide) (fun c8 => ?_) (fun c8 => ?_)
    · have h := sx_neg c8 h
      refine sx_wk (sx_s1 sx_m0 (sx_s1 sx_m1 (sx_s1 sx_m2 sx_s0))) ?_
      exact tB_X4_findTables_90 hG hP hk2 hk32 h
    · have h := sx_pos c8 h
      refine sx_aload_n (pc := 58) dX4_findTables_58 sx_m0 ?_
      refine sv_getO (pc := 59) hG dX4_findTables_59 f_4_9 lay_29 rfl cr_29_0 ?_
      refine sv_getA (pc := 62) hG dX4_findTables_62 f_4_115 lay_2 rfl cr_2_3 ?_
      refine sx_iload_n (pc := 65) dX4_findTables_65 sx_m1 ?_
      refine sx_aload_n (pc := 66) dX4_findTables_66 sx_m0 ?_
      refine sx_iload_n (pc := 67) dX4_findTables_67 sx_m2 ?_
      refine sx_iconst (pc := 68) (v := 2) dX4_findTables_68 (by decide) ?_
      obtain ⟨⟨x11, V9⟩, g10, h⟩ := sx_bnd h
      refine sv_cV (pc := 69) (y := qX4_entry) (o := (some (.long x11))) (as := [.int l2, .int (2 : Int32)]) (V1 := V9) hG dX4_findTables_69 l_X4_83 y0X4_entry yvX4_entry rfl (Nat.le_of_ble_eq_true rfl) lay_29 kr_4 (by decide) (Nat.le_of_ble_eq_true rfl) rfl rfl rfl (t_X4_entry hG ⟨rfl, rfl⟩ g10) ?_
      refine sx_l2i (pc := 72) dX4_findTables_72 ?_
      obtain ⟨g12, h⟩ := sx_grd h
      obtain ⟨V13, hV13⟩ : ∃ z : sv_V, z = sv_I V9 4 l1.toNatClampNeg x11.toInt32 := ⟨_, rfl⟩
      have h := sx_letE hV13 h
      refine sv_iast (pc := 73) hG dX4_findTables_73 lay_4 g12 hV13 ?_
      refine sx_aload_n (pc := 74) dX4_findTables_74 sx_m0 ?_
      refine sv_getO (pc := 75) hG dX4_findTables_75 f_4_9 lay_29 rfl cr_29_0 ?_
      refine sv_getA (pc := 78) hG dX4_findTables_78 f_4_118 lay_2 rfl cr_2_4 ?_
      refine sx_iload_n (pc := 81) dX4_findTables_81 sx_m1 ?_
      refine sx_aload_n (pc := 82) dX4_findTables_82 sx_m0 ?_
      refine sx_iload_n (pc := 83) dX4_findTables_83 sx_m2 ?_
      refine sx_iconst (pc := 84) (v := 3) dX4_findTables_84 (by decide) ?_
      obtain ⟨⟨x16, V14⟩, g15, h⟩ := sx_bnd h
      refine sv_cV (pc := 85) (y := qX4_entry) (o := (some (.long x16))) (as := [.int l2, .int (3 : Int32)]) (V1 := V14) hG dX4_findTables_85 l_X4_83 y0X4_entry yvX4_entry rfl (Nat.le_of_ble_eq_true rfl) lay_29 kr_4 (by decide) (Nat.le_of_ble_eq_true rfl) rfl rfl rfl (t_X4_entry hG ⟨rfl, rfl⟩ g15) ?_
      refine sx_l2i (pc := 88) dX4_findTables_88 ?_
      obtain ⟨g17, h⟩ := sx_grd h
      obtain ⟨V18, hV18⟩ : ∃ z : sv_V, z = sv_I V14 5 l1.toNatClampNeg x16.toInt32 := ⟨_, rfl⟩
      have h := sx_letE hV18 h
      refine sv_iast (pc := 89) hG dX4_findTables_89 lay_5 g17 hV18 ?_
      refine sx_wk (sx_s1 sx_m0 (sx_s1 sx_m1 (sx_s1 sx_m2 sx_s0))) ?_
      exact tB_X4_findTables_90 hG hP hk2 hk32 h
theorem tL_X4_findTables_32 {g : sx_G} (hG : sx_Go g) {P : Option Value → sv_V → Prop} {r : Int32} {Vr : sv_V} (hP : P (some (.int r)) Vr) {N : Nat} {k2 : Int32 → sv_V → Option (Int32 × sv_V)} (hk2 : ∀ (l1 : Int32) (V : sv_V), k2 l1 V = some (r, Vr) → sv_N g qX4_findTables 3 2 [(0, .ref 29), (1, .int l1)] [] V P) : ∀ (n : Nat) (l1 : Int32) (l2 : Int32) (V : sv_V), sx_lp3 (B_X4_findTables_32 N k2) n l1 l2 V = some (r, Vr) → sv_N g qX4_findTables 3 32 [(0, .ref 29), (1, .int l1), (2, .int l2)] [] V P :=
  sx_lp3_ind (fun k0 ih _ _ V h => tB_X4_findTables_32 hG hP hk2 ih h)
def B_X4_findTables_104 (N : Nat) (k104 : Int32 → sv_V → Option (Int32 × sv_V)) (l1 : Int32) (V : sv_V) : Option (Int32 × sv_V) := if (7 : Int32) ≤ l1 then (some ((1 : Int32), V)) else ((F_X2_hasTable l1 V).bind (fun (x22, V20) => if x22 = 0 then (some ((0 : Int32), V20)) else (sx_let (l1 + 1) (fun x24 => k104 x24 V20))))
set_option maxRecDepth 20000 in
theorem tB_X4_findTables_104 {g : sx_G} (hG : sx_Go g) {P : Option Value → sv_V → Prop} {r : Int32} {Vr : sv_V} (hP : P (some (.int r)) Vr) {N : Nat} {k104 : Int32 → sv_V → Option (Int32 × sv_V)} (hk104 : ∀ (l1 : Int32) (V : sv_V), k104 l1 V = some (r, Vr) → sv_N g qX4_findTables 3 104 [(0, .ref 29), (1, .int l1)] [] V P) {l1 : Int32} {V : sv_V} (h : B_X4_findTables_104 N k104 l1 V = some (r, Vr)) : sv_N g qX4_findTables 3 104 [(0, .ref 29), (1, .int l1)] [] V P := by
  unfold B_X4_findTables_104 at h
  refine sx_iload_n (pc := 104) dX4_findTables_104 sx_m1 ?_
  refine sx_bipush (pc := 105) (v := 7) dX4_findTables_105 (by decide) ?_
  refine sx_icmp_ge (pc := 107) (tgt := 129) dX4_findTables_107 (by decide) (fun c19 => ?_) (fun c19 => ?_)
  · have h := sx_pos c19 h
    refine sx_iconst (pc := 129) (v := 1) dX4_findTables_129 (by decide) ?_
    exact sv_zret (pc := 130) dX4_findTables_130 rfl rfl h hP
  · have h := sx_neg c19 h
    refine sx_aload_n (pc := 110) dX4_findTables_110 sx_m0 ?_
    refine sv_getO (pc := 111) hG dX4_findTables_111 f_4_9 lay_29 rfl cr_29_0 ?_
    refine sx_iload_n (pc := 114) dX4_findTables_114 sx_m1 ?_
    obtain ⟨⟨x22, V20⟩, g21, h⟩ := sx_bnd h
    refine sv_cV (pc := 115) (y := qX2_hasTable) (o := (some (.int x22))) (as := [.int l1]) (V1 := V20) hG dX4_findTables_115 l_X4_121 y0X2_hasTable yvX2_hasTable rfl (Nat.le_of_ble_eq_true rfl) lay_2 kr_2 (by decide) (Nat.le_of_ble_eq_true rfl) rfl rfl rfl (t_X2_hasTable hG ⟨rfl, rfl⟩ g21) ?_
    refine sx_if_ne (pc := 118) (tgt := 123) dX4_findTables_118 (by decide) (fun c23 => ?_) (fun c23 => ?_)
    · have h := sx_neg c23 h
      obtain ⟨x24, hx24⟩ : ∃ z : Int32, z = l1 + 1 := ⟨_, rfl⟩
      have h := sx_letE hx24 h
      refine sx_iinc (pc := 123) (v := x24) (lo' := [(1, .int x24), (0, .ref 29)]) dX4_findTables_123 sx_m1 (by rw [hx24]; rfl) (by decide) rfl ?_
      refine sx_goto (pc := 126) (tgt := 104) dX4_findTables_126 (by decide) ?_
      refine sx_wk (sx_s1 sx_m1 (sx_s1 sx_m0 sx_s0)) ?_
      exact hk104 _ _ h
    · have h := sx_pos c23 h
      refine sx_iconst (pc := 121) (v := 0) dX4_findTables_121 (by decide) ?_
      exact sv_zret (pc := 122) dX4_findTables_122 rfl rfl h hP
theorem tL_X4_findTables_104 {g : sx_G} (hG : sx_Go g) {P : Option Value → sv_V → Prop} {r : Int32} {Vr : sv_V} (hP : P (some (.int r)) Vr) {N : Nat}   : ∀ (n : Nat) (l1 : Int32) (V : sv_V), sx_lp2 (B_X4_findTables_104 N ) n l1 V = some (r, Vr) → sv_N g qX4_findTables 3 104 [(0, .ref 29), (1, .int l1)] [] V P :=
  sx_lp2_ind (fun k0 ih _ V h => tB_X4_findTables_104 hG hP ih h)
def B_X4_findTables_2 (N : Nat) (k2 : Int32 → sv_V → Option (Int32 × sv_V)) (l1 : Int32) (V : sv_V) : Option (Int32 × sv_V) := if (Int32.ofNat 11) ≤ l1 then (sx_lp2 (B_X4_findTables_104 N ) N (0 : Int32) V) else (if sx_in l1 11 = true then sx_let (sv_I V 4 l1.toNatClampNeg (0 : Int32)) (fun V27 => if sx_in l1 11 = true then sx_let (sv_I V27 5 l1.toNatClampNeg (0 : Int32)) (fun V29 => sx_lp3 (B_X4_findTables_32 N k2) N l1 (0 : Int32) V29) else none) else none)
set_option maxRecDepth 20000 in
theorem tB_X4_findTables_2 {g : sx_G} (hG : sx_Go g) {P : Option Value → sv_V → Prop} {r : Int32} {Vr : sv_V} (hP : P (some (.int r)) Vr) {N : Nat} {k2 : Int32 → sv_V → Option (Int32 × sv_V)} (hk2 : ∀ (l1 : Int32) (V : sv_V), k2 l1 V = some (r, Vr) → sv_N g qX4_findTables 3 2 [(0, .ref 29), (1, .int l1)] [] V P) {l1 : Int32} {V : sv_V} (h : B_X4_findTables_2 N k2 l1 V = some (r, Vr)) : sv_N g qX4_findTables 3 2 [(0, .ref 29), (1, .int l1)] [] V P := by
  unfold B_X4_findTables_2 at h
  refine sx_iload_n (pc := 2) dX4_findTables_2 sx_m1 ?_
  refine sv_getS (pc := 3) (j := 0) dX4_findTables_3 rfl n_X4_102 ?_
  refine sv_xlen (pc := 6) hG dX4_findTables_6 lay_1001 ?_
  refine sx_icmp_ge (pc := 7) (tgt := 102) dX4_findTables_7 (by decide) (fun c25 => ?_) (fun c25 => ?_)
  · have h := sx_pos c25 h
    refine sx_iconst (pc := 102) (v := 0) dX4_findTables_102 (by decide) ?_
    refine sx_istore_n (pc := 103) (lo' := [(1, .int (0 : Int32)), (0, .ref 29)]) dX4_findTables_103 (by decide) rfl ?_
    refine sx_wk (sx_s1 sx_m1 (sx_s1 sx_m0 sx_s0)) ?_
    exact tL_X4_findTables_104 hG hP  N _ _ h
  · have h := sx_neg c25 h
    refine sx_aload_n (pc := 10) dX4_findTables_10 sx_m0 ?_
    refine sv_getO (pc := 11) hG dX4_findTables_11 f_4_9 lay_29 rfl cr_29_0 ?_
    refine sv_getA (pc := 14) hG dX4_findTables_14 f_4_115 lay_2 rfl cr_2_3 ?_
    refine sx_iload_n (pc := 17) dX4_findTables_17 sx_m1 ?_
    refine sx_iconst (pc := 18) (v := 0) dX4_findTables_18 (by decide) ?_
    obtain ⟨g26, h⟩ := sx_grd h
    obtain ⟨V27, hV27⟩ : ∃ z : sv_V, z = sv_I V 4 l1.toNatClampNeg (0 : Int32) := ⟨_, rfl⟩
    have h := sx_letE hV27 h
    refine sv_iast (pc := 19) hG dX4_findTables_19 lay_4 g26 hV27 ?_
    refine sx_aload_n (pc := 20) dX4_findTables_20 sx_m0 ?_
    refine sv_getO (pc := 21) hG dX4_findTables_21 f_4_9 lay_29 rfl cr_29_0 ?_
    refine sv_getA (pc := 24) hG dX4_findTables_24 f_4_118 lay_2 rfl cr_2_4 ?_
    refine sx_iload_n (pc := 27) dX4_findTables_27 sx_m1 ?_
    refine sx_iconst (pc := 28) (v := 0) dX4_findTables_28 (by decide) ?_
    obtain ⟨g28, h⟩ := sx_grd h
    obtain ⟨V29, hV29⟩ : ∃ z : sv_V, z = sv_I V27 5 l1.toNatClampNeg (0 : Int32) := ⟨_, rfl⟩
    have h := sx_letE hV29 h
    refine sv_iast (pc := 29) hG dX4_findTables_29 lay_5 g28 hV29 ?_
    refine sx_iconst (pc := 30) (v := 0) dX4_findTables_30 (by decide) ?_
    refine sx_istore_n (pc := 31) (lo' := [(2, .int (0 : Int32)), (0, .ref 29), (1, .int l1)]) dX4_findTables_31 (by decide) rfl ?_
    refine sx_wk (sx_s1 sx_m1 (sx_s1 sx_m2 (sx_s1 sx_m0 sx_s0))) ?_
    exact tL_X4_findTables_32 hG hP hk2 N _ _ _ h
theorem tL_X4_findTables_2 {g : sx_G} (hG : sx_Go g) {P : Option Value → sv_V → Prop} {r : Int32} {Vr : sv_V} (hP : P (some (.int r)) Vr) {N : Nat}   : ∀ (n : Nat) (l1 : Int32) (V : sv_V), sx_lp2 (B_X4_findTables_2 N ) n l1 V = some (r, Vr) → sv_N g qX4_findTables 3 2 [(0, .ref 29), (1, .int l1)] [] V P :=
  sx_lp2_ind (fun k0 ih _ V h => tB_X4_findTables_2 hG hP ih h)
def F_X4_findTables (N : Nat)  (V : sv_V) : Option (Int32 × sv_V) := sx_lp2 (B_X4_findTables_2 N ) N (0 : Int32) V
set_option maxRecDepth 20000 in
theorem t_X4_findTables {g : sx_G} (hG : sx_Go g) {P : Option Value → sv_V → Prop} {r : Int32} {Vr : sv_V} (hP : P (some (.int r)) Vr) {N : Nat}  {V : sv_V} (h : F_X4_findTables N  V = some (r, Vr)) : sv_N g qX4_findTables 3 0 [(0, .ref 29)] [] V P := by
  unfold F_X4_findTables at h
  refine sx_iconst (pc := 0) (v := 0) dX4_findTables_0 (by decide) ?_
  refine sx_istore_n (pc := 1) (lo' := [(1, .int (0 : Int32)), (0, .ref 29)]) dX4_findTables_1 (by decide) rfl ?_
  refine sx_wk (sx_s1 sx_m1 (sx_s1 sx_m0 sx_s0)) ?_
  exact tL_X4_findTables_2 hG hP  N _ _ h
def ncX4_headHolds : Nat := 79849465811106904141502671518881643202455594043908844801791995084976537668664242092577468185624883454358716380526175820228442087740691304250129531305494355915362173854527448075220548339620960553659677269724838821229331185838969181193421096491794499358626528687550781123236552613306662595969830327350076170338237133079715102730378646014178586907199960035070719568859126916435184354396045490896763546396804413851079460507887962469418
theorem kcX4_headHolds : CK cX4_headHolds ncX4_headHolds 179 := ⟨by decide +kernel, by decide +kernel⟩
theorem dX4_headHolds_0 : decode cX4_headHolds 0 = .ok (.aload_n 0, 1) := dl_o42 kcX4_headHolds (by decide +kernel)
theorem dX4_headHolds_1 : decode cX4_headHolds 1 = .ok (.getfield 9, 3) := dl_o180 kcX4_headHolds (by decide +kernel)
theorem dX4_headHolds_4 : decode cX4_headHolds 4 = .ok (.getfield 115, 3) := dl_o180 kcX4_headHolds (by decide +kernel)
theorem dX4_headHolds_7 : decode cX4_headHolds 7 = .ok (.iconst 2, 1) := dl_o5 kcX4_headHolds (by decide +kernel)
theorem dX4_headHolds_8 : decode cX4_headHolds 8 = .ok (.iaload, 1) := dl_o46 kcX4_headHolds (by decide +kernel)
theorem dX4_headHolds_9 : decode cX4_headHolds 9 = .ok (.istore_n 1, 1) := dl_o60 kcX4_headHolds (by decide +kernel)
theorem dX4_headHolds_10 : decode cX4_headHolds 10 = .ok (.aload_n 0, 1) := dl_o42 kcX4_headHolds (by decide +kernel)
theorem dX4_headHolds_11 : decode cX4_headHolds 11 = .ok (.getfield 9, 3) := dl_o180 kcX4_headHolds (by decide +kernel)
theorem dX4_headHolds_14 : decode cX4_headHolds 14 = .ok (.aload_n 0, 1) := dl_o42 kcX4_headHolds (by decide +kernel)
theorem dX4_headHolds_15 : decode cX4_headHolds 15 = .ok (.getfield 9, 3) := dl_o180 kcX4_headHolds (by decide +kernel)
theorem dX4_headHolds_18 : decode cX4_headHolds 18 = .ok (.iload_n 1, 1) := dl_o27 kcX4_headHolds (by decide +kernel)
theorem dX4_headHolds_19 : decode cX4_headHolds 19 = .ok (.bipush 18, 2) := dl_o16 kcX4_headHolds 18 (by decide +kernel) (by decide +kernel)
theorem dX4_headHolds_21 : decode cX4_headHolds 21 = .ok (.iadd, 1) := dl_o96 kcX4_headHolds (by decide +kernel)
theorem dX4_headHolds_22 : decode cX4_headHolds 22 = .ok (.invokevirtual 64, 3) := dl_o182 kcX4_headHolds (by decide +kernel)
theorem dX4_headHolds_25 : decode cX4_headHolds 25 = .ok (.putfield 125, 3) := dl_o181 kcX4_headHolds (by decide +kernel)
theorem dX4_headHolds_28 : decode cX4_headHolds 28 = .ok (.aload_n 0, 1) := dl_o42 kcX4_headHolds (by decide +kernel)
theorem dX4_headHolds_29 : decode cX4_headHolds 29 = .ok (.getfield 9, 3) := dl_o180 kcX4_headHolds (by decide +kernel)
theorem dX4_headHolds_32 : decode cX4_headHolds 32 = .ok (.aload_n 0, 1) := dl_o42 kcX4_headHolds (by decide +kernel)
theorem dX4_headHolds_33 : decode cX4_headHolds 33 = .ok (.getfield 9, 3) := dl_o180 kcX4_headHolds (by decide +kernel)
theorem dX4_headHolds_36 : decode cX4_headHolds 36 = .ok (.iload_n 1, 1) := dl_o27 kcX4_headHolds (by decide +kernel)
theorem dX4_headHolds_37 : decode cX4_headHolds 37 = .ok (.bipush 50, 2) := dl_o16 kcX4_headHolds 50 (by decide +kernel) (by decide +kernel)
theorem dX4_headHolds_39 : decode cX4_headHolds 39 = .ok (.iadd, 1) := dl_o96 kcX4_headHolds (by decide +kernel)
theorem dX4_headHolds_40 : decode cX4_headHolds 40 = .ok (.invokevirtual 128, 3) := dl_o182 kcX4_headHolds (by decide +kernel)
theorem dX4_headHolds_43 : decode cX4_headHolds 43 = .ok (.putfield 131, 3) := dl_o181 kcX4_headHolds (by decide +kernel)
theorem dX4_headHolds_46 : decode cX4_headHolds 46 = .ok (.aload_n 0, 1) := dl_o42 kcX4_headHolds (by decide +kernel)
theorem dX4_headHolds_47 : decode cX4_headHolds 47 = .ok (.getfield 9, 3) := dl_o180 kcX4_headHolds (by decide +kernel)
theorem dX4_headHolds_50 : decode cX4_headHolds 50 = .ok (.getfield 118, 3) := dl_o180 kcX4_headHolds (by decide +kernel)
theorem dX4_headHolds_53 : decode cX4_headHolds 53 = .ok (.iconst 2, 1) := dl_o5 kcX4_headHolds (by decide +kernel)
theorem dX4_headHolds_54 : decode cX4_headHolds 54 = .ok (.iaload, 1) := dl_o46 kcX4_headHolds (by decide +kernel)
theorem dX4_headHolds_55 : decode cX4_headHolds 55 = .ok (.bipush 54, 2) := dl_o16 kcX4_headHolds 54 (by decide +kernel) (by decide +kernel)
theorem dX4_headHolds_57 : decode cX4_headHolds 57 = .ok (.if_icmp .ne 120, 3) := dl_o160 kcX4_headHolds 120 (by decide +kernel) (by decide +kernel)
theorem dX4_headHolds_60 : decode cX4_headHolds 60 = .ok (.aload_n 0, 1) := dl_o42 kcX4_headHolds (by decide +kernel)
theorem dX4_headHolds_61 : decode cX4_headHolds 61 = .ok (.getfield 9, 3) := dl_o180 kcX4_headHolds (by decide +kernel)
theorem dX4_headHolds_64 : decode cX4_headHolds 64 = .ok (.iload_n 1, 1) := dl_o27 kcX4_headHolds (by decide +kernel)
theorem dX4_headHolds_65 : decode cX4_headHolds 65 = .ok (.invokevirtual 74, 3) := dl_o182 kcX4_headHolds (by decide +kernel)
theorem dX4_headHolds_68 : decode cX4_headHolds 68 = .ok (.ldc2_w 78, 3) := dl_o20 kcX4_headHolds (by decide +kernel)
theorem dX4_headHolds_71 : decode cX4_headHolds 71 = .ok (.lcmp, 1) := dl_o148 kcX4_headHolds (by decide +kernel)
theorem dX4_headHolds_72 : decode cX4_headHolds 72 = .ok (.ifCond .ne 105, 3) := dl_o154 kcX4_headHolds 105 (by decide +kernel) (by decide +kernel)
theorem dX4_headHolds_75 : decode cX4_headHolds 75 = .ok (.aload_n 0, 1) := dl_o42 kcX4_headHolds (by decide +kernel)
theorem dX4_headHolds_76 : decode cX4_headHolds 76 = .ok (.getfield 9, 3) := dl_o180 kcX4_headHolds (by decide +kernel)
theorem dX4_headHolds_79 : decode cX4_headHolds 79 = .ok (.iload_n 1, 1) := dl_o27 kcX4_headHolds (by decide +kernel)
theorem dX4_headHolds_80 : decode cX4_headHolds 80 = .ok (.bipush 12, 2) := dl_o16 kcX4_headHolds 12 (by decide +kernel) (by decide +kernel)
theorem dX4_headHolds_82 : decode cX4_headHolds 82 = .ok (.iadd, 1) := dl_o96 kcX4_headHolds (by decide +kernel)
theorem dX4_headHolds_83 : decode cX4_headHolds 83 = .ok (.invokevirtual 74, 3) := dl_o182 kcX4_headHolds (by decide +kernel)
theorem dX4_headHolds_86 : decode cX4_headHolds 86 = .ok (.ldc2_w 134, 3) := dl_o20 kcX4_headHolds (by decide +kernel)
theorem dX4_headHolds_89 : decode cX4_headHolds 89 = .ok (.lcmp, 1) := dl_o148 kcX4_headHolds (by decide +kernel)
theorem dX4_headHolds_90 : decode cX4_headHolds 90 = .ok (.ifCond .ne 87, 3) := dl_o154 kcX4_headHolds 87 (by decide +kernel) (by decide +kernel)
theorem dX4_headHolds_93 : decode cX4_headHolds 93 = .ok (.aload_n 0, 1) := dl_o42 kcX4_headHolds (by decide +kernel)
theorem dX4_headHolds_94 : decode cX4_headHolds 94 = .ok (.getfield 9, 3) := dl_o180 kcX4_headHolds (by decide +kernel)
theorem dX4_headHolds_97 : decode cX4_headHolds 97 = .ok (.getfield 125, 3) := dl_o180 kcX4_headHolds (by decide +kernel)
theorem dX4_headHolds_100 : decode cX4_headHolds 100 = .ok (.bipush 16, 2) := dl_o16 kcX4_headHolds 16 (by decide +kernel) (by decide +kernel)
theorem dX4_headHolds_102 : decode cX4_headHolds 102 = .ok (.if_icmp .lt 75, 3) := dl_o161 kcX4_headHolds 75 (by decide +kernel) (by decide +kernel)
theorem dX4_headHolds_105 : decode cX4_headHolds 105 = .ok (.aload_n 0, 1) := dl_o42 kcX4_headHolds (by decide +kernel)
theorem dX4_headHolds_106 : decode cX4_headHolds 106 = .ok (.getfield 9, 3) := dl_o180 kcX4_headHolds (by decide +kernel)
theorem dX4_headHolds_109 : decode cX4_headHolds 109 = .ok (.getfield 125, 3) := dl_o180 kcX4_headHolds (by decide +kernel)
theorem dX4_headHolds_112 : decode cX4_headHolds 112 = .ok (.sipush 16384, 3) := dl_o17 kcX4_headHolds 16384 (by decide +kernel) (by decide +kernel)
theorem dX4_headHolds_115 : decode cX4_headHolds 115 = .ok (.if_icmp .gt 62, 3) := dl_o163 kcX4_headHolds 62 (by decide +kernel) (by decide +kernel)
theorem dX4_headHolds_118 : decode cX4_headHolds 118 = .ok (.aload_n 0, 1) := dl_o42 kcX4_headHolds (by decide +kernel)
theorem dX4_headHolds_119 : decode cX4_headHolds 119 = .ok (.getfield 9, 3) := dl_o180 kcX4_headHolds (by decide +kernel)
theorem dX4_headHolds_122 : decode cX4_headHolds 122 = .ok (.getfield 131, 3) := dl_o180 kcX4_headHolds (by decide +kernel)
theorem dX4_headHolds_125 : decode cX4_headHolds 125 = .ok (.ifCond .eq 14, 3) := dl_o153 kcX4_headHolds 14 (by decide +kernel) (by decide +kernel)
theorem dX4_headHolds_128 : decode cX4_headHolds 128 = .ok (.aload_n 0, 1) := dl_o42 kcX4_headHolds (by decide +kernel)
theorem dX4_headHolds_129 : decode cX4_headHolds 129 = .ok (.getfield 9, 3) := dl_o180 kcX4_headHolds (by decide +kernel)
theorem dX4_headHolds_132 : decode cX4_headHolds 132 = .ok (.getfield 131, 3) := dl_o180 kcX4_headHolds (by decide +kernel)
theorem dX4_headHolds_135 : decode cX4_headHolds 135 = .ok (.iconst 1, 1) := dl_o4 kcX4_headHolds (by decide +kernel)
theorem dX4_headHolds_136 : decode cX4_headHolds 136 = .ok (.if_icmp .ne 41, 3) := dl_o160 kcX4_headHolds 41 (by decide +kernel) (by decide +kernel)
theorem dX4_headHolds_139 : decode cX4_headHolds 139 = .ok (.aload_n 0, 1) := dl_o42 kcX4_headHolds (by decide +kernel)
theorem dX4_headHolds_140 : decode cX4_headHolds 140 = .ok (.getfield 9, 3) := dl_o180 kcX4_headHolds (by decide +kernel)
theorem dX4_headHolds_143 : decode cX4_headHolds 143 = .ok (.iload_n 1, 1) := dl_o27 kcX4_headHolds (by decide +kernel)
theorem dX4_headHolds_144 : decode cX4_headHolds 144 = .ok (.bipush 52, 2) := dl_o16 kcX4_headHolds 52 (by decide +kernel) (by decide +kernel)
theorem dX4_headHolds_146 : decode cX4_headHolds 146 = .ok (.iadd, 1) := dl_o96 kcX4_headHolds (by decide +kernel)
theorem dX4_headHolds_147 : decode cX4_headHolds 147 = .ok (.invokevirtual 128, 3) := dl_o182 kcX4_headHolds (by decide +kernel)
theorem dX4_headHolds_150 : decode cX4_headHolds 150 = .ok (.ifCond .ne 27, 3) := dl_o154 kcX4_headHolds 27 (by decide +kernel) (by decide +kernel)
theorem dX4_headHolds_153 : decode cX4_headHolds 153 = .ok (.aload_n 0, 1) := dl_o42 kcX4_headHolds (by decide +kernel)
theorem dX4_headHolds_154 : decode cX4_headHolds 154 = .ok (.iconst 0, 1) := dl_o3 kcX4_headHolds (by decide +kernel)
theorem dX4_headHolds_155 : decode cX4_headHolds 155 = .ok (.aload_n 0, 1) := dl_o42 kcX4_headHolds (by decide +kernel)
theorem dX4_headHolds_156 : decode cX4_headHolds 156 = .ok (.getfield 9, 3) := dl_o180 kcX4_headHolds (by decide +kernel)
theorem dX4_headHolds_159 : decode cX4_headHolds 159 = .ok (.getfield 70, 3) := dl_o180 kcX4_headHolds (by decide +kernel)
theorem dX4_headHolds_162 : decode cX4_headHolds 162 = .ok (.iconst 0, 1) := dl_o3 kcX4_headHolds (by decide +kernel)
theorem dX4_headHolds_163 : decode cX4_headHolds 163 = .ok (.invokevirtual 106, 3) := dl_o182 kcX4_headHolds (by decide +kernel)
theorem dX4_headHolds_166 : decode cX4_headHolds 166 = .ok (.ldc2_w 136, 3) := dl_o20 kcX4_headHolds (by decide +kernel)
theorem dX4_headHolds_169 : decode cX4_headHolds 169 = .ok (.lcmp, 1) := dl_o148 kcX4_headHolds (by decide +kernel)
theorem dX4_headHolds_170 : decode cX4_headHolds 170 = .ok (.ifCond .ne 7, 3) := dl_o154 kcX4_headHolds 7 (by decide +kernel) (by decide +kernel)
theorem dX4_headHolds_173 : decode cX4_headHolds 173 = .ok (.iconst 1, 1) := dl_o4 kcX4_headHolds (by decide +kernel)
theorem dX4_headHolds_174 : decode cX4_headHolds 174 = .ok (.goto 4, 3) := dl_o167 kcX4_headHolds 4 (by decide +kernel) (by decide +kernel)
theorem dX4_headHolds_177 : decode cX4_headHolds 177 = .ok (.iconst 0, 1) := dl_o3 kcX4_headHolds (by decide +kernel)
theorem dX4_headHolds_178 : decode cX4_headHolds 178 = .ok (.ireturn, 1) := dl_o172 kcX4_headHolds (by decide +kernel)
def B_X4_headHolds_139 (N : Nat)  (l1 : Int32) (V : sv_V) : Option (Int32 × sv_V) := (F_X2_s2 (l1 + (52 : Int32)) V).bind (fun (x3, V1) => if x3 = 0 then ((F_X4_sumOf N (0 : Int32) (V1.1 2 1) (0 : Int32) V1).bind (fun (x7, V5) => if (lg_cmp x7 (2981146554 : Int64)) = 0 then (some ((1 : Int32), V5)) else (some ((0 : Int32), V5)))) else (some ((0 : Int32), V1)))
set_option maxRecDepth 20000 in
theorem tB_X4_headHolds_139 {g : sx_G} (hG : sx_Go g) {P : Option Value → sv_V → Prop} {r : Int32} {Vr : sv_V} (hP : P (some (.int r)) Vr) {N : Nat}   {l1 : Int32} {V : sv_V} (h : B_X4_headHolds_139 N  l1 V = some (r, Vr)) : sv_N g qX4_headHolds 2 139 [(0, .ref 29), (1, .int l1)] [] V P := by
  unfold B_X4_headHolds_139 at h
  refine sx_aload_n (pc := 139) dX4_headHolds_139 sx_m0 ?_
  refine sv_getO (pc := 140) hG dX4_headHolds_140 f_4_9 lay_29 rfl cr_29_0 ?_
  refine sx_iload_n (pc := 143) dX4_headHolds_143 sx_m1 ?_
  refine sx_bipush (pc := 144) (v := 52) dX4_headHolds_144 (by decide) ?_
  refine sx_iadd (pc := 146) dX4_headHolds_146 ?_
  obtain ⟨⟨x3, V1⟩, g2, h⟩ := sx_bnd h
  refine sv_cV (pc := 147) (y := qX2_s2) (o := (some (.int x3))) (as := [.int (l1 + (52 : Int32))]) (V1 := V1) hG dX4_headHolds_147 l_X4_128 y0X2_s2 yvX2_s2 rfl (Nat.le_of_ble_eq_true rfl) lay_2 kr_2 (by decide) (Nat.le_of_ble_eq_true rfl) rfl rfl rfl (t_X2_s2 hG ⟨rfl, rfl⟩ g2) ?_
  refine sx_if_ne (pc := 150) (tgt := 177) dX4_headHolds_150 (by decide) (fun c4 => ?_) (fun c4 => ?_)
  · have h := sx_neg c4 h
    refine sx_iconst (pc := 177) (v := 0) dX4_headHolds_177 (by decide) ?_
    exact sv_zret (pc := 178) dX4_headHolds_178 rfl rfl h hP
  · have h := sx_pos c4 h
    refine sx_aload_n (pc := 153) dX4_headHolds_153 sx_m0 ?_
    refine sx_iconst (pc := 154) (v := 0) dX4_headHolds_154 (by decide) ?_
    refine sx_aload_n (pc := 155) dX4_headHolds_155 sx_m0 ?_
    refine sv_getO (pc := 156) hG dX4_headHolds_156 f_4_9 lay_29 rfl cr_29_0 ?_
    refine sv_getI (pc := 159) hG dX4_headHolds_159 f_4_70 lay_2 rfl ?_
    refine sx_iconst (pc := 162) (v := 0) dX4_headHolds_162 (by decide) ?_
    obtain ⟨⟨x7, V5⟩, g6, h⟩ := sx_bnd h
    refine sv_cV (pc := 163) (y := qX4_sumOf) (o := (some (.long x7))) (as := [.int (0 : Int32), .int (V1.1 2 1), .int (0 : Int32)]) (V1 := V5) hG dX4_headHolds_163 l_X4_106 y0X4_sumOf yvX4_sumOf rfl (Nat.le_of_ble_eq_true rfl) lay_29 kr_4 (by decide) (Nat.le_of_ble_eq_true rfl) rfl rfl rfl (t_X4_sumOf hG ⟨rfl, rfl⟩ g6) ?_
    refine sx_ldc2 (pc := 166) dX4_headHolds_166 k_X4_136 ?_
    refine sx_lcmp (pc := 169) dX4_headHolds_169 ?_
    refine sx_if_ne (pc := 170) (tgt := 177) dX4_headHolds_170 (by decide) (fun c8 => ?_) (fun c8 => ?_)
    · have h := sx_neg c8 h
      refine sx_iconst (pc := 177) (v := 0) dX4_headHolds_177 (by decide) ?_
      exact sv_zret (pc := 178) dX4_headHolds_178 rfl rfl h hP
    · have h := sx_pos c8 h
      refine sx_iconst (pc := 173) (v := 1) dX4_headHolds_173 (by decide) ?_
      refine sx_goto (pc := 174) (tgt := 178) dX4_headHolds_174 (by decide) ?_
      exact sv_zret (pc := 178) dX4_headHolds_178 rfl rfl h hP
def F_X4_headHolds (N : Nat)  (V : sv_V) : Option (Int32 × sv_V) := sx_let (V.1 4 (2 : Int32).toNatClampNeg) (fun x9 => (F_X2_u2 (x9 + (18 : Int32)) V).bind (fun (x12, V10) => sx_let (sv_I V10 2 6 x12) (fun V13 => (F_X2_s2 (x9 + (50 : Int32)) V13).bind (fun (x16, V14) => sx_let (sv_I V14 2 9 x16) (fun V17 => if (V17.1 5 (2 : Int32).toNatClampNeg) = (54 : Int32) then ((F_X2_u4 x9 V17).bind (fun (x21, V19) => if (lg_cmp x21 (65536 : Int64)) = 0 then ((F_X2_u4 (x9 + (12 : Int32)) V19).bind (fun (x25, V23) => if (lg_cmp x25 (1594834165 : Int64)) = 0 then (if (V23.1 2 6) < (16 : Int32) then (some ((0 : Int32), V23)) else (if (16384 : Int32) < (V23.1 2 6) then (some ((0 : Int32), V23)) else (if (V23.1 2 9) = 0 then (B_X4_headHolds_139 N  x9 V23) else (if (V23.1 2 9) = (1 : Int32) then (B_X4_headHolds_139 N  x9 V23) else (some ((0 : Int32), V23)))))) else (some ((0 : Int32), V23)))) else (some ((0 : Int32), V19)))) else (some ((0 : Int32), V17)))))))
set_option maxRecDepth 20000 in
theorem t_X4_headHolds {g : sx_G} (hG : sx_Go g) {P : Option Value → sv_V → Prop} {r : Int32} {Vr : sv_V} (hP : P (some (.int r)) Vr) {N : Nat}  {V : sv_V} (h : F_X4_headHolds N  V = some (r, Vr)) : sv_N g qX4_headHolds 2 0 [(0, .ref 29)] [] V P := by
  unfold F_X4_headHolds at h
  refine sx_aload_n (pc := 0) dX4_headHolds_0 sx_m0 ?_
  refine sv_getO (pc := 1) hG dX4_headHolds_1 f_4_9 lay_29 rfl cr_29_0 ?_
  refine sv_getA (pc := 4) hG dX4_headHolds_4 f_4_115 lay_2 rfl cr_2_3 ?_
  refine sx_iconst (pc := 7) (v := 2) dX4_headHolds_7 (by decide) ?_
  refine sv_iald (pc := 8) hG dX4_headHolds_8 lay_4 (by decide) ?_
  refine sv_tI (fun x9 hx9 => ?_)
  have h := sx_letE hx9 h
  refine sx_istore_n (pc := 9) (lo' := [(1, .int x9), (0, .ref 29)]) dX4_headHolds_9 (by decide) rfl ?_
  refine sx_aload_n (pc := 10) dX4_headHolds_10 sx_m1 ?_
  refine sv_getO (pc := 11) hG dX4_headHolds_11 f_4_9 lay_29 rfl cr_29_0 ?_
  refine sx_aload_n (pc := 14) dX4_headHolds_14 sx_m1 ?_
  refine sv_getO (pc := 15) hG dX4_headHolds_15 f_4_9 lay_29 rfl cr_29_0 ?_
  refine sx_iload_n (pc := 18) dX4_headHolds_18 sx_m0 ?_
  refine sx_bipush (pc := 19) (v := 18) dX4_headHolds_19 (by decide) ?_
  refine sx_iadd (pc := 21) dX4_headHolds_21 ?_
  obtain ⟨⟨x12, V10⟩, g11, h⟩ := sx_bnd h
  refine sv_cV (pc := 22) (y := qX2_u2) (o := (some (.int x12))) (as := [.int (x9 + (18 : Int32))]) (V1 := V10) hG dX4_headHolds_22 l_X4_64 y0X2_u2 yvX2_u2 rfl (Nat.le_of_ble_eq_true rfl) lay_2 kr_2 (by decide) (Nat.le_of_ble_eq_true rfl) rfl rfl rfl (t_X2_u2 hG ⟨rfl, rfl⟩ g11) ?_
  obtain ⟨V13, hV13⟩ : ∃ z : sv_V, z = sv_I V10 2 6 x12 := ⟨_, rfl⟩
  have h := sx_letE hV13 h
  refine sv_putI (pc := 25) hG dX4_headHolds_25 f_4_125 lay_2 rfl hV13 ?_
  refine sx_aload_n (pc := 28) dX4_headHolds_28 sx_m1 ?_
  refine sv_getO (pc := 29) hG dX4_headHolds_29 f_4_9 lay_29 rfl cr_29_0 ?_
  refine sx_aload_n (pc := 32) dX4_headHolds_32 sx_m1 ?_
  refine sv_getO (pc := 33) hG dX4_headHolds_33 f_4_9 lay_29 rfl cr_29_0 ?_
  refine sx_iload_n (pc := 36) dX4_headHolds_36 sx_m0 ?_
  refine sx_bipush (pc := 37) (v := 50) dX4_headHolds_37 (by decide) ?_
  refine sx_iadd (pc := 39) dX4_headHolds_39 ?_
  obtain ⟨⟨x16, V14⟩, g15, h⟩ := sx_bnd h
  refine sv_cV (pc := 40) (y := qX2_s2) (o := (some (.int x16))) (as := [.int (x9 + (50 : Int32))]) (V1 := V14) hG dX4_headHolds_40 l_X4_128 y0X2_s2 yvX2_s2 rfl (Nat.le_of_ble_eq_true rfl) lay_2 kr_2 (by decide) (Nat.le_of_ble_eq_true rfl) rfl rfl rfl (t_X2_s2 hG ⟨rfl, rfl⟩ g15) ?_
  obtain ⟨V17, hV17⟩ : ∃ z : sv_V, z = sv_I V14 2 9 x16 := ⟨_, rfl⟩
  have h := sx_letE hV17 h
  refine sv_putI (pc := 43) hG dX4_headHolds_43 f_4_131 lay_2 rfl hV17 ?_
  refine sx_aload_n (pc := 46) dX4_headHolds_46 sx_m1 ?_
  refine sv_getO (pc := 47) hG dX4_headHolds_47 f_4_9 lay_29 rfl cr_29_0 ?_
  refine sv_getA (pc := 50) hG dX4_headHolds_50 f_4_118 lay_2 rfl cr_2_4 ?_
  refine sx_iconst (pc := 53) (v := 2) dX4_headHolds_53 (by decide) ?_
  refine sv_iald (pc := 54) hG dX4_headHolds_54 lay_5 (by decide) ?_
  refine sx_bipush (pc := 55) (v := 54) dX4_headHolds_55 (by decide) ?_
  refine sx_icmp_ne (pc := 57) (tgt := 177) dX4_headHolds_57 (by decide) (fun c18 => ?_) (fun c18 => ?_)
  · have h := sx_neg c18 h
    refine sx_iconst (pc := 177) (v := 0) dX4_headHolds_177 (by decide) ?_
    exact sv_zret (pc := 178) dX4_headHolds_178 rfl rfl h hP
  · have h := sx_pos c18 h
    refine sx_aload_n (pc := 60) dX4_headHolds_60 sx_m1 ?_
    refine sv_getO (pc := 61) hG dX4_headHolds_61 f_4_9 lay_29 rfl cr_29_0 ?_
    refine sx_iload_n (pc := 64) dX4_headHolds_64 sx_m0 ?_
    obtain ⟨⟨x21, V19⟩, g20, h⟩ := sx_bnd h
    refine sv_cV (pc := 65) (y := qX2_u4) (o := (some (.long x21))) (as := [.int x9]) (V1 := V19) hG dX4_headHolds_65 l_X4_74 y0X2_u4 yvX2_u4 rfl (Nat.le_of_ble_eq_true rfl) lay_2 kr_2 (by decide) (Nat.le_of_ble_eq_true rfl) rfl rfl rfl (t_X2_u4 hG ⟨rfl, rfl⟩ g20) ?_
    refine sx_ldc2 (pc := 68) dX4_headHolds_68 k_X4_78 ?_
    refine sx_lcmp (pc := 71) dX4_headHolds_71 ?_
    refine sx_if_ne (pc := 72) (tgt := 177) dX4_headHolds_72 (by decide) (fun c22 => ?_) (fun c22 => ?_)
    · have h := sx_neg c22 h
      refine sx_iconst (pc := 177) (v := 0) dX4_headHolds_177 (by decide) ?_
      exact sv_zret (pc := 178) dX4_headHolds_178 rfl rfl h hP
    · have h := sx_pos c22 h
      refine sx_aload_n (pc := 75) dX4_headHolds_75 sx_m1 ?_
      refine sv_getO (pc := 76) hG dX4_headHolds_76 f_4_9 lay_29 rfl cr_29_0 ?_
      refine sx_iload_n (pc := 79) dX4_headHolds_79 sx_m0 ?_
      refine sx_bipush (pc := 80) (v := 12) dX4_headHolds_80 (by decide) ?_
      refine sx_iadd (pc := 82) dX4_headHolds_82 ?_
      obtain ⟨⟨x25, V23⟩, g24, h⟩ := sx_bnd h
      refine sv_cV (pc := 83) (y := qX2_u4) (o := (some (.long x25))) (as := [.int (x9 + (12 : Int32))]) (V1 := V23) hG dX4_headHolds_83 l_X4_74 y0X2_u4 yvX2_u4 rfl (Nat.le_of_ble_eq_true rfl) lay_2 kr_2 (by decide) (Nat.le_of_ble_eq_true rfl) rfl rfl rfl (t_X2_u4 hG ⟨rfl, rfl⟩ g24) ?_
      refine sx_ldc2 (pc := 86) dX4_headHolds_86 k_X4_134 ?_
      refine sx_lcmp (pc := 89) dX4_headHolds_89 ?_
      refine sx_if_ne (pc := 90) (tgt := 177) dX4_headHolds_90 (by decide) (fun c26 => ?_) (fun c26 => ?_)
      · have h := sx_neg c26 h
        refine sx_iconst (pc := 177) (v := 0) dX4_headHolds_177 (by decide) ?_
        exact sv_zret (pc := 178) dX4_headHolds_178 rfl rfl h hP
      · have h := sx_pos c26 h
        refine sx_aload_n (pc := 93) dX4_headHolds_93 sx_m1 ?_
        refine sv_getO (pc := 94) hG dX4_headHolds_94 f_4_9 lay_29 rfl cr_29_0 ?_
        refine sv_getI (pc := 97) hG dX4_headHolds_97 f_4_125 lay_2 rfl ?_
        refine sx_bipush (pc := 100) (v := 16) dX4_headHolds_100 (by decide) ?_
        refine sx_icmp_lt (pc := 102) (tgt := 177) dX4_headHolds_102 (by decide) (fun c27 => ?_) (fun c27 => ?_)
        · have h := sx_pos c27 h
          refine sx_iconst (pc := 177) (v := 0) dX4_headHolds_177 (by decide) ?_
          exact sv_zret (pc := 178) dX4_headHolds_178 rfl rfl h hP
        · have h := sx_neg c27 h
          refine sx_aload_n (pc := 105) dX4_headHolds_105 sx_m1 ?_
          refine sv_getO (pc := 106) hG dX4_headHolds_106 f_4_9 lay_29 rfl cr_29_0 ?_
          refine sv_getI (pc := 109) hG dX4_headHolds_109 f_4_125 lay_2 rfl ?_
          refine sx_sipush (pc := 112) (v := 16384) dX4_headHolds_112 (by decide) ?_
          refine sx_icmp_gt (pc := 115) (tgt := 177) dX4_headHolds_115 (by decide) (fun c28 => ?_) (fun c28 => ?_)
          · have h := sx_pos c28 h
            refine sx_iconst (pc := 177) (v := 0) dX4_headHolds_177 (by decide) ?_
            exact sv_zret (pc := 178) dX4_headHolds_178 rfl rfl h hP
          · have h := sx_neg c28 h
            refine sx_aload_n (pc := 118) dX4_headHolds_118 sx_m1 ?_
            refine sv_getO (pc := 119) hG dX4_headHolds_119 f_4_9 lay_29 rfl cr_29_0 ?_
            refine sv_getI (pc := 122) hG dX4_headHolds_122 f_4_131 lay_2 rfl ?_
            refine sx_if_eq (pc := 125) (tgt := 139) dX4_headHolds_125 (by decide) (fun c29 => ?_) (fun c29 => ?_)
            · have h := sx_pos c29 h
              refine sx_wk (sx_s1 sx_m1 (sx_s1 sx_m0 sx_s0)) ?_
              exact tB_X4_headHolds_139 hG hP  h
            · have h := sx_neg c29 h
              refine sx_aload_n (pc := 128) dX4_headHolds_128 sx_m1 ?_
              refine sv_getO (pc := 129) hG dX4_headHolds_129 f_4_9 lay_29 rfl cr_29_0 ?_
              refine sv_getI (pc := 132) hG dX4_headHolds_132 f_4_131 lay_2 rfl ?_
              refine sx_iconst (pc := 135) (v := 1) dX4_headHolds_135 (by decide) ?_
              refine sx_icmp_ne (pc := 136) (tgt := 177) dX4_headHolds_136 (by decide) (fun c30 => ?_) (fun c30 => ?_)
              · have h := sx_neg c30 h
                refine sx_iconst (pc := 177) (v := 0) dX4_headHolds_177 (by decide) ?_
                exact sv_zret (pc := 178) dX4_headHolds_178 rfl rfl h hP
              · have h := sx_pos c30 h
                refine sx_wk (sx_s1 sx_m1 (sx_s1 sx_m0 sx_s0)) ?_
                exact tB_X4_headHolds_139 hG hP  h
def ncX4_maxpHolds : Nat := 4759399045175725468486106064524439297957130701394616293697389641975737395239570645448403466073963308508425271137290292105093555136836391199514038973518468517288135447178091730182254297668362584039609010372807011530353555785309896360439555233368552678086743177200426383686206676933503554709514881963450237883899816810910735214638150009044330999263796977506635519707538012315078851112568185050347234383806511540327387018343466
theorem kcX4_maxpHolds : CK cX4_maxpHolds ncX4_maxpHolds 176 := ⟨by decide +kernel, by decide +kernel⟩
theorem dX4_maxpHolds_0 : decode cX4_maxpHolds 0 = .ok (.aload_n 0, 1) := dl_o42 kcX4_maxpHolds (by decide +kernel)
theorem dX4_maxpHolds_1 : decode cX4_maxpHolds 1 = .ok (.getfield 9, 3) := dl_o180 kcX4_maxpHolds (by decide +kernel)
theorem dX4_maxpHolds_4 : decode cX4_maxpHolds 4 = .ok (.getfield 115, 3) := dl_o180 kcX4_maxpHolds (by decide +kernel)
theorem dX4_maxpHolds_7 : decode cX4_maxpHolds 7 = .ok (.bipush 6, 2) := dl_o16 kcX4_maxpHolds 6 (by decide +kernel) (by decide +kernel)
theorem dX4_maxpHolds_9 : decode cX4_maxpHolds 9 = .ok (.iaload, 1) := dl_o46 kcX4_maxpHolds (by decide +kernel)
theorem dX4_maxpHolds_10 : decode cX4_maxpHolds 10 = .ok (.istore_n 1, 1) := dl_o60 kcX4_maxpHolds (by decide +kernel)
theorem dX4_maxpHolds_11 : decode cX4_maxpHolds 11 = .ok (.aload_n 0, 1) := dl_o42 kcX4_maxpHolds (by decide +kernel)
theorem dX4_maxpHolds_12 : decode cX4_maxpHolds 12 = .ok (.getfield 9, 3) := dl_o180 kcX4_maxpHolds (by decide +kernel)
theorem dX4_maxpHolds_15 : decode cX4_maxpHolds 15 = .ok (.aload_n 0, 1) := dl_o42 kcX4_maxpHolds (by decide +kernel)
theorem dX4_maxpHolds_16 : decode cX4_maxpHolds 16 = .ok (.getfield 9, 3) := dl_o180 kcX4_maxpHolds (by decide +kernel)
theorem dX4_maxpHolds_19 : decode cX4_maxpHolds 19 = .ok (.iload_n 1, 1) := dl_o27 kcX4_maxpHolds (by decide +kernel)
theorem dX4_maxpHolds_20 : decode cX4_maxpHolds 20 = .ok (.iconst 4, 1) := dl_o7 kcX4_maxpHolds (by decide +kernel)
theorem dX4_maxpHolds_21 : decode cX4_maxpHolds 21 = .ok (.iadd, 1) := dl_o96 kcX4_maxpHolds (by decide +kernel)
theorem dX4_maxpHolds_22 : decode cX4_maxpHolds 22 = .ok (.invokevirtual 64, 3) := dl_o182 kcX4_maxpHolds (by decide +kernel)
theorem dX4_maxpHolds_25 : decode cX4_maxpHolds 25 = .ok (.putfield 138, 3) := dl_o181 kcX4_maxpHolds (by decide +kernel)
theorem dX4_maxpHolds_28 : decode cX4_maxpHolds 28 = .ok (.aload_n 0, 1) := dl_o42 kcX4_maxpHolds (by decide +kernel)
theorem dX4_maxpHolds_29 : decode cX4_maxpHolds 29 = .ok (.getfield 9, 3) := dl_o180 kcX4_maxpHolds (by decide +kernel)
theorem dX4_maxpHolds_32 : decode cX4_maxpHolds 32 = .ok (.getfield 118, 3) := dl_o180 kcX4_maxpHolds (by decide +kernel)
theorem dX4_maxpHolds_35 : decode cX4_maxpHolds 35 = .ok (.bipush 6, 2) := dl_o16 kcX4_maxpHolds 6 (by decide +kernel) (by decide +kernel)
theorem dX4_maxpHolds_37 : decode cX4_maxpHolds 37 = .ok (.iaload, 1) := dl_o46 kcX4_maxpHolds (by decide +kernel)
theorem dX4_maxpHolds_38 : decode cX4_maxpHolds 38 = .ok (.bipush 32, 2) := dl_o16 kcX4_maxpHolds 32 (by decide +kernel) (by decide +kernel)
theorem dX4_maxpHolds_40 : decode cX4_maxpHolds 40 = .ok (.if_icmp .ne 42, 3) := dl_o160 kcX4_maxpHolds 42 (by decide +kernel) (by decide +kernel)
theorem dX4_maxpHolds_43 : decode cX4_maxpHolds 43 = .ok (.aload_n 0, 1) := dl_o42 kcX4_maxpHolds (by decide +kernel)
theorem dX4_maxpHolds_44 : decode cX4_maxpHolds 44 = .ok (.getfield 9, 3) := dl_o180 kcX4_maxpHolds (by decide +kernel)
theorem dX4_maxpHolds_47 : decode cX4_maxpHolds 47 = .ok (.iload_n 1, 1) := dl_o27 kcX4_maxpHolds (by decide +kernel)
theorem dX4_maxpHolds_48 : decode cX4_maxpHolds 48 = .ok (.invokevirtual 74, 3) := dl_o182 kcX4_maxpHolds (by decide +kernel)
theorem dX4_maxpHolds_51 : decode cX4_maxpHolds 51 = .ok (.ldc2_w 78, 3) := dl_o20 kcX4_maxpHolds (by decide +kernel)
theorem dX4_maxpHolds_54 : decode cX4_maxpHolds 54 = .ok (.lcmp, 1) := dl_o148 kcX4_maxpHolds (by decide +kernel)
theorem dX4_maxpHolds_55 : decode cX4_maxpHolds 55 = .ok (.ifCond .ne 27, 3) := dl_o154 kcX4_maxpHolds 27 (by decide +kernel) (by decide +kernel)
theorem dX4_maxpHolds_58 : decode cX4_maxpHolds 58 = .ok (.aload_n 0, 1) := dl_o42 kcX4_maxpHolds (by decide +kernel)
theorem dX4_maxpHolds_59 : decode cX4_maxpHolds 59 = .ok (.getfield 9, 3) := dl_o180 kcX4_maxpHolds (by decide +kernel)
theorem dX4_maxpHolds_62 : decode cX4_maxpHolds 62 = .ok (.getfield 138, 3) := dl_o180 kcX4_maxpHolds (by decide +kernel)
theorem dX4_maxpHolds_65 : decode cX4_maxpHolds 65 = .ok (.iconst 1, 1) := dl_o4 kcX4_maxpHolds (by decide +kernel)
theorem dX4_maxpHolds_66 : decode cX4_maxpHolds 66 = .ok (.if_icmp .lt 16, 3) := dl_o161 kcX4_maxpHolds 16 (by decide +kernel) (by decide +kernel)
theorem dX4_maxpHolds_69 : decode cX4_maxpHolds 69 = .ok (.aload_n 0, 1) := dl_o42 kcX4_maxpHolds (by decide +kernel)
theorem dX4_maxpHolds_70 : decode cX4_maxpHolds 70 = .ok (.getfield 9, 3) := dl_o180 kcX4_maxpHolds (by decide +kernel)
theorem dX4_maxpHolds_73 : decode cX4_maxpHolds 73 = .ok (.getfield 138, 3) := dl_o180 kcX4_maxpHolds (by decide +kernel)
theorem dX4_maxpHolds_76 : decode cX4_maxpHolds 76 = .ok (.sipush 200, 3) := dl_o17 kcX4_maxpHolds 200 (by decide +kernel) (by decide +kernel)
theorem dX4_maxpHolds_79 : decode cX4_maxpHolds 79 = .ok (.if_icmp .le 5, 3) := dl_o164 kcX4_maxpHolds 5 (by decide +kernel) (by decide +kernel)
theorem dX4_maxpHolds_82 : decode cX4_maxpHolds 82 = .ok (.iconst 0, 1) := dl_o3 kcX4_maxpHolds (by decide +kernel)
theorem dX4_maxpHolds_83 : decode cX4_maxpHolds 83 = .ok (.ireturn, 1) := dl_o172 kcX4_maxpHolds (by decide +kernel)
theorem dX4_maxpHolds_84 : decode cX4_maxpHolds 84 = .ok (.iconst 0, 1) := dl_o3 kcX4_maxpHolds (by decide +kernel)
theorem dX4_maxpHolds_85 : decode cX4_maxpHolds 85 = .ok (.istore_n 2, 1) := dl_o61 kcX4_maxpHolds (by decide +kernel)
theorem dX4_maxpHolds_86 : decode cX4_maxpHolds 86 = .ok (.iload_n 2, 1) := dl_o28 kcX4_maxpHolds (by decide +kernel)
theorem dX4_maxpHolds_87 : decode cX4_maxpHolds 87 = .ok (.getstatic 141, 3) := dl_o178 kcX4_maxpHolds (by decide +kernel)
theorem dX4_maxpHolds_90 : decode cX4_maxpHolds 90 = .ok (.arraylength, 1) := dl_o190 kcX4_maxpHolds (by decide +kernel)
theorem dX4_maxpHolds_91 : decode cX4_maxpHolds 91 = .ok (.if_icmp .ge 54, 3) := dl_o162 kcX4_maxpHolds 54 (by decide +kernel) (by decide +kernel)
theorem dX4_maxpHolds_94 : decode cX4_maxpHolds 94 = .ok (.aload_n 0, 1) := dl_o42 kcX4_maxpHolds (by decide +kernel)
theorem dX4_maxpHolds_95 : decode cX4_maxpHolds 95 = .ok (.getfield 9, 3) := dl_o180 kcX4_maxpHolds (by decide +kernel)
theorem dX4_maxpHolds_98 : decode cX4_maxpHolds 98 = .ok (.iload_n 1, 1) := dl_o27 kcX4_maxpHolds (by decide +kernel)
theorem dX4_maxpHolds_99 : decode cX4_maxpHolds 99 = .ok (.getstatic 141, 3) := dl_o178 kcX4_maxpHolds (by decide +kernel)
theorem dX4_maxpHolds_102 : decode cX4_maxpHolds 102 = .ok (.iload_n 2, 1) := dl_o28 kcX4_maxpHolds (by decide +kernel)
theorem dX4_maxpHolds_103 : decode cX4_maxpHolds 103 = .ok (.iaload, 1) := dl_o46 kcX4_maxpHolds (by decide +kernel)
theorem dX4_maxpHolds_104 : decode cX4_maxpHolds 104 = .ok (.iadd, 1) := dl_o96 kcX4_maxpHolds (by decide +kernel)
theorem dX4_maxpHolds_105 : decode cX4_maxpHolds 105 = .ok (.invokevirtual 64, 3) := dl_o182 kcX4_maxpHolds (by decide +kernel)
theorem dX4_maxpHolds_108 : decode cX4_maxpHolds 108 = .ok (.istore_n 3, 1) := dl_o62 kcX4_maxpHolds (by decide +kernel)
theorem dX4_maxpHolds_109 : decode cX4_maxpHolds 109 = .ok (.iload_n 3, 1) := dl_o29 kcX4_maxpHolds (by decide +kernel)
theorem dX4_maxpHolds_110 : decode cX4_maxpHolds 110 = .ok (.getstatic 144, 3) := dl_o178 kcX4_maxpHolds (by decide +kernel)
theorem dX4_maxpHolds_113 : decode cX4_maxpHolds 113 = .ok (.iload_n 2, 1) := dl_o28 kcX4_maxpHolds (by decide +kernel)
theorem dX4_maxpHolds_114 : decode cX4_maxpHolds 114 = .ok (.iaload, 1) := dl_o46 kcX4_maxpHolds (by decide +kernel)
theorem dX4_maxpHolds_115 : decode cX4_maxpHolds 115 = .ok (.if_icmp .lt 12, 3) := dl_o161 kcX4_maxpHolds 12 (by decide +kernel) (by decide +kernel)
theorem dX4_maxpHolds_118 : decode cX4_maxpHolds 118 = .ok (.iload_n 3, 1) := dl_o29 kcX4_maxpHolds (by decide +kernel)
theorem dX4_maxpHolds_119 : decode cX4_maxpHolds 119 = .ok (.getstatic 147, 3) := dl_o178 kcX4_maxpHolds (by decide +kernel)
theorem dX4_maxpHolds_122 : decode cX4_maxpHolds 122 = .ok (.iload_n 2, 1) := dl_o28 kcX4_maxpHolds (by decide +kernel)
theorem dX4_maxpHolds_123 : decode cX4_maxpHolds 123 = .ok (.iaload, 1) := dl_o46 kcX4_maxpHolds (by decide +kernel)
theorem dX4_maxpHolds_124 : decode cX4_maxpHolds 124 = .ok (.if_icmp .le 5, 3) := dl_o164 kcX4_maxpHolds 5 (by decide +kernel) (by decide +kernel)
theorem dX4_maxpHolds_127 : decode cX4_maxpHolds 127 = .ok (.iconst 0, 1) := dl_o3 kcX4_maxpHolds (by decide +kernel)
theorem dX4_maxpHolds_128 : decode cX4_maxpHolds 128 = .ok (.ireturn, 1) := dl_o172 kcX4_maxpHolds (by decide +kernel)
theorem dX4_maxpHolds_129 : decode cX4_maxpHolds 129 = .ok (.aload_n 0, 1) := dl_o42 kcX4_maxpHolds (by decide +kernel)
theorem dX4_maxpHolds_130 : decode cX4_maxpHolds 130 = .ok (.getfield 9, 3) := dl_o180 kcX4_maxpHolds (by decide +kernel)
theorem dX4_maxpHolds_133 : decode cX4_maxpHolds 133 = .ok (.getfield 150, 3) := dl_o180 kcX4_maxpHolds (by decide +kernel)
theorem dX4_maxpHolds_136 : decode cX4_maxpHolds 136 = .ok (.iload_n 2, 1) := dl_o28 kcX4_maxpHolds (by decide +kernel)
theorem dX4_maxpHolds_137 : decode cX4_maxpHolds 137 = .ok (.iload_n 3, 1) := dl_o29 kcX4_maxpHolds (by decide +kernel)
theorem dX4_maxpHolds_138 : decode cX4_maxpHolds 138 = .ok (.iastore, 1) := dl_o79 kcX4_maxpHolds (by decide +kernel)
theorem dX4_maxpHolds_139 : decode cX4_maxpHolds 139 = .ok (.iinc 2 1, 3) := by decide +kernel
theorem dX4_maxpHolds_142 : decode cX4_maxpHolds 142 = .ok (.goto (-56), 3) := dl_o167 kcX4_maxpHolds 65480 (by decide +kernel) (by decide +kernel)
theorem dX4_maxpHolds_145 : decode cX4_maxpHolds 145 = .ok (.aload_n 0, 1) := dl_o42 kcX4_maxpHolds (by decide +kernel)
theorem dX4_maxpHolds_146 : decode cX4_maxpHolds 146 = .ok (.getfield 9, 3) := dl_o180 kcX4_maxpHolds (by decide +kernel)
theorem dX4_maxpHolds_149 : decode cX4_maxpHolds 149 = .ok (.getfield 150, 3) := dl_o180 kcX4_maxpHolds (by decide +kernel)
theorem dX4_maxpHolds_152 : decode cX4_maxpHolds 152 = .ok (.iconst 0, 1) := dl_o3 kcX4_maxpHolds (by decide +kernel)
theorem dX4_maxpHolds_153 : decode cX4_maxpHolds 153 = .ok (.iaload, 1) := dl_o46 kcX4_maxpHolds (by decide +kernel)
theorem dX4_maxpHolds_154 : decode cX4_maxpHolds 154 = .ok (.iconst 2, 1) := dl_o5 kcX4_maxpHolds (by decide +kernel)
theorem dX4_maxpHolds_155 : decode cX4_maxpHolds 155 = .ok (.if_icmp .eq 15, 3) := dl_o159 kcX4_maxpHolds 15 (by decide +kernel) (by decide +kernel)
theorem dX4_maxpHolds_158 : decode cX4_maxpHolds 158 = .ok (.aload_n 0, 1) := dl_o42 kcX4_maxpHolds (by decide +kernel)
theorem dX4_maxpHolds_159 : decode cX4_maxpHolds 159 = .ok (.getfield 9, 3) := dl_o180 kcX4_maxpHolds (by decide +kernel)
theorem dX4_maxpHolds_162 : decode cX4_maxpHolds 162 = .ok (.getfield 150, 3) := dl_o180 kcX4_maxpHolds (by decide +kernel)
theorem dX4_maxpHolds_165 : decode cX4_maxpHolds 165 = .ok (.iconst 1, 1) := dl_o4 kcX4_maxpHolds (by decide +kernel)
theorem dX4_maxpHolds_166 : decode cX4_maxpHolds 166 = .ok (.iaload, 1) := dl_o46 kcX4_maxpHolds (by decide +kernel)
theorem dX4_maxpHolds_167 : decode cX4_maxpHolds 167 = .ok (.ifCond .ne 7, 3) := dl_o154 kcX4_maxpHolds 7 (by decide +kernel) (by decide +kernel)
theorem dX4_maxpHolds_170 : decode cX4_maxpHolds 170 = .ok (.iconst 1, 1) := dl_o4 kcX4_maxpHolds (by decide +kernel)
theorem dX4_maxpHolds_171 : decode cX4_maxpHolds 171 = .ok (.goto 4, 3) := dl_o167 kcX4_maxpHolds 4 (by decide +kernel) (by decide +kernel)
theorem dX4_maxpHolds_174 : decode cX4_maxpHolds 174 = .ok (.iconst 0, 1) := dl_o3 kcX4_maxpHolds (by decide +kernel)
theorem dX4_maxpHolds_175 : decode cX4_maxpHolds 175 = .ok (.ireturn, 1) := dl_o172 kcX4_maxpHolds (by decide +kernel)
def B_X4_maxpHolds_170 (N : Nat)   (V : sv_V) : Option (Int32 × sv_V) := some ((1 : Int32), V)
set_option maxRecDepth 20000 in
theorem tB_X4_maxpHolds_170 {g : sx_G} (hG : sx_Go g) {P : Option Value → sv_V → Prop} {r : Int32} {Vr : sv_V} (hP : P (some (.int r)) Vr) {N : Nat}    {V : sv_V} (h : B_X4_maxpHolds_170 N   V = some (r, Vr)) : sv_N g qX4_maxpHolds 2 170 [] [] V P := by
  unfold B_X4_maxpHolds_170 at h
  refine sx_iconst (pc := 170) (v := 1) dX4_maxpHolds_170 (by decide) ?_
  refine sx_goto (pc := 171) (tgt := 175) dX4_maxpHolds_171 (by decide) ?_
  exact sv_zret (pc := 175) dX4_maxpHolds_175 rfl rfl h hP
def B_X4_maxpHolds_86 (N : Nat) (k86 : Int32 → Int32 → sv_V → Option (Int32 × sv_V)) (l1 : Int32) (l2 : Int32) (V : sv_V) : Option (Int32 × sv_V) := if (Int32.ofNat 7) ≤ l2 then (if (V.1 6 (0 : Int32).toNatClampNeg) = (2 : Int32) then (B_X4_maxpHolds_170 N   V) else (if (V.1 6 (1 : Int32).toNatClampNeg) = 0 then (B_X4_maxpHolds_170 N   V) else (some ((0 : Int32), V)))) else (if sx_in l2 7 = true then (F_X2_u2 (l1 + (V.1 1002 l2.toNatClampNeg)) V).bind (fun (x7, V5) => if sx_in l2 7 = true then if x7 < (V5.1 1004 l2.toNatClampNeg) then (some ((0 : Int32), V5)) else (if sx_in l2 7 = true then if x7 ≤ (V5.1 1005 l2.toNatClampNeg) then (if sx_in l2 7 = true then sx_let (sv_I V5 6 l2.toNatClampNeg x7) (fun V13 => sx_let (l2 + 1) (fun x14 => k86 l1 x14 V13)) else none) else (some ((0 : Int32), V5)) else none) else none) else none)
set_option maxRecDepth 20000 in
theorem tB_X4_maxpHolds_86 {g : sx_G} (hG : sx_Go g) {P : Option Value → sv_V → Prop} {r : Int32} {Vr : sv_V} (hP : P (some (.int r)) Vr) {N : Nat} {k86 : Int32 → Int32 → sv_V → Option (Int32 × sv_V)} (hk86 : ∀ (l1 : Int32) (l2 : Int32) (V : sv_V), k86 l1 l2 V = some (r, Vr) → sv_N g qX4_maxpHolds 2 86 [(0, .ref 29), (1, .int l1), (2, .int l2)] [] V P) {l1 : Int32} {l2 : Int32} {V : sv_V} (h : B_X4_maxpHolds_86 N k86 l1 l2 V = some (r, Vr)) : sv_N g qX4_maxpHolds 2 86 [(0, .ref 29), (1, .int l1), (2, .int l2)] [] V P := by
  unfold B_X4_maxpHolds_86 at h
  refine sx_iload_n (pc := 86) dX4_maxpHolds_86 sx_m2 ?_
  refine sv_getS (pc := 87) (j := 1) dX4_maxpHolds_87 rfl n_X4_141 ?_
  refine sv_xlen (pc := 90) hG dX4_maxpHolds_90 lay_1002 ?_
  refine sx_icmp_ge (pc := 91) (tgt := 145) dX4_maxpHolds_91 (by decide) (fun c1 => ?_) (fun c1 => ?_)
  · have h := sx_pos c1 h
    refine sx_aload_n (pc := 145) dX4_maxpHolds_145 sx_m0 ?_
    refine sv_getO (pc := 146) hG dX4_maxpHolds_146 f_4_9 lay_29 rfl cr_29_0 ?_
    refine sv_getA (pc := 149) hG dX4_maxpHolds_149 f_4_150 lay_2 rfl cr_2_10 ?_
    refine sx_iconst (pc := 152) (v := 0) dX4_maxpHolds_152 (by decide) ?_
    refine sv_iald (pc := 153) hG dX4_maxpHolds_153 lay_6 (by decide) ?_
    refine sx_iconst (pc := 154) (v := 2) dX4_maxpHolds_154 (by decide) ?_
    refine sx_icmp_eq (pc := 155) (tgt := 170) dX4_maxpHolds_155 (by decide) (fun c2 => ?_) (fun c2 => ?_)
    · have h := sx_pos c2 h
      refine sx_wk sx_s0 ?_
      exact tB_X4_maxpHolds_170 hG hP  h
    · have h := sx_neg c2 h
      refine sx_aload_n (pc := 158) dX4_maxpHolds_158 sx_m0 ?_
      refine sv_getO (pc := 159) hG dX4_maxpHolds_159 f_4_9 lay_29 rfl cr_29_0 ?_
      refine sv_getA (pc := 162) hG dX4_maxpHolds_162 f_4_150 lay_2 rfl cr_2_10 ?_
      refine sx_iconst (pc := 165) (v := 1) dX4_maxpHolds_165 (by decide) ?_
      refine sv_iald (pc := 166) hG dX4_maxpHolds_166 lay_6 (by decide) ?_
      refine sx_if_ne (pc := 167) (tgt := 174) dX4_maxpHolds_167 (by decide) (fun c3 => ?_) (fun c3 => ?_)
      · have h := sx_neg c3 h
        refine sx_iconst (pc := 174) (v := 0) dX4_maxpHolds_174 (by decide) ?_
        exact sv_zret (pc := 175) dX4_maxpHolds_175 rfl rfl h hP
      · have h := sx_pos c3 h
        refine sx_wk sx_s0 ?_
        exact tB_X4_maxpHolds_170 hG hP  h
  · have h := sx_neg c1 h
    refine sx_aload_n (pc := 94) dX4_maxpHolds_94 sx_m0 ?_
    refine sv_getO (pc := 95) hG dX4_maxpHolds_95 f_4_9 lay_29 rfl cr_29_0 ?_
    refine sx_iload_n (pc := 98) dX4_maxpHolds_98 sx_m1 ?_
    refine sv_getS (pc := 99) (j := 1) dX4_maxpHolds_99 rfl n_X4_141 ?_
    refine sx_iload_n (pc := 102) dX4_maxpHolds_102 sx_m2 ?_
    obtain ⟨g4, h⟩ := sx_grd h
    refine sv_xld (pc := 103) hG dX4_maxpHolds_103 lay_1002 g4 ?_
    refine sx_iadd (pc := 104) dX4_maxpHolds_104 ?_
    obtain ⟨⟨x7, V5⟩, g6, h⟩ := sx_bnd h
    refine sv_cV (pc := 105) (y := qX2_u2) (o := (some (.int x7))) (as := [.int (l1 + (V.1 1002 l2.toNatClampNeg))]) (V1 := V5) hG dX4_maxpHolds_105 l_X4_64 y0X2_u2 yvX2_u2 rfl (Nat.le_of_ble_eq_true rfl) lay_2 kr_2 (by decide) (Nat.le_of_ble_eq_true rfl) rfl rfl rfl (t_X2_u2 hG ⟨rfl, rfl⟩ g6) ?_
    refine sx_istore_n (pc := 108) (lo' := [(3, .int x7), (0, .ref 29), (1, .int l1), (2, .int l2)]) dX4_maxpHolds_108 (by decide) rfl ?_
    refine sx_iload_n (pc := 109) dX4_maxpHolds_109 sx_m0 ?_
    refine sv_getS (pc := 110) (j := 3) dX4_maxpHolds_110 rfl n_X4_144 ?_
    refine sx_iload_n (pc := 113) dX4_maxpHolds_113 sx_m3 ?_
    obtain ⟨g8, h⟩ := sx_grd h
    refine sv_xld (pc := 114) hG dX4_maxpHolds_114 lay_1004 g8 ?_
    refine sx_icmp_lt (pc := 115) (tgt := 127) dX4_maxpHolds_115 (by decide) (fun c9 => ?_) (fun c9 => ?_)
    · have h := sx_pos c9 h
      refine sx_iconst (pc := 127) (v := 0) dX4_maxpHolds_127 (by decide) ?_
      exact sv_zret (pc := 128) dX4_maxpHolds_128 rfl rfl h hP
    · have h := sx_neg c9 h
      refine sx_iload_n (pc := 118) dX4_maxpHolds_118 sx_m0 ?_
      refine sv_getS (pc := 119) (j := 4) dX4_maxpHolds_119 rfl n_X4_147 ?_
      refine sx_iload_n (pc := 122) dX4_maxpHolds_122 sx_m3 ?_
      obtain ⟨g10, h⟩ := sx_grd h
      refine sv_xld (pc := 123) hG dX4_maxpHolds_123 lay_1005 g10 ?_
      refine sx_icmp_le (pc := 124) (tgt := 129) dX4_maxpHolds_124 (by decide) (fun c11 => ?_) (fun c11 => ?_)
      · have h := sx_pos c11 h
        refine sx_aload_n (pc := 129) dX4_maxpHolds_129 sx_m1 ?_
        refine sv_getO (pc := 130) hG dX4_maxpHolds_130 f_4_9 lay_29 rfl cr_29_0 ?_
        refine sv_getA (pc := 133) hG dX4_maxpHolds_133 f_4_150 lay_2 rfl cr_2_10 ?_
        refine sx_iload_n (pc := 136) dX4_maxpHolds_136 sx_m3 ?_
        refine sx_iload_n (pc := 137) dX4_maxpHolds_137 sx_m0 ?_
        obtain ⟨g12, h⟩ := sx_grd h
        obtain ⟨V13, hV13⟩ : ∃ z : sv_V, z = sv_I V5 6 l2.toNatClampNeg x7 := ⟨_, rfl⟩
        have h := sx_letE hV13 h
        refine sv_iast (pc := 138) hG dX4_maxpHolds_138 lay_6 g12 hV13 ?_
        obtain ⟨x14, hx14⟩ : ∃ z : Int32, z = l2 + 1 := ⟨_, rfl⟩
        have h := sx_letE hx14 h
        refine sx_iinc (pc := 139) (v := x14) (lo' := [(2, .int x14), (3, .int x7), (0, .ref 29), (1, .int l1)]) dX4_maxpHolds_139 sx_m3 (by rw [hx14]; rfl) (by decide) rfl ?_
        refine sx_goto (pc := 142) (tgt := 86) dX4_maxpHolds_142 (by decide) ?_
        refine sx_wk (sx_s1 sx_m2 (sx_s1 sx_m3 (sx_s1 sx_m0 sx_s0))) ?_
        exact hk86 _ _ _ h
      · have h := sx_neg c11 h
        refine sx_iconst (pc := 127) (v := 0) dX4_maxpHolds_127 (by decide) ?_
        exact sv_zret (pc := 128) dX4_maxpHolds_128 rfl rfl h hP
theorem tL_X4_maxpHolds_86 {g : sx_G} (hG : sx_Go g) {P : Option Value → sv_V → Prop} {r : Int32} {Vr : sv_V} (hP : P (some (.int r)) Vr) {N : Nat}   : ∀ (n : Nat) (l1 : Int32) (l2 : Int32) (V : sv_V), sx_lp3 (B_X4_maxpHolds_86 N ) n l1 l2 V = some (r, Vr) → sv_N g qX4_maxpHolds 2 86 [(0, .ref 29), (1, .int l1), (2, .int l2)] [] V P :=
  sx_lp3_ind (fun k0 ih _ _ V h => tB_X4_maxpHolds_86 hG hP ih h)
def F_X4_maxpHolds (N : Nat)  (V : sv_V) : Option (Int32 × sv_V) := sx_let (V.1 4 (6 : Int32).toNatClampNeg) (fun x15 => (F_X2_u2 (x15 + (4 : Int32)) V).bind (fun (x18, V16) => sx_let (sv_I V16 2 7 x18) (fun V19 => if (V19.1 5 (6 : Int32).toNatClampNeg) = (32 : Int32) then ((F_X2_u4 x15 V19).bind (fun (x23, V21) => if (lg_cmp x23 (65536 : Int64)) = 0 then (if (V21.1 2 7) < (1 : Int32) then (some ((0 : Int32), V21)) else (if (V21.1 2 7) ≤ (200 : Int32) then (sx_lp3 (B_X4_maxpHolds_86 N ) N x15 (0 : Int32) V21) else (some ((0 : Int32), V21)))) else (some ((0 : Int32), V21)))) else (some ((0 : Int32), V19)))))
set_option maxRecDepth 20000 in
theorem t_X4_maxpHolds {g : sx_G} (hG : sx_Go g) {P : Option Value → sv_V → Prop} {r : Int32} {Vr : sv_V} (hP : P (some (.int r)) Vr) {N : Nat}  {V : sv_V} (h : F_X4_maxpHolds N  V = some (r, Vr)) : sv_N g qX4_maxpHolds 2 0 [(0, .ref 29)] [] V P := by
  unfold F_X4_maxpHolds at h
  refine sx_aload_n (pc := 0) dX4_maxpHolds_0 sx_m0 ?_
  refine sv_getO (pc := 1) hG dX4_maxpHolds_1 f_4_9 lay_29 rfl cr_29_0 ?_
  refine sv_getA (pc := 4) hG dX4_maxpHolds_4 f_4_115 lay_2 rfl cr_2_3 ?_
  refine sx_bipush (pc := 7) (v := 6) dX4_maxpHolds_7 (by decide) ?_
  refine sv_iald (pc := 9) hG dX4_maxpHolds_9 lay_4 (by decide) ?_
  refine sv_tI (fun x15 hx15 => ?_)
  have h := sx_letE hx15 h
  refine sx_istore_n (pc := 10) (lo' := [(1, .int x15), (0, .ref 29)]) dX4_maxpHolds_10 (by decide) rfl ?_
  refine sx_aload_n (pc := 11) dX4_maxpHolds_11 sx_m1 ?_
  refine sv_getO (pc := 12) hG dX4_maxpHolds_12 f_4_9 lay_29 rfl cr_29_0 ?_
  refine sx_aload_n (pc := 15) dX4_maxpHolds_15 sx_m1 ?_
  refine sv_getO (pc := 16) hG dX4_maxpHolds_16 f_4_9 lay_29 rfl cr_29_0 ?_
  refine sx_iload_n (pc := 19) dX4_maxpHolds_19 sx_m0 ?_
  refine sx_iconst (pc := 20) (v := 4) dX4_maxpHolds_20 (by decide) ?_
  refine sx_iadd (pc := 21) dX4_maxpHolds_21 ?_
  obtain ⟨⟨x18, V16⟩, g17, h⟩ := sx_bnd h
  refine sv_cV (pc := 22) (y := qX2_u2) (o := (some (.int x18))) (as := [.int (x15 + (4 : Int32))]) (V1 := V16) hG dX4_maxpHolds_22 l_X4_64 y0X2_u2 yvX2_u2 rfl (Nat.le_of_ble_eq_true rfl) lay_2 kr_2 (by decide) (Nat.le_of_ble_eq_true rfl) rfl rfl rfl (t_X2_u2 hG ⟨rfl, rfl⟩ g17) ?_
  obtain ⟨V19, hV19⟩ : ∃ z : sv_V, z = sv_I V16 2 7 x18 := ⟨_, rfl⟩
  have h := sx_letE hV19 h
  refine sv_putI (pc := 25) hG dX4_maxpHolds_25 f_4_138 lay_2 rfl hV19 ?_
  refine sx_aload_n (pc := 28) dX4_maxpHolds_28 sx_m1 ?_
  refine sv_getO (pc := 29) hG dX4_maxpHolds_29 f_4_9 lay_29 rfl cr_29_0 ?_
  refine sv_getA (pc := 32) hG dX4_maxpHolds_32 f_4_118 lay_2 rfl cr_2_4 ?_
  refine sx_bipush (pc := 35) (v := 6) dX4_maxpHolds_35 (by decide) ?_
  refine sv_iald (pc := 37) hG dX4_maxpHolds_37 lay_5 (by decide) ?_
  refine sx_bipush (pc := 38) (v := 32) dX4_maxpHolds_38 (by decide) ?_
  refine sx_icmp_ne (pc := 40) (tgt := 82) dX4_maxpHolds_40 (by decide) (fun c20 => ?_) (fun c20 => ?_)
  · have h := sx_neg c20 h
    refine sx_iconst (pc := 82) (v := 0) dX4_maxpHolds_82 (by decide) ?_
    exact sv_zret (pc := 83) dX4_maxpHolds_83 rfl rfl h hP
  · have h := sx_pos c20 h
    refine sx_aload_n (pc := 43) dX4_maxpHolds_43 sx_m1 ?_
    refine sv_getO (pc := 44) hG dX4_maxpHolds_44 f_4_9 lay_29 rfl cr_29_0 ?_
    refine sx_iload_n (pc := 47) dX4_maxpHolds_47 sx_m0 ?_
    obtain ⟨⟨x23, V21⟩, g22, h⟩ := sx_bnd h
    refine sv_cV (pc := 48) (y := qX2_u4) (o := (some (.long x23))) (as := [.int x15]) (V1 := V21) hG dX4_maxpHolds_48 l_X4_74 y0X2_u4 yvX2_u4 rfl (Nat.le_of_ble_eq_true rfl) lay_2 kr_2 (by decide) (Nat.le_of_ble_eq_true rfl) rfl rfl rfl (t_X2_u4 hG ⟨rfl, rfl⟩ g22) ?_
    refine sx_ldc2 (pc := 51) dX4_maxpHolds_51 k_X4_78 ?_
    refine sx_lcmp (pc := 54) dX4_maxpHolds_54 ?_
    refine sx_if_ne (pc := 55) (tgt := 82) dX4_maxpHolds_55 (by decide) (fun c24 => ?_) (fun c24 => ?_)
    · have h := sx_neg c24 h
      refine sx_iconst (pc := 82) (v := 0) dX4_maxpHolds_82 (by decide) ?_
      exact sv_zret (pc := 83) dX4_maxpHolds_83 rfl rfl h hP
    · have h := sx_pos c24 h
      refine sx_aload_n (pc := 58) dX4_maxpHolds_58 sx_m1 ?_
      refine sv_getO (pc := 59) hG dX4_maxpHolds_59 f_4_9 lay_29 rfl cr_29_0 ?_
      refine sv_getI (pc := 62) hG dX4_maxpHolds_62 f_4_138 lay_2 rfl ?_
      refine sx_iconst (pc := 65) (v := 1) dX4_maxpHolds_65 (by decide) ?_
      refine sx_icmp_lt (pc := 66) (tgt := 82) dX4_maxpHolds_66 (by decide) (fun c25 => ?_) (fun c25 => ?_)
      · have h := sx_pos c25 h
        refine sx_iconst (pc := 82) (v := 0) dX4_maxpHolds_82 (by decide) ?_
        exact sv_zret (pc := 83) dX4_maxpHolds_83 rfl rfl h hP
      · have h := sx_neg c25 h
        refine sx_aload_n (pc := 69) dX4_maxpHolds_69 sx_m1 ?_
        refine sv_getO (pc := 70) hG dX4_maxpHolds_70 f_4_9 lay_29 rfl cr_29_0 ?_
        refine sv_getI (pc := 73) hG dX4_maxpHolds_73 f_4_138 lay_2 rfl ?_
        refine sx_sipush (pc := 76) (v := 200) dX4_maxpHolds_76 (by decide) ?_
        refine sx_icmp_le (pc := 79) (tgt := 84) dX4_maxpHolds_79 (by decide) (fun c26 => ?_) (fun c26 => ?_)
        · have h := sx_pos c26 h
          refine sx_iconst (pc := 84) (v := 0) dX4_maxpHolds_84 (by decide) ?_
          refine sx_istore_n (pc := 85) (lo' := [(2, .int (0 : Int32)), (1, .int x15), (0, .ref 29)]) dX4_maxpHolds_85 (by decide) rfl ?_
          refine sx_wk (sx_s1 sx_m2 (sx_s1 sx_m1 (sx_s1 sx_m0 sx_s0))) ?_
          exact tL_X4_maxpHolds_86 hG hP  N _ _ _ h
        · have h := sx_neg c26 h
          refine sx_iconst (pc := 82) (v := 0) dX4_maxpHolds_82 (by decide) ?_
          exact sv_zret (pc := 83) dX4_maxpHolds_83 rfl rfl h hP
def ncX4_hheaHolds : Nat := 10891198095867833894747190600354731264306831799529398533635841777951125421040739826371238312362919988186924739537823506896265007277955567118260553503685577912604194540662154114090
theorem kcX4_hheaHolds : CK cX4_hheaHolds ncX4_hheaHolds 74 := ⟨by decide +kernel, by decide +kernel⟩
theorem dX4_hheaHolds_0 : decode cX4_hheaHolds 0 = .ok (.aload_n 0, 1) := dl_o42 kcX4_hheaHolds (by decide +kernel)
theorem dX4_hheaHolds_1 : decode cX4_hheaHolds 1 = .ok (.getfield 9, 3) := dl_o180 kcX4_hheaHolds (by decide +kernel)
theorem dX4_hheaHolds_4 : decode cX4_hheaHolds 4 = .ok (.aload_n 0, 1) := dl_o42 kcX4_hheaHolds (by decide +kernel)
theorem dX4_hheaHolds_5 : decode cX4_hheaHolds 5 = .ok (.getfield 9, 3) := dl_o180 kcX4_hheaHolds (by decide +kernel)
theorem dX4_hheaHolds_8 : decode cX4_hheaHolds 8 = .ok (.aload_n 0, 1) := dl_o42 kcX4_hheaHolds (by decide +kernel)
theorem dX4_hheaHolds_9 : decode cX4_hheaHolds 9 = .ok (.getfield 9, 3) := dl_o180 kcX4_hheaHolds (by decide +kernel)
theorem dX4_hheaHolds_12 : decode cX4_hheaHolds 12 = .ok (.getfield 115, 3) := dl_o180 kcX4_hheaHolds (by decide +kernel)
theorem dX4_hheaHolds_15 : decode cX4_hheaHolds 15 = .ok (.iconst 3, 1) := dl_o6 kcX4_hheaHolds (by decide +kernel)
theorem dX4_hheaHolds_16 : decode cX4_hheaHolds 16 = .ok (.iaload, 1) := dl_o46 kcX4_hheaHolds (by decide +kernel)
theorem dX4_hheaHolds_17 : decode cX4_hheaHolds 17 = .ok (.bipush 34, 2) := dl_o16 kcX4_hheaHolds 34 (by decide +kernel) (by decide +kernel)
theorem dX4_hheaHolds_19 : decode cX4_hheaHolds 19 = .ok (.iadd, 1) := dl_o96 kcX4_hheaHolds (by decide +kernel)
theorem dX4_hheaHolds_20 : decode cX4_hheaHolds 20 = .ok (.invokevirtual 64, 3) := dl_o182 kcX4_hheaHolds (by decide +kernel)
theorem dX4_hheaHolds_23 : decode cX4_hheaHolds 23 = .ok (.putfield 153, 3) := dl_o181 kcX4_hheaHolds (by decide +kernel)
theorem dX4_hheaHolds_26 : decode cX4_hheaHolds 26 = .ok (.aload_n 0, 1) := dl_o42 kcX4_hheaHolds (by decide +kernel)
theorem dX4_hheaHolds_27 : decode cX4_hheaHolds 27 = .ok (.getfield 9, 3) := dl_o180 kcX4_hheaHolds (by decide +kernel)
theorem dX4_hheaHolds_30 : decode cX4_hheaHolds 30 = .ok (.getfield 118, 3) := dl_o180 kcX4_hheaHolds (by decide +kernel)
theorem dX4_hheaHolds_33 : decode cX4_hheaHolds 33 = .ok (.iconst 3, 1) := dl_o6 kcX4_hheaHolds (by decide +kernel)
theorem dX4_hheaHolds_34 : decode cX4_hheaHolds 34 = .ok (.iaload, 1) := dl_o46 kcX4_hheaHolds (by decide +kernel)
theorem dX4_hheaHolds_35 : decode cX4_hheaHolds 35 = .ok (.bipush 36, 2) := dl_o16 kcX4_hheaHolds 36 (by decide +kernel) (by decide +kernel)
theorem dX4_hheaHolds_37 : decode cX4_hheaHolds 37 = .ok (.if_icmp .ne 35, 3) := dl_o160 kcX4_hheaHolds 35 (by decide +kernel) (by decide +kernel)
theorem dX4_hheaHolds_40 : decode cX4_hheaHolds 40 = .ok (.aload_n 0, 1) := dl_o42 kcX4_hheaHolds (by decide +kernel)
theorem dX4_hheaHolds_41 : decode cX4_hheaHolds 41 = .ok (.getfield 9, 3) := dl_o180 kcX4_hheaHolds (by decide +kernel)
theorem dX4_hheaHolds_44 : decode cX4_hheaHolds 44 = .ok (.getfield 153, 3) := dl_o180 kcX4_hheaHolds (by decide +kernel)
theorem dX4_hheaHolds_47 : decode cX4_hheaHolds 47 = .ok (.iconst 1, 1) := dl_o4 kcX4_hheaHolds (by decide +kernel)
theorem dX4_hheaHolds_48 : decode cX4_hheaHolds 48 = .ok (.if_icmp .lt 24, 3) := dl_o161 kcX4_hheaHolds 24 (by decide +kernel) (by decide +kernel)
theorem dX4_hheaHolds_51 : decode cX4_hheaHolds 51 = .ok (.aload_n 0, 1) := dl_o42 kcX4_hheaHolds (by decide +kernel)
theorem dX4_hheaHolds_52 : decode cX4_hheaHolds 52 = .ok (.getfield 9, 3) := dl_o180 kcX4_hheaHolds (by decide +kernel)
theorem dX4_hheaHolds_55 : decode cX4_hheaHolds 55 = .ok (.getfield 153, 3) := dl_o180 kcX4_hheaHolds (by decide +kernel)
theorem dX4_hheaHolds_58 : decode cX4_hheaHolds 58 = .ok (.aload_n 0, 1) := dl_o42 kcX4_hheaHolds (by decide +kernel)
theorem dX4_hheaHolds_59 : decode cX4_hheaHolds 59 = .ok (.getfield 9, 3) := dl_o180 kcX4_hheaHolds (by decide +kernel)
theorem dX4_hheaHolds_62 : decode cX4_hheaHolds 62 = .ok (.getfield 138, 3) := dl_o180 kcX4_hheaHolds (by decide +kernel)
theorem dX4_hheaHolds_65 : decode cX4_hheaHolds 65 = .ok (.if_icmp .gt 7, 3) := dl_o163 kcX4_hheaHolds 7 (by decide +kernel) (by decide +kernel)
theorem dX4_hheaHolds_68 : decode cX4_hheaHolds 68 = .ok (.iconst 1, 1) := dl_o4 kcX4_hheaHolds (by decide +kernel)
theorem dX4_hheaHolds_69 : decode cX4_hheaHolds 69 = .ok (.goto 4, 3) := dl_o167 kcX4_hheaHolds 4 (by decide +kernel) (by decide +kernel)
theorem dX4_hheaHolds_72 : decode cX4_hheaHolds 72 = .ok (.iconst 0, 1) := dl_o3 kcX4_hheaHolds (by decide +kernel)
theorem dX4_hheaHolds_73 : decode cX4_hheaHolds 73 = .ok (.ireturn, 1) := dl_o172 kcX4_hheaHolds (by decide +kernel)
def F_X4_hheaHolds  (V : sv_V) : Option (Int32 × sv_V) := (F_X2_u2 ((V.1 4 (3 : Int32).toNatClampNeg) + (34 : Int32)) V).bind (fun (x3, V1) => sx_let (sv_I V1 2 8 x3) (fun V4 => if (V4.1 5 (3 : Int32).toNatClampNeg) = (36 : Int32) then (if (V4.1 2 8) < (1 : Int32) then (some ((0 : Int32), V4)) else (if (V4.1 2 7) < (V4.1 2 8) then (some ((0 : Int32), V4)) else (some ((1 : Int32), V4)))) else (some ((0 : Int32), V4))))
set_option maxRecDepth 20000 in
theorem t_X4_hheaHolds {g : sx_G} (hG : sx_Go g) {P : Option Value → sv_V → Prop} {r : Int32} {Vr : sv_V} (hP : P (some (.int r)) Vr)  {V : sv_V} (h : F_X4_hheaHolds  V = some (r, Vr)) : sv_N g qX4_hheaHolds 1 0 [(0, .ref 29)] [] V P := by
  unfold F_X4_hheaHolds at h
  refine sx_aload_n (pc := 0) dX4_hheaHolds_0 sx_m0 ?_
  refine sv_getO (pc := 1) hG dX4_hheaHolds_1 f_4_9 lay_29 rfl cr_29_0 ?_
  refine sx_aload_n (pc := 4) dX4_hheaHolds_4 sx_m0 ?_
  refine sv_getO (pc := 5) hG dX4_hheaHolds_5 f_4_9 lay_29 rfl cr_29_0 ?_
  refine sx_aload_n (pc := 8) dX4_hheaHolds_8 sx_m0 ?_
  refine sv_getO (pc := 9) hG dX4_hheaHolds_9 f_4_9 lay_29 rfl cr_29_0 ?_
  refine sv_getA (pc := 12) hG dX4_hheaHolds_12 f_4_115 lay_2 rfl cr_2_3 ?_
  refine sx_iconst (pc := 15) (v := 3) dX4_hheaHolds_15 (by decide) ?_
  refine sv_iald (pc := 16) hG dX4_hheaHolds_16 lay_4 (by decide) ?_
  refine sx_bipush (pc := 17) (v := 34) dX4_hheaHolds_17 (by decide) ?_
  refine sx_iadd (pc := 19) dX4_hheaHolds_19 ?_
  obtain ⟨⟨x3, V1⟩, g2, h⟩ := sx_bnd h
  refine sv_cV (pc := 20) (y := qX2_u2) (o := (some (.int x3))) (as := [.int ((V.1 4 (3 : Int32).toNatClampNeg) + (34 : Int32))]) (V1 := V1) hG dX4_hheaHolds_20 l_X4_64 y0X2_u2 yvX2_u2 rfl (Nat.le_of_ble_eq_true rfl) lay_2 kr_2 (by decide) (Nat.le_of_ble_eq_true rfl) rfl rfl rfl (t_X2_u2 hG ⟨rfl, rfl⟩ g2) ?_
  obtain ⟨V4, hV4⟩ : ∃ z : sv_V, z = sv_I V1 2 8 x3 := ⟨_, rfl⟩
  have h := sx_letE hV4 h
  refine sv_putI (pc := 23) hG dX4_hheaHolds_23 f_4_153 lay_2 rfl hV4 ?_
  refine sx_aload_n (pc := 26) dX4_hheaHolds_26 sx_m0 ?_
  refine sv_getO (pc := 27) hG dX4_hheaHolds_27 f_4_9 lay_29 rfl cr_29_0 ?_
  refine sv_getA (pc := 30) hG dX4_hheaHolds_30 f_4_118 lay_2 rfl cr_2_4 ?_
  refine sx_iconst (pc := 33) (v := 3) dX4_hheaHolds_33 (by decide) ?_
  refine sv_iald (pc := 34) hG dX4_hheaHolds_34 lay_5 (by decide) ?_
  refine sx_bipush (pc := 35) (v := 36) dX4_hheaHolds_35 (by decide) ?_
  refine sx_icmp_ne (pc := 37) (tgt := 72) dX4_hheaHolds_37 (by decide) (fun c5 => ?_) (fun c5 => ?_)
  · have h := sx_neg c5 h
    refine sx_iconst (pc := 72) (v := 0) dX4_hheaHolds_72 (by decide) ?_
    exact sv_zret (pc := 73) dX4_hheaHolds_73 rfl rfl h hP
  · have h := sx_pos c5 h
    refine sx_aload_n (pc := 40) dX4_hheaHolds_40 sx_m0 ?_
    refine sv_getO (pc := 41) hG dX4_hheaHolds_41 f_4_9 lay_29 rfl cr_29_0 ?_
    refine sv_getI (pc := 44) hG dX4_hheaHolds_44 f_4_153 lay_2 rfl ?_
    refine sx_iconst (pc := 47) (v := 1) dX4_hheaHolds_47 (by decide) ?_
    refine sx_icmp_lt (pc := 48) (tgt := 72) dX4_hheaHolds_48 (by decide) (fun c6 => ?_) (fun c6 => ?_)
    · have h := sx_pos c6 h
      refine sx_iconst (pc := 72) (v := 0) dX4_hheaHolds_72 (by decide) ?_
      exact sv_zret (pc := 73) dX4_hheaHolds_73 rfl rfl h hP
    · have h := sx_neg c6 h
      refine sx_aload_n (pc := 51) dX4_hheaHolds_51 sx_m0 ?_
      refine sv_getO (pc := 52) hG dX4_hheaHolds_52 f_4_9 lay_29 rfl cr_29_0 ?_
      refine sv_getI (pc := 55) hG dX4_hheaHolds_55 f_4_153 lay_2 rfl ?_
      refine sx_aload_n (pc := 58) dX4_hheaHolds_58 sx_m0 ?_
      refine sv_getO (pc := 59) hG dX4_hheaHolds_59 f_4_9 lay_29 rfl cr_29_0 ?_
      refine sv_getI (pc := 62) hG dX4_hheaHolds_62 f_4_138 lay_2 rfl ?_
      refine sx_icmp_gt (pc := 65) (tgt := 72) dX4_hheaHolds_65 (by decide) (fun c7 => ?_) (fun c7 => ?_)
      · have h := sx_pos c7 h
        refine sx_iconst (pc := 72) (v := 0) dX4_hheaHolds_72 (by decide) ?_
        exact sv_zret (pc := 73) dX4_hheaHolds_73 rfl rfl h hP
      · have h := sx_neg c7 h
        refine sx_iconst (pc := 68) (v := 1) dX4_hheaHolds_68 (by decide) ?_
        refine sx_goto (pc := 69) (tgt := 73) dX4_hheaHolds_69 (by decide) ?_
        exact sv_zret (pc := 73) dX4_hheaHolds_73 rfl rfl h hP
def ncX4_hmtxHolds : Nat := 1578035115841722717065918099467181730218317489195486238086132005668531436064977817919139438499058673365595178
theorem kcX4_hmtxHolds : CK cX4_hmtxHolds ncX4_hmtxHolds 45 := ⟨by decide +kernel, by decide +kernel⟩
theorem dX4_hmtxHolds_0 : decode cX4_hmtxHolds 0 = .ok (.aload_n 0, 1) := dl_o42 kcX4_hmtxHolds (by decide +kernel)
theorem dX4_hmtxHolds_1 : decode cX4_hmtxHolds 1 = .ok (.getfield 9, 3) := dl_o180 kcX4_hmtxHolds (by decide +kernel)
theorem dX4_hmtxHolds_4 : decode cX4_hmtxHolds 4 = .ok (.getfield 118, 3) := dl_o180 kcX4_hmtxHolds (by decide +kernel)
theorem dX4_hmtxHolds_7 : decode cX4_hmtxHolds 7 = .ok (.iconst 4, 1) := dl_o7 kcX4_hmtxHolds (by decide +kernel)
theorem dX4_hmtxHolds_8 : decode cX4_hmtxHolds 8 = .ok (.iaload, 1) := dl_o46 kcX4_hmtxHolds (by decide +kernel)
theorem dX4_hmtxHolds_9 : decode cX4_hmtxHolds 9 = .ok (.iconst 4, 1) := dl_o7 kcX4_hmtxHolds (by decide +kernel)
theorem dX4_hmtxHolds_10 : decode cX4_hmtxHolds 10 = .ok (.aload_n 0, 1) := dl_o42 kcX4_hmtxHolds (by decide +kernel)
theorem dX4_hmtxHolds_11 : decode cX4_hmtxHolds 11 = .ok (.getfield 9, 3) := dl_o180 kcX4_hmtxHolds (by decide +kernel)
theorem dX4_hmtxHolds_14 : decode cX4_hmtxHolds 14 = .ok (.getfield 153, 3) := dl_o180 kcX4_hmtxHolds (by decide +kernel)
theorem dX4_hmtxHolds_17 : decode cX4_hmtxHolds 17 = .ok (.imul, 1) := dl_o104 kcX4_hmtxHolds (by decide +kernel)
theorem dX4_hmtxHolds_18 : decode cX4_hmtxHolds 18 = .ok (.iconst 2, 1) := dl_o5 kcX4_hmtxHolds (by decide +kernel)
theorem dX4_hmtxHolds_19 : decode cX4_hmtxHolds 19 = .ok (.aload_n 0, 1) := dl_o42 kcX4_hmtxHolds (by decide +kernel)
theorem dX4_hmtxHolds_20 : decode cX4_hmtxHolds 20 = .ok (.getfield 9, 3) := dl_o180 kcX4_hmtxHolds (by decide +kernel)
theorem dX4_hmtxHolds_23 : decode cX4_hmtxHolds 23 = .ok (.getfield 138, 3) := dl_o180 kcX4_hmtxHolds (by decide +kernel)
theorem dX4_hmtxHolds_26 : decode cX4_hmtxHolds 26 = .ok (.aload_n 0, 1) := dl_o42 kcX4_hmtxHolds (by decide +kernel)
theorem dX4_hmtxHolds_27 : decode cX4_hmtxHolds 27 = .ok (.getfield 9, 3) := dl_o180 kcX4_hmtxHolds (by decide +kernel)
theorem dX4_hmtxHolds_30 : decode cX4_hmtxHolds 30 = .ok (.getfield 153, 3) := dl_o180 kcX4_hmtxHolds (by decide +kernel)
theorem dX4_hmtxHolds_33 : decode cX4_hmtxHolds 33 = .ok (.isub, 1) := dl_o100 kcX4_hmtxHolds (by decide +kernel)
theorem dX4_hmtxHolds_34 : decode cX4_hmtxHolds 34 = .ok (.imul, 1) := dl_o104 kcX4_hmtxHolds (by decide +kernel)
theorem dX4_hmtxHolds_35 : decode cX4_hmtxHolds 35 = .ok (.iadd, 1) := dl_o96 kcX4_hmtxHolds (by decide +kernel)
theorem dX4_hmtxHolds_36 : decode cX4_hmtxHolds 36 = .ok (.if_icmp .lt 7, 3) := dl_o161 kcX4_hmtxHolds 7 (by decide +kernel) (by decide +kernel)
theorem dX4_hmtxHolds_39 : decode cX4_hmtxHolds 39 = .ok (.iconst 1, 1) := dl_o4 kcX4_hmtxHolds (by decide +kernel)
theorem dX4_hmtxHolds_40 : decode cX4_hmtxHolds 40 = .ok (.goto 4, 3) := dl_o167 kcX4_hmtxHolds 4 (by decide +kernel) (by decide +kernel)
theorem dX4_hmtxHolds_43 : decode cX4_hmtxHolds 43 = .ok (.iconst 0, 1) := dl_o3 kcX4_hmtxHolds (by decide +kernel)
theorem dX4_hmtxHolds_44 : decode cX4_hmtxHolds 44 = .ok (.ireturn, 1) := dl_o172 kcX4_hmtxHolds (by decide +kernel)
def F_X4_hmtxHolds  (V : sv_V) : Option (Int32 × sv_V) := if (V.1 5 (4 : Int32).toNatClampNeg) < (((4 : Int32) * (V.1 2 8)) + ((2 : Int32) * ((V.1 2 7) - (V.1 2 8)))) then (some ((0 : Int32), V)) else (some ((1 : Int32), V))
set_option maxRecDepth 20000 in
theorem t_X4_hmtxHolds {g : sx_G} (hG : sx_Go g) {P : Option Value → sv_V → Prop} {r : Int32} {Vr : sv_V} (hP : P (some (.int r)) Vr)  {V : sv_V} (h : F_X4_hmtxHolds  V = some (r, Vr)) : sv_N g qX4_hmtxHolds 0 0 [(0, .ref 29)] [] V P := by
  unfold F_X4_hmtxHolds at h
  refine sx_aload_n (pc := 0) dX4_hmtxHolds_0 sx_m0 ?_
  refine sv_getO (pc := 1) hG dX4_hmtxHolds_1 f_4_9 lay_29 rfl cr_29_0 ?_
  refine sv_getA (pc := 4) hG dX4_hmtxHolds_4 f_4_118 lay_2 rfl cr_2_4 ?_
  refine sx_iconst (pc := 7) (v := 4) dX4_hmtxHolds_7 (by decide) ?_
  refine sv_iald (pc := 8) hG dX4_hmtxHolds_8 lay_5 (by decide) ?_
  refine sx_iconst (pc := 9) (v := 4) dX4_hmtxHolds_9 (by decide) ?_
  refine sx_aload_n (pc := 10) dX4_hmtxHolds_10 sx_m0 ?_
  refine sv_getO (pc := 11) hG dX4_hmtxHolds_11 f_4_9 lay_29 rfl cr_29_0 ?_
  refine sv_getI (pc := 14) hG dX4_hmtxHolds_14 f_4_153 lay_2 rfl ?_
  refine sx_imul (pc := 17) dX4_hmtxHolds_17 ?_
  refine sx_iconst (pc := 18) (v := 2) dX4_hmtxHolds_18 (by decide) ?_
  refine sx_aload_n (pc := 19) dX4_hmtxHolds_19 sx_m0 ?_
  refine sv_getO (pc := 20) hG dX4_hmtxHolds_20 f_4_9 lay_29 rfl cr_29_0 ?_
  refine sv_getI (pc := 23) hG dX4_hmtxHolds_23 f_4_138 lay_2 rfl ?_
  refine sx_aload_n (pc := 26) dX4_hmtxHolds_26 sx_m0 ?_
  refine sv_getO (pc := 27) hG dX4_hmtxHolds_27 f_4_9 lay_29 rfl cr_29_0 ?_
  refine sv_getI (pc := 30) hG dX4_hmtxHolds_30 f_4_153 lay_2 rfl ?_
  refine sx_isub (pc := 33) dX4_hmtxHolds_33 ?_
  refine sx_imul (pc := 34) dX4_hmtxHolds_34 ?_
  refine sx_iadd (pc := 35) dX4_hmtxHolds_35 ?_
  refine sx_icmp_lt (pc := 36) (tgt := 43) dX4_hmtxHolds_36 (by decide) (fun c1 => ?_) (fun c1 => ?_)
  · have h := sx_pos c1 h
    refine sx_iconst (pc := 43) (v := 0) dX4_hmtxHolds_43 (by decide) ?_
    exact sv_zret (pc := 44) dX4_hmtxHolds_44 rfl rfl h hP
  · have h := sx_neg c1 h
    refine sx_iconst (pc := 39) (v := 1) dX4_hmtxHolds_39 (by decide) ?_
    refine sx_goto (pc := 40) (tgt := 44) dX4_hmtxHolds_40 (by decide) ?_
    exact sv_zret (pc := 44) dX4_hmtxHolds_44 rfl rfl h hP
def ncX4_placeInGlyf : Nat := 29325766727089896958810922293915586052385036232231316591888141879909846729192836005057379574828481164326788543412470898636141610
theorem kcX4_placeInGlyf : CK cX4_placeInGlyf ncX4_placeInGlyf 53 := ⟨by decide +kernel, by decide +kernel⟩
theorem dX4_placeInGlyf_0 : decode cX4_placeInGlyf 0 = .ok (.aload_n 0, 1) := dl_o42 kcX4_placeInGlyf (by decide +kernel)
theorem dX4_placeInGlyf_1 : decode cX4_placeInGlyf 1 = .ok (.getfield 9, 3) := dl_o180 kcX4_placeInGlyf (by decide +kernel)
theorem dX4_placeInGlyf_4 : decode cX4_placeInGlyf 4 = .ok (.getfield 115, 3) := dl_o180 kcX4_placeInGlyf (by decide +kernel)
theorem dX4_placeInGlyf_7 : decode cX4_placeInGlyf 7 = .ok (.iconst 5, 1) := dl_o8 kcX4_placeInGlyf (by decide +kernel)
theorem dX4_placeInGlyf_8 : decode cX4_placeInGlyf 8 = .ok (.iaload, 1) := dl_o46 kcX4_placeInGlyf (by decide +kernel)
theorem dX4_placeInGlyf_9 : decode cX4_placeInGlyf 9 = .ok (.istore_n 2, 1) := dl_o61 kcX4_placeInGlyf (by decide +kernel)
theorem dX4_placeInGlyf_10 : decode cX4_placeInGlyf 10 = .ok (.aload_n 0, 1) := dl_o42 kcX4_placeInGlyf (by decide +kernel)
theorem dX4_placeInGlyf_11 : decode cX4_placeInGlyf 11 = .ok (.getfield 9, 3) := dl_o180 kcX4_placeInGlyf (by decide +kernel)
theorem dX4_placeInGlyf_14 : decode cX4_placeInGlyf 14 = .ok (.getfield 131, 3) := dl_o180 kcX4_placeInGlyf (by decide +kernel)
theorem dX4_placeInGlyf_17 : decode cX4_placeInGlyf 17 = .ok (.ifCond .ne 23, 3) := dl_o154 kcX4_placeInGlyf 23 (by decide +kernel) (by decide +kernel)
theorem dX4_placeInGlyf_20 : decode cX4_placeInGlyf 20 = .ok (.ldc2_w 156, 3) := dl_o20 kcX4_placeInGlyf (by decide +kernel)
theorem dX4_placeInGlyf_23 : decode cX4_placeInGlyf 23 = .ok (.aload_n 0, 1) := dl_o42 kcX4_placeInGlyf (by decide +kernel)
theorem dX4_placeInGlyf_24 : decode cX4_placeInGlyf 24 = .ok (.getfield 9, 3) := dl_o180 kcX4_placeInGlyf (by decide +kernel)
theorem dX4_placeInGlyf_27 : decode cX4_placeInGlyf 27 = .ok (.iload_n 2, 1) := dl_o28 kcX4_placeInGlyf (by decide +kernel)
theorem dX4_placeInGlyf_28 : decode cX4_placeInGlyf 28 = .ok (.iconst 2, 1) := dl_o5 kcX4_placeInGlyf (by decide +kernel)
theorem dX4_placeInGlyf_29 : decode cX4_placeInGlyf 29 = .ok (.iload_n 1, 1) := dl_o27 kcX4_placeInGlyf (by decide +kernel)
theorem dX4_placeInGlyf_30 : decode cX4_placeInGlyf 30 = .ok (.imul, 1) := dl_o104 kcX4_placeInGlyf (by decide +kernel)
theorem dX4_placeInGlyf_31 : decode cX4_placeInGlyf 31 = .ok (.iadd, 1) := dl_o96 kcX4_placeInGlyf (by decide +kernel)
theorem dX4_placeInGlyf_32 : decode cX4_placeInGlyf 32 = .ok (.invokevirtual 64, 3) := dl_o182 kcX4_placeInGlyf (by decide +kernel)
theorem dX4_placeInGlyf_35 : decode cX4_placeInGlyf 35 = .ok (.i2l, 1) := dl_o133 kcX4_placeInGlyf (by decide +kernel)
theorem dX4_placeInGlyf_36 : decode cX4_placeInGlyf 36 = .ok (.lmul, 1) := dl_o105 kcX4_placeInGlyf (by decide +kernel)
theorem dX4_placeInGlyf_37 : decode cX4_placeInGlyf 37 = .ok (.goto 15, 3) := dl_o167 kcX4_placeInGlyf 15 (by decide +kernel) (by decide +kernel)
theorem dX4_placeInGlyf_40 : decode cX4_placeInGlyf 40 = .ok (.aload_n 0, 1) := dl_o42 kcX4_placeInGlyf (by decide +kernel)
theorem dX4_placeInGlyf_41 : decode cX4_placeInGlyf 41 = .ok (.getfield 9, 3) := dl_o180 kcX4_placeInGlyf (by decide +kernel)
theorem dX4_placeInGlyf_44 : decode cX4_placeInGlyf 44 = .ok (.iload_n 2, 1) := dl_o28 kcX4_placeInGlyf (by decide +kernel)
theorem dX4_placeInGlyf_45 : decode cX4_placeInGlyf 45 = .ok (.iconst 4, 1) := dl_o7 kcX4_placeInGlyf (by decide +kernel)
theorem dX4_placeInGlyf_46 : decode cX4_placeInGlyf 46 = .ok (.iload_n 1, 1) := dl_o27 kcX4_placeInGlyf (by decide +kernel)
theorem dX4_placeInGlyf_47 : decode cX4_placeInGlyf 47 = .ok (.imul, 1) := dl_o104 kcX4_placeInGlyf (by decide +kernel)
theorem dX4_placeInGlyf_48 : decode cX4_placeInGlyf 48 = .ok (.iadd, 1) := dl_o96 kcX4_placeInGlyf (by decide +kernel)
theorem dX4_placeInGlyf_49 : decode cX4_placeInGlyf 49 = .ok (.invokevirtual 74, 3) := dl_o182 kcX4_placeInGlyf (by decide +kernel)
theorem dX4_placeInGlyf_52 : decode cX4_placeInGlyf 52 = .ok (.lreturn, 1) := dl_o173 kcX4_placeInGlyf (by decide +kernel)
def F_X4_placeInGlyf (l1 : Int32) (V : sv_V) : Option (Int64 × sv_V) := sx_let (V.1 4 (5 : Int32).toNatClampNeg) (fun x1 => if (V.1 2 9) = 0 then ((F_X2_u2 (x1 + ((2 : Int32) * l1)) V).bind (fun (x8, V6) => some ((2 : Int64) * x8.toInt64, V6))) else ((F_X2_u4 (x1 + ((4 : Int32) * l1)) V).bind (fun (x5, V3) => some (x5, V3))))
set_option maxRecDepth 20000 in
theorem t_X4_placeInGlyf {g : sx_G} (hG : sx_Go g) {P : Option Value → sv_V → Prop} {r : Int64} {Vr : sv_V} (hP : P (some (.long r)) Vr) {l1 : Int32} {V : sv_V} (h : F_X4_placeInGlyf l1 V = some (r, Vr)) : sv_N g qX4_placeInGlyf 2 0 [(0, .ref 29), (1, .int l1)] [] V P := by
  unfold F_X4_placeInGlyf at h
  refine sx_aload_n (pc := 0) dX4_placeInGlyf_0 sx_m0 ?_
  refine sv_getO (pc := 1) hG dX4_placeInGlyf_1 f_4_9 lay_29 rfl cr_29_0 ?_
  refine sv_getA (pc := 4) hG dX4_placeInGlyf_4 f_4_115 lay_2 rfl cr_2_3 ?_
  refine sx_iconst (pc := 7) (v := 5) dX4_placeInGlyf_7 (by decide) ?_
  refine sv_iald (pc := 8) hG dX4_placeInGlyf_8 lay_4 (by decide) ?_
  refine sv_tI (fun x1 hx1 => ?_)
  have h := sx_letE hx1 h
  refine sx_istore_n (pc := 9) (lo' := [(2, .int x1), (0, .ref 29), (1, .int l1)]) dX4_placeInGlyf_9 (by decide) rfl ?_
  refine sx_aload_n (pc := 10) dX4_placeInGlyf_10 sx_m1 ?_
  refine sv_getO (pc := 11) hG dX4_placeInGlyf_11 f_4_9 lay_29 rfl cr_29_0 ?_
  refine sv_getI (pc := 14) hG dX4_placeInGlyf_14 f_4_131 lay_2 rfl ?_
  refine sx_if_ne (pc := 17) (tgt := 40) dX4_placeInGlyf_17 (by decide) (fun c2 => ?_) (fun c2 => ?_)
  · have h := sx_neg c2 h
    refine sx_aload_n (pc := 40) dX4_placeInGlyf_40 sx_m1 ?_
    refine sv_getO (pc := 41) hG dX4_placeInGlyf_41 f_4_9 lay_29 rfl cr_29_0 ?_
    refine sx_iload_n (pc := 44) dX4_placeInGlyf_44 sx_m0 ?_
    refine sx_iconst (pc := 45) (v := 4) dX4_placeInGlyf_45 (by decide) ?_
    refine sx_iload_n (pc := 46) dX4_placeInGlyf_46 sx_m2 ?_
    refine sx_imul (pc := 47) dX4_placeInGlyf_47 ?_
    refine sx_iadd (pc := 48) dX4_placeInGlyf_48 ?_
    obtain ⟨⟨x5, V3⟩, g4, h⟩ := sx_bnd h
    refine sv_cV (pc := 49) (y := qX2_u4) (o := (some (.long x5))) (as := [.int (x1 + ((4 : Int32) * l1))]) (V1 := V3) hG dX4_placeInGlyf_49 l_X4_74 y0X2_u4 yvX2_u4 rfl (Nat.le_of_ble_eq_true rfl) lay_2 kr_2 (by decide) (Nat.le_of_ble_eq_true rfl) rfl rfl rfl (t_X2_u4 hG ⟨rfl, rfl⟩ g4) ?_
    exact sv_lret (pc := 52) dX4_placeInGlyf_52 rfl h hP
  · have h := sx_pos c2 h
    refine sx_ldc2 (pc := 20) dX4_placeInGlyf_20 k_X4_156 ?_
    refine sx_aload_n (pc := 23) dX4_placeInGlyf_23 sx_m1 ?_
    refine sv_getO (pc := 24) hG dX4_placeInGlyf_24 f_4_9 lay_29 rfl cr_29_0 ?_
    refine sx_iload_n (pc := 27) dX4_placeInGlyf_27 sx_m0 ?_
    refine sx_iconst (pc := 28) (v := 2) dX4_placeInGlyf_28 (by decide) ?_
    refine sx_iload_n (pc := 29) dX4_placeInGlyf_29 sx_m2 ?_
    refine sx_imul (pc := 30) dX4_placeInGlyf_30 ?_
    refine sx_iadd (pc := 31) dX4_placeInGlyf_31 ?_
    obtain ⟨⟨x8, V6⟩, g7, h⟩ := sx_bnd h
    refine sv_cV (pc := 32) (y := qX2_u2) (o := (some (.int x8))) (as := [.int (x1 + ((2 : Int32) * l1))]) (V1 := V6) hG dX4_placeInGlyf_32 l_X4_64 y0X2_u2 yvX2_u2 rfl (Nat.le_of_ble_eq_true rfl) lay_2 kr_2 (by decide) (Nat.le_of_ble_eq_true rfl) rfl rfl rfl (t_X2_u2 hG ⟨rfl, rfl⟩ g7) ?_
    refine sx_i2l (pc := 35) dX4_placeInGlyf_35 ?_
    refine sx_lmul (pc := 36) dX4_placeInGlyf_36 ?_
    refine sx_goto (pc := 37) (tgt := 52) dX4_placeInGlyf_37 (by decide) ?_
    exact sv_lret (pc := 52) dX4_placeInGlyf_52 rfl h hP
def ncX4_locaHolds : Nat := 2450018475131237444263229639758166837914119593090813935178674012121052073338703330567037055685766395444022646184753782791045841774603372096407192372178501281528036718630544554851791114715377728834101859857986129597984309048745366739557515494724657918152959869706641754727914004281009417853962097006024543983813013116860085261376237405778986
theorem kcX4_locaHolds : CK cX4_locaHolds ncX4_locaHolds 141 := ⟨by decide +kernel, by decide +kernel⟩
theorem dX4_locaHolds_0 : decode cX4_locaHolds 0 = .ok (.aload_n 0, 1) := dl_o42 kcX4_locaHolds (by decide +kernel)
theorem dX4_locaHolds_1 : decode cX4_locaHolds 1 = .ok (.getfield 9, 3) := dl_o180 kcX4_locaHolds (by decide +kernel)
theorem dX4_locaHolds_4 : decode cX4_locaHolds 4 = .ok (.getfield 131, 3) := dl_o180 kcX4_locaHolds (by decide +kernel)
theorem dX4_locaHolds_7 : decode cX4_locaHolds 7 = .ok (.ifCond .ne 7, 3) := dl_o154 kcX4_locaHolds 7 (by decide +kernel) (by decide +kernel)
theorem dX4_locaHolds_10 : decode cX4_locaHolds 10 = .ok (.iconst 2, 1) := dl_o5 kcX4_locaHolds (by decide +kernel)
theorem dX4_locaHolds_11 : decode cX4_locaHolds 11 = .ok (.goto 4, 3) := dl_o167 kcX4_locaHolds 4 (by decide +kernel) (by decide +kernel)
theorem dX4_locaHolds_14 : decode cX4_locaHolds 14 = .ok (.iconst 4, 1) := dl_o7 kcX4_locaHolds (by decide +kernel)
theorem dX4_locaHolds_15 : decode cX4_locaHolds 15 = .ok (.istore_n 1, 1) := dl_o60 kcX4_locaHolds (by decide +kernel)
theorem dX4_locaHolds_16 : decode cX4_locaHolds 16 = .ok (.aload_n 0, 1) := dl_o42 kcX4_locaHolds (by decide +kernel)
theorem dX4_locaHolds_17 : decode cX4_locaHolds 17 = .ok (.getfield 9, 3) := dl_o180 kcX4_locaHolds (by decide +kernel)
theorem dX4_locaHolds_20 : decode cX4_locaHolds 20 = .ok (.getfield 118, 3) := dl_o180 kcX4_locaHolds (by decide +kernel)
theorem dX4_locaHolds_23 : decode cX4_locaHolds 23 = .ok (.iconst 5, 1) := dl_o8 kcX4_locaHolds (by decide +kernel)
theorem dX4_locaHolds_24 : decode cX4_locaHolds 24 = .ok (.iaload, 1) := dl_o46 kcX4_locaHolds (by decide +kernel)
theorem dX4_locaHolds_25 : decode cX4_locaHolds 25 = .ok (.iload_n 1, 1) := dl_o27 kcX4_locaHolds (by decide +kernel)
theorem dX4_locaHolds_26 : decode cX4_locaHolds 26 = .ok (.aload_n 0, 1) := dl_o42 kcX4_locaHolds (by decide +kernel)
theorem dX4_locaHolds_27 : decode cX4_locaHolds 27 = .ok (.getfield 9, 3) := dl_o180 kcX4_locaHolds (by decide +kernel)
theorem dX4_locaHolds_30 : decode cX4_locaHolds 30 = .ok (.getfield 138, 3) := dl_o180 kcX4_locaHolds (by decide +kernel)
theorem dX4_locaHolds_33 : decode cX4_locaHolds 33 = .ok (.iconst 1, 1) := dl_o4 kcX4_locaHolds (by decide +kernel)
theorem dX4_locaHolds_34 : decode cX4_locaHolds 34 = .ok (.iadd, 1) := dl_o96 kcX4_locaHolds (by decide +kernel)
theorem dX4_locaHolds_35 : decode cX4_locaHolds 35 = .ok (.imul, 1) := dl_o104 kcX4_locaHolds (by decide +kernel)
theorem dX4_locaHolds_36 : decode cX4_locaHolds 36 = .ok (.if_icmp .ge 5, 3) := dl_o162 kcX4_locaHolds 5 (by decide +kernel) (by decide +kernel)
theorem dX4_locaHolds_39 : decode cX4_locaHolds 39 = .ok (.iconst 0, 1) := dl_o3 kcX4_locaHolds (by decide +kernel)
theorem dX4_locaHolds_40 : decode cX4_locaHolds 40 = .ok (.ireturn, 1) := dl_o172 kcX4_locaHolds (by decide +kernel)
theorem dX4_locaHolds_41 : decode cX4_locaHolds 41 = .ok (.iconst 0, 1) := dl_o3 kcX4_locaHolds (by decide +kernel)
theorem dX4_locaHolds_42 : decode cX4_locaHolds 42 = .ok (.istore_n 2, 1) := dl_o61 kcX4_locaHolds (by decide +kernel)
theorem dX4_locaHolds_43 : decode cX4_locaHolds 43 = .ok (.iload_n 2, 1) := dl_o28 kcX4_locaHolds (by decide +kernel)
theorem dX4_locaHolds_44 : decode cX4_locaHolds 44 = .ok (.aload_n 0, 1) := dl_o42 kcX4_locaHolds (by decide +kernel)
theorem dX4_locaHolds_45 : decode cX4_locaHolds 45 = .ok (.getfield 9, 3) := dl_o180 kcX4_locaHolds (by decide +kernel)
theorem dX4_locaHolds_48 : decode cX4_locaHolds 48 = .ok (.getfield 138, 3) := dl_o180 kcX4_locaHolds (by decide +kernel)
theorem dX4_locaHolds_51 : decode cX4_locaHolds 51 = .ok (.if_icmp .ge 88, 3) := dl_o162 kcX4_locaHolds 88 (by decide +kernel) (by decide +kernel)
theorem dX4_locaHolds_54 : decode cX4_locaHolds 54 = .ok (.aload_n 0, 1) := dl_o42 kcX4_locaHolds (by decide +kernel)
theorem dX4_locaHolds_55 : decode cX4_locaHolds 55 = .ok (.iload_n 2, 1) := dl_o28 kcX4_locaHolds (by decide +kernel)
theorem dX4_locaHolds_56 : decode cX4_locaHolds 56 = .ok (.invokevirtual 158, 3) := dl_o182 kcX4_locaHolds (by decide +kernel)
theorem dX4_locaHolds_59 : decode cX4_locaHolds 59 = .ok (.lstore_n 3, 1) := dl_o66 kcX4_locaHolds (by decide +kernel)
theorem dX4_locaHolds_60 : decode cX4_locaHolds 60 = .ok (.aload_n 0, 1) := dl_o42 kcX4_locaHolds (by decide +kernel)
theorem dX4_locaHolds_61 : decode cX4_locaHolds 61 = .ok (.iload_n 2, 1) := dl_o28 kcX4_locaHolds (by decide +kernel)
theorem dX4_locaHolds_62 : decode cX4_locaHolds 62 = .ok (.iconst 1, 1) := dl_o4 kcX4_locaHolds (by decide +kernel)
theorem dX4_locaHolds_63 : decode cX4_locaHolds 63 = .ok (.iadd, 1) := dl_o96 kcX4_locaHolds (by decide +kernel)
theorem dX4_locaHolds_64 : decode cX4_locaHolds 64 = .ok (.invokevirtual 158, 3) := dl_o182 kcX4_locaHolds (by decide +kernel)
theorem dX4_locaHolds_67 : decode cX4_locaHolds 67 = .ok (.lstore 5, 2) := dl_o55 kcX4_locaHolds (by decide +kernel)
theorem dX4_locaHolds_69 : decode cX4_locaHolds 69 = .ok (.lload_n 3, 1) := dl_o33 kcX4_locaHolds (by decide +kernel)
theorem dX4_locaHolds_70 : decode cX4_locaHolds 70 = .ok (.lload 5, 2) := dl_o22 kcX4_locaHolds (by decide +kernel)
theorem dX4_locaHolds_72 : decode cX4_locaHolds 72 = .ok (.lcmp, 1) := dl_o148 kcX4_locaHolds (by decide +kernel)
theorem dX4_locaHolds_73 : decode cX4_locaHolds 73 = .ok (.ifCond .gt 19, 3) := dl_o157 kcX4_locaHolds 19 (by decide +kernel) (by decide +kernel)
theorem dX4_locaHolds_76 : decode cX4_locaHolds 76 = .ok (.lload 5, 2) := dl_o22 kcX4_locaHolds (by decide +kernel)
theorem dX4_locaHolds_78 : decode cX4_locaHolds 78 = .ok (.aload_n 0, 1) := dl_o42 kcX4_locaHolds (by decide +kernel)
theorem dX4_locaHolds_79 : decode cX4_locaHolds 79 = .ok (.getfield 9, 3) := dl_o180 kcX4_locaHolds (by decide +kernel)
theorem dX4_locaHolds_82 : decode cX4_locaHolds 82 = .ok (.getfield 118, 3) := dl_o180 kcX4_locaHolds (by decide +kernel)
theorem dX4_locaHolds_85 : decode cX4_locaHolds 85 = .ok (.iconst 1, 1) := dl_o4 kcX4_locaHolds (by decide +kernel)
theorem dX4_locaHolds_86 : decode cX4_locaHolds 86 = .ok (.iaload, 1) := dl_o46 kcX4_locaHolds (by decide +kernel)
theorem dX4_locaHolds_87 : decode cX4_locaHolds 87 = .ok (.i2l, 1) := dl_o133 kcX4_locaHolds (by decide +kernel)
theorem dX4_locaHolds_88 : decode cX4_locaHolds 88 = .ok (.lcmp, 1) := dl_o148 kcX4_locaHolds (by decide +kernel)
theorem dX4_locaHolds_89 : decode cX4_locaHolds 89 = .ok (.ifCond .le 5, 3) := dl_o158 kcX4_locaHolds 5 (by decide +kernel) (by decide +kernel)
theorem dX4_locaHolds_92 : decode cX4_locaHolds 92 = .ok (.iconst 0, 1) := dl_o3 kcX4_locaHolds (by decide +kernel)
theorem dX4_locaHolds_93 : decode cX4_locaHolds 93 = .ok (.ireturn, 1) := dl_o172 kcX4_locaHolds (by decide +kernel)
theorem dX4_locaHolds_94 : decode cX4_locaHolds 94 = .ok (.aload_n 0, 1) := dl_o42 kcX4_locaHolds (by decide +kernel)
theorem dX4_locaHolds_95 : decode cX4_locaHolds 95 = .ok (.getfield 9, 3) := dl_o180 kcX4_locaHolds (by decide +kernel)
theorem dX4_locaHolds_98 : decode cX4_locaHolds 98 = .ok (.getfield 161, 3) := dl_o180 kcX4_locaHolds (by decide +kernel)
theorem dX4_locaHolds_101 : decode cX4_locaHolds 101 = .ok (.iconst 0, 1) := dl_o3 kcX4_locaHolds (by decide +kernel)
theorem dX4_locaHolds_102 : decode cX4_locaHolds 102 = .ok (.aaload, 1) := dl_o50 kcX4_locaHolds (by decide +kernel)
theorem dX4_locaHolds_103 : decode cX4_locaHolds 103 = .ok (.iload_n 2, 1) := dl_o28 kcX4_locaHolds (by decide +kernel)
theorem dX4_locaHolds_104 : decode cX4_locaHolds 104 = .ok (.aload_n 0, 1) := dl_o42 kcX4_locaHolds (by decide +kernel)
theorem dX4_locaHolds_105 : decode cX4_locaHolds 105 = .ok (.getfield 9, 3) := dl_o180 kcX4_locaHolds (by decide +kernel)
theorem dX4_locaHolds_108 : decode cX4_locaHolds 108 = .ok (.getfield 115, 3) := dl_o180 kcX4_locaHolds (by decide +kernel)
theorem dX4_locaHolds_111 : decode cX4_locaHolds 111 = .ok (.iconst 1, 1) := dl_o4 kcX4_locaHolds (by decide +kernel)
theorem dX4_locaHolds_112 : decode cX4_locaHolds 112 = .ok (.iaload, 1) := dl_o46 kcX4_locaHolds (by decide +kernel)
theorem dX4_locaHolds_113 : decode cX4_locaHolds 113 = .ok (.lload_n 3, 1) := dl_o33 kcX4_locaHolds (by decide +kernel)
theorem dX4_locaHolds_114 : decode cX4_locaHolds 114 = .ok (.l2i, 1) := dl_o136 kcX4_locaHolds (by decide +kernel)
theorem dX4_locaHolds_115 : decode cX4_locaHolds 115 = .ok (.iadd, 1) := dl_o96 kcX4_locaHolds (by decide +kernel)
theorem dX4_locaHolds_116 : decode cX4_locaHolds 116 = .ok (.iastore, 1) := dl_o79 kcX4_locaHolds (by decide +kernel)
theorem dX4_locaHolds_117 : decode cX4_locaHolds 117 = .ok (.aload_n 0, 1) := dl_o42 kcX4_locaHolds (by decide +kernel)
theorem dX4_locaHolds_118 : decode cX4_locaHolds 118 = .ok (.getfield 9, 3) := dl_o180 kcX4_locaHolds (by decide +kernel)
theorem dX4_locaHolds_121 : decode cX4_locaHolds 121 = .ok (.getfield 161, 3) := dl_o180 kcX4_locaHolds (by decide +kernel)
theorem dX4_locaHolds_124 : decode cX4_locaHolds 124 = .ok (.iconst 1, 1) := dl_o4 kcX4_locaHolds (by decide +kernel)
theorem dX4_locaHolds_125 : decode cX4_locaHolds 125 = .ok (.aaload, 1) := dl_o50 kcX4_locaHolds (by decide +kernel)
theorem dX4_locaHolds_126 : decode cX4_locaHolds 126 = .ok (.iload_n 2, 1) := dl_o28 kcX4_locaHolds (by decide +kernel)
theorem dX4_locaHolds_127 : decode cX4_locaHolds 127 = .ok (.lload 5, 2) := dl_o22 kcX4_locaHolds (by decide +kernel)
theorem dX4_locaHolds_129 : decode cX4_locaHolds 129 = .ok (.lload_n 3, 1) := dl_o33 kcX4_locaHolds (by decide +kernel)
theorem dX4_locaHolds_130 : decode cX4_locaHolds 130 = .ok (.lsub, 1) := dl_o101 kcX4_locaHolds (by decide +kernel)
theorem dX4_locaHolds_131 : decode cX4_locaHolds 131 = .ok (.l2i, 1) := dl_o136 kcX4_locaHolds (by decide +kernel)
theorem dX4_locaHolds_132 : decode cX4_locaHolds 132 = .ok (.iastore, 1) := dl_o79 kcX4_locaHolds (by decide +kernel)
theorem dX4_locaHolds_133 : decode cX4_locaHolds 133 = .ok (.iinc 2 1, 3) := by decide +kernel
theorem dX4_locaHolds_136 : decode cX4_locaHolds 136 = .ok (.goto (-93), 3) := dl_o167 kcX4_locaHolds 65443 (by decide +kernel) (by decide +kernel)
theorem dX4_locaHolds_139 : decode cX4_locaHolds 139 = .ok (.iconst 1, 1) := dl_o4 kcX4_locaHolds (by decide +kernel)
theorem dX4_locaHolds_140 : decode cX4_locaHolds 140 = .ok (.ireturn, 1) := dl_o172 kcX4_locaHolds (by decide +kernel)
def B_X4_locaHolds_43 (N : Nat) (k43 : Int32 → sv_V → Option (Int32 × sv_V)) (l2 : Int32) (V : sv_V) : Option (Int32 × sv_V) := if (V.1 2 7) ≤ l2 then (some ((1 : Int32), V)) else ((F_X4_placeInGlyf l2 V).bind (fun (x4, V2) => (F_X4_placeInGlyf (l2 + (1 : Int32)) V2).bind (fun (x7, V5) => if 0 < (lg_cmp x4 x7) then (some ((0 : Int32), V5)) else (if (lg_cmp x7 ((V5.1 5 (1 : Int32).toNatClampNeg).toInt64)) ≤ 0 then ((cr 7 (0 : Int32).toNatClampNeg).bind (fun b10 => (sv_len 0 b10).bind (fun n12 => if sx_in l2 n12 = true then sx_let (sv_I V5 b10 l2.toNatClampNeg ((V5.1 4 (1 : Int32).toNatClampNeg) + x4.toInt32)) (fun V15 => (cr 7 (1 : Int32).toNatClampNeg).bind (fun b16 => (sv_len 0 b16).bind (fun n18 => if sx_in l2 n18 = true then sx_let (sv_I V15 b16 l2.toNatClampNeg ((x7 - x4).toInt32)) (fun V21 => sx_let (l2 + 1) (fun x22 => k43 x22 V21)) else none))) else none))) else (some ((0 : Int32), V5))))))
set_option maxRecDepth 20000 in
theorem tB_X4_locaHolds_43 {g : sx_G} (hG : sx_Go g) {P : Option Value → sv_V → Prop} {r : Int32} {Vr : sv_V} (hP : P (some (.int r)) Vr) {N : Nat} {k43 : Int32 → sv_V → Option (Int32 × sv_V)} (hk43 : ∀ (l2 : Int32) (V : sv_V), k43 l2 V = some (r, Vr) → sv_N g qX4_locaHolds 3 43 [(0, .ref 29), (2, .int l2)] [] V P) {l2 : Int32} {V : sv_V} (h : B_X4_locaHolds_43 N k43 l2 V = some (r, Vr)) : sv_N g qX4_locaHolds 3 43 [(0, .ref 29), (2, .int l2)] [] V P := by
  unfold B_X4_locaHolds_43 at h
  refine sx_iload_n (pc := 43) dX4_locaHolds_43 sx_m1 ?_
  refine sx_aload_n (pc := 44) dX4_locaHolds_44 sx_m0 ?_
  refine sv_getO (pc := 45) hG dX4_locaHolds_45 f_4_9 lay_29 rfl cr_29_0 ?_
  refine sv_getI (pc := 48) hG dX4_locaHolds_48 f_4_138 lay_2 rfl ?_
  refine sx_icmp_ge (pc := 51) (tgt := 139) dX4_locaHolds_51 (by decide) (fun c1 => ?_) (fun c1 => ?_)
  · have h := sx_pos c1 h
    refine sx_iconst (pc := 139) (v := 1) dX4_locaHolds_139 (by decide) ?_
    exact sv_zret (pc := 140) dX4_locaHolds_140 rfl rfl h hP
  · have h := sx_neg c1 h
    refine sx_aload_n (pc := 54) dX4_locaHolds_54 sx_m0 ?_
    refine sx_iload_n (pc := 55) dX4_locaHolds_55 sx_m1 ?_
    obtain ⟨⟨x4, V2⟩, g3, h⟩ := sx_bnd h
    refine sv_cV (pc := 56) (y := qX4_placeInGlyf) (o := (some (.long x4))) (as := [.int l2]) (V1 := V2) hG dX4_locaHolds_56 l_X4_158 y0X4_placeInGlyf yvX4_placeInGlyf rfl (Nat.le_of_ble_eq_true rfl) lay_29 kr_4 (by decide) (Nat.le_of_ble_eq_true rfl) rfl rfl rfl (t_X4_placeInGlyf hG ⟨rfl, rfl⟩ g3) ?_
    refine sx_lstore_n (pc := 59) (lo' := [(3, .long x4), (0, .ref 29), (2, .int l2)]) dX4_locaHolds_59 (by decide) rfl ?_
    refine sx_aload_n (pc := 60) dX4_locaHolds_60 sx_m1 ?_
    refine sx_iload_n (pc := 61) dX4_locaHolds_61 sx_m2 ?_
    refine sx_iconst (pc := 62) (v := 1) dX4_locaHolds_62 (by decide) ?_
    refine sx_iadd (pc := 63) dX4_locaHolds_63 ?_
    obtain ⟨⟨x7, V5⟩, g6, h⟩ := sx_bnd h
    refine sv_cV (pc := 64) (y := qX4_placeInGlyf) (o := (some (.long x7))) (as := [.int (l2 + (1 : Int32))]) (V1 := V5) hG dX4_locaHolds_64 l_X4_158 y0X4_placeInGlyf yvX4_placeInGlyf rfl (Nat.le_of_ble_eq_true rfl) lay_29 kr_4 (by decide) (Nat.le_of_ble_eq_true rfl) rfl rfl rfl (t_X4_placeInGlyf hG ⟨rfl, rfl⟩ g6) ?_
    refine sx_lstore (pc := 67) (lo' := [(5, .long x7), (3, .long x4), (0, .ref 29), (2, .int l2)]) dX4_locaHolds_67 (by decide) rfl ?_
    refine sx_lload_n (pc := 69) dX4_locaHolds_69 sx_m1 ?_
    refine sx_lload (pc := 70) dX4_locaHolds_70 sx_m0 ?_
    refine sx_lcmp (pc := 72) dX4_locaHolds_72 ?_
    refine sx_if_gt (pc := 73) (tgt := 92) dX4_locaHolds_73 (by decide) (fun c8 => ?_) (fun c8 => ?_)
    · have h := sx_pos c8 h
      refine sx_iconst (pc := 92) (v := 0) dX4_locaHolds_92 (by decide) ?_
      exact sv_zret (pc := 93) dX4_locaHolds_93 rfl rfl h hP
    · have h := sx_neg c8 h
      refine sx_lload (pc := 76) dX4_locaHolds_76 sx_m0 ?_
      refine sx_aload_n (pc := 78) dX4_locaHolds_78 sx_m2 ?_
      refine sv_getO (pc := 79) hG dX4_locaHolds_79 f_4_9 lay_29 rfl cr_29_0 ?_
      refine sv_getA (pc := 82) hG dX4_locaHolds_82 f_4_118 lay_2 rfl cr_2_4 ?_
      refine sx_iconst (pc := 85) (v := 1) dX4_locaHolds_85 (by decide) ?_
      refine sv_iald (pc := 86) hG dX4_locaHolds_86 lay_5 (by decide) ?_
      refine sx_i2l (pc := 87) dX4_locaHolds_87 ?_
      refine sx_lcmp (pc := 88) dX4_locaHolds_88 ?_
      refine sx_if_le (pc := 89) (tgt := 94) dX4_locaHolds_89 (by decide) (fun c9 => ?_) (fun c9 => ?_)
      · have h := sx_pos c9 h
        refine sx_aload_n (pc := 94) dX4_locaHolds_94 sx_m2 ?_
        refine sv_getO (pc := 95) hG dX4_locaHolds_95 f_4_9 lay_29 rfl cr_29_0 ?_
        refine sv_getA (pc := 98) hG dX4_locaHolds_98 f_4_161 lay_2 rfl cr_2_16 ?_
        refine sx_iconst (pc := 101) (v := 0) dX4_locaHolds_101 (by decide) ?_
        obtain ⟨b10, g11, h⟩ := sx_bnd h
        refine sv_aald (pc := 102) hG dX4_locaHolds_102 (by decide) lay_7 (by decide) g11 ?_
        refine sx_iload_n (pc := 103) dX4_locaHolds_103 sx_m3 ?_
        refine sx_aload_n (pc := 104) dX4_locaHolds_104 sx_m2 ?_
        refine sv_getO (pc := 105) hG dX4_locaHolds_105 f_4_9 lay_29 rfl cr_29_0 ?_
        refine sv_getA (pc := 108) hG dX4_locaHolds_108 f_4_115 lay_2 rfl cr_2_3 ?_
        refine sx_iconst (pc := 111) (v := 1) dX4_locaHolds_111 (by decide) ?_
        refine sv_iald (pc := 112) hG dX4_locaHolds_112 lay_4 (by decide) ?_
        refine sx_lload_n (pc := 113) dX4_locaHolds_113 sx_m1 ?_
        refine sx_l2i (pc := 114) dX4_locaHolds_114 ?_
        refine sx_iadd (pc := 115) dX4_locaHolds_115 ?_
        obtain ⟨n12, g13, h⟩ := sx_bnd h
        obtain ⟨g14, h⟩ := sx_grd h
        obtain ⟨V15, hV15⟩ : ∃ z : sv_V, z = sv_I V5 b10 l2.toNatClampNeg ((V5.1 4 (1 : Int32).toNatClampNeg) + x4.toInt32) := ⟨_, rfl⟩
        have h := sx_letE hV15 h
        refine sv_iast (pc := 116) hG dX4_locaHolds_116 (sv_len_e g13) g14 hV15 ?_
        refine sx_aload_n (pc := 117) dX4_locaHolds_117 sx_m2 ?_
        refine sv_getO (pc := 118) hG dX4_locaHolds_118 f_4_9 lay_29 rfl cr_29_0 ?_
        refine sv_getA (pc := 121) hG dX4_locaHolds_121 f_4_161 lay_2 rfl cr_2_16 ?_
        refine sx_iconst (pc := 124) (v := 1) dX4_locaHolds_124 (by decide) ?_
        obtain ⟨b16, g17, h⟩ := sx_bnd h
        refine sv_aald (pc := 125) hG dX4_locaHolds_125 (by decide) lay_7 (by decide) g17 ?_
        refine sx_iload_n (pc := 126) dX4_locaHolds_126 sx_m3 ?_
        refine sx_lload (pc := 127) dX4_locaHolds_127 sx_m0 ?_
        refine sx_lload_n (pc := 129) dX4_locaHolds_129 sx_m1 ?_
        refine sx_lsub (pc := 130) dX4_locaHolds_130 ?_
        refine sx_l2i (pc := 131) dX4_locaHolds_131 ?_
        obtain ⟨n18, g19, h⟩ := sx_bnd h
        obtain ⟨g20, h⟩ := sx_grd h
        obtain ⟨V21, hV21⟩ : ∃ z : sv_V, z = sv_I V15 b16 l2.toNatClampNeg ((x7 - x4).toInt32) := ⟨_, rfl⟩
        have h := sx_letE hV21 h
        refine sv_iast (pc := 132) hG dX4_locaHolds_132 (sv_len_e g19) g20 hV21 ?_
        obtain ⟨x22, hx22⟩ : ∃ z : Int32, z = l2 + 1 := ⟨_, rfl⟩
        have h := sx_letE hx22 h
        refine sx_iinc (pc := 133) (v := x22) (lo' := [(2, .int x22), (5, .long x7), (3, .long x4), (0, .ref 29)]) dX4_locaHolds_133 sx_m3 (by rw [hx22]; rfl) (by decide) rfl ?_
        refine sx_goto (pc := 136) (tgt := 43) dX4_locaHolds_136 (by decide) ?_
        refine sx_wk (sx_s1 sx_m3 (sx_s1 sx_m0 sx_s0)) ?_
        exact hk43 _ _ h
      · have h := sx_neg c9 h
        refine sx_iconst (pc := 92) (v := 0) dX4_locaHolds_92 (by decide) ?_
        exact sv_zret (pc := 93) dX4_locaHolds_93 rfl rfl h hP
theorem tL_X4_locaHolds_43 {g : sx_G} (hG : sx_Go g) {P : Option Value → sv_V → Prop} {r : Int32} {Vr : sv_V} (hP : P (some (.int r)) Vr) {N : Nat}   : ∀ (n : Nat) (l2 : Int32) (V : sv_V), sx_lp2 (B_X4_locaHolds_43 N ) n l2 V = some (r, Vr) → sv_N g qX4_locaHolds 3 43 [(0, .ref 29), (2, .int l2)] [] V P :=
  sx_lp2_ind (fun k0 ih _ V h => tB_X4_locaHolds_43 hG hP ih h)
def B_X4_locaHolds_15 (N : Nat)  (s0 : Int32) (V : sv_V) : Option (Int32 × sv_V) := if (s0 * ((V.1 2 7) + (1 : Int32))) ≤ (V.1 5 (5 : Int32).toNatClampNeg) then (sx_lp2 (B_X4_locaHolds_43 N ) N (0 : Int32) V) else (some ((0 : Int32), V))
set_option maxRecDepth 20000 in
theorem tB_X4_locaHolds_15 {g : sx_G} (hG : sx_Go g) {P : Option Value → sv_V → Prop} {r : Int32} {Vr : sv_V} (hP : P (some (.int r)) Vr) {N : Nat}   {s0 : Int32} {V : sv_V} (h : B_X4_locaHolds_15 N  s0 V = some (r, Vr)) : sv_N g qX4_locaHolds 3 15 [(0, .ref 29)] [.int s0] V P := by
  unfold B_X4_locaHolds_15 at h
  refine sx_istore_n (pc := 15) (lo' := [(1, .int s0), (0, .ref 29)]) dX4_locaHolds_15 (by decide) rfl ?_
  refine sx_aload_n (pc := 16) dX4_locaHolds_16 sx_m1 ?_
  refine sv_getO (pc := 17) hG dX4_locaHolds_17 f_4_9 lay_29 rfl cr_29_0 ?_
  refine sv_getA (pc := 20) hG dX4_locaHolds_20 f_4_118 lay_2 rfl cr_2_4 ?_
  refine sx_iconst (pc := 23) (v := 5) dX4_locaHolds_23 (by decide) ?_
  refine sv_iald (pc := 24) hG dX4_locaHolds_24 lay_5 (by decide) ?_
  refine sx_iload_n (pc := 25) dX4_locaHolds_25 sx_m0 ?_
  refine sx_aload_n (pc := 26) dX4_locaHolds_26 sx_m1 ?_
  refine sv_getO (pc := 27) hG dX4_locaHolds_27 f_4_9 lay_29 rfl cr_29_0 ?_
  refine sv_getI (pc := 30) hG dX4_locaHolds_30 f_4_138 lay_2 rfl ?_
  refine sx_iconst (pc := 33) (v := 1) dX4_locaHolds_33 (by decide) ?_
  refine sx_iadd (pc := 34) dX4_locaHolds_34 ?_
  refine sx_imul (pc := 35) dX4_locaHolds_35 ?_
  refine sx_icmp_ge (pc := 36) (tgt := 41) dX4_locaHolds_36 (by decide) (fun c23 => ?_) (fun c23 => ?_)
  · have h := sx_pos c23 h
    refine sx_iconst (pc := 41) (v := 0) dX4_locaHolds_41 (by decide) ?_
    refine sx_istore_n (pc := 42) (lo' := [(2, .int (0 : Int32)), (1, .int s0), (0, .ref 29)]) dX4_locaHolds_42 (by decide) rfl ?_
    refine sx_wk (sx_s1 sx_m2 (sx_s1 sx_m0 sx_s0)) ?_
    exact tL_X4_locaHolds_43 hG hP  N _ _ h
  · have h := sx_neg c23 h
    refine sx_iconst (pc := 39) (v := 0) dX4_locaHolds_39 (by decide) ?_
    exact sv_zret (pc := 40) dX4_locaHolds_40 rfl rfl h hP
def F_X4_locaHolds (N : Nat)  (V : sv_V) : Option (Int32 × sv_V) := if (V.1 2 9) = 0 then (B_X4_locaHolds_15 N  (2 : Int32) V) else (B_X4_locaHolds_15 N  (4 : Int32) V)
set_option maxRecDepth 20000 in
theorem t_X4_locaHolds {g : sx_G} (hG : sx_Go g) {P : Option Value → sv_V → Prop} {r : Int32} {Vr : sv_V} (hP : P (some (.int r)) Vr) {N : Nat}  {V : sv_V} (h : F_X4_locaHolds N  V = some (r, Vr)) : sv_N g qX4_locaHolds 3 0 [(0, .ref 29)] [] V P := by
  unfold F_X4_locaHolds at h
  refine sx_aload_n (pc := 0) dX4_locaHolds_0 sx_m0 ?_
  refine sv_getO (pc := 1) hG dX4_locaHolds_1 f_4_9 lay_29 rfl cr_29_0 ?_
  refine sv_getI (pc := 4) hG dX4_locaHolds_4 f_4_131 lay_2 rfl ?_
  refine sx_if_ne (pc := 7) (tgt := 14) dX4_locaHolds_7 (by decide) (fun c24 => ?_) (fun c24 => ?_)
  · have h := sx_neg c24 h
    refine sx_iconst (pc := 14) (v := 4) dX4_locaHolds_14 (by decide) ?_
    refine sx_wk (sx_s1 sx_m0 sx_s0) ?_
    exact tB_X4_locaHolds_15 hG hP  h
  · have h := sx_pos c24 h
    refine sx_iconst (pc := 10) (v := 2) dX4_locaHolds_10 (by decide) ?_
    refine sx_goto (pc := 11) (tgt := 15) dX4_locaHolds_11 (by decide) ?_
    refine sx_wk (sx_s1 sx_m0 sx_s0) ?_
    exact tB_X4_locaHolds_15 hG hP  h
def ncX4_mapPlace : Nat := 47225603829457681794468994256260013992982409063762569294120539474908092782689922397396797558740568238502589990491716833547930846222036186062125027353140415314766725805974561440635415705091
theorem kcX4_mapPlace : CK cX4_mapPlace ncX4_mapPlace 78 := ⟨by decide +kernel, by decide +kernel⟩
theorem dX4_mapPlace_0 : decode cX4_mapPlace 0 = .ok (.iconst 0, 1) := dl_o3 kcX4_mapPlace (by decide +kernel)
theorem dX4_mapPlace_1 : decode cX4_mapPlace 1 = .ok (.istore 4, 2) := dl_o54 kcX4_mapPlace (by decide +kernel)
theorem dX4_mapPlace_3 : decode cX4_mapPlace 3 = .ok (.iload 4, 2) := dl_o21 kcX4_mapPlace (by decide +kernel)
theorem dX4_mapPlace_5 : decode cX4_mapPlace 5 = .ok (.iload_n 1, 1) := dl_o27 kcX4_mapPlace (by decide +kernel)
theorem dX4_mapPlace_6 : decode cX4_mapPlace 6 = .ok (.if_icmp .ge 68, 3) := dl_o162 kcX4_mapPlace 68 (by decide +kernel) (by decide +kernel)
theorem dX4_mapPlace_9 : decode cX4_mapPlace 9 = .ok (.aload_n 0, 1) := dl_o42 kcX4_mapPlace (by decide +kernel)
theorem dX4_mapPlace_10 : decode cX4_mapPlace 10 = .ok (.getfield 9, 3) := dl_o180 kcX4_mapPlace (by decide +kernel)
theorem dX4_mapPlace_13 : decode cX4_mapPlace 13 = .ok (.getfield 115, 3) := dl_o180 kcX4_mapPlace (by decide +kernel)
theorem dX4_mapPlace_16 : decode cX4_mapPlace 16 = .ok (.iconst 0, 1) := dl_o3 kcX4_mapPlace (by decide +kernel)
theorem dX4_mapPlace_17 : decode cX4_mapPlace 17 = .ok (.iaload, 1) := dl_o46 kcX4_mapPlace (by decide +kernel)
theorem dX4_mapPlace_18 : decode cX4_mapPlace 18 = .ok (.iconst 4, 1) := dl_o7 kcX4_mapPlace (by decide +kernel)
theorem dX4_mapPlace_19 : decode cX4_mapPlace 19 = .ok (.iadd, 1) := dl_o96 kcX4_mapPlace (by decide +kernel)
theorem dX4_mapPlace_20 : decode cX4_mapPlace 20 = .ok (.bipush 8, 2) := dl_o16 kcX4_mapPlace 8 (by decide +kernel) (by decide +kernel)
theorem dX4_mapPlace_22 : decode cX4_mapPlace 22 = .ok (.iload 4, 2) := dl_o21 kcX4_mapPlace (by decide +kernel)
theorem dX4_mapPlace_24 : decode cX4_mapPlace 24 = .ok (.imul, 1) := dl_o104 kcX4_mapPlace (by decide +kernel)
theorem dX4_mapPlace_25 : decode cX4_mapPlace 25 = .ok (.iadd, 1) := dl_o96 kcX4_mapPlace (by decide +kernel)
theorem dX4_mapPlace_26 : decode cX4_mapPlace 26 = .ok (.istore 5, 2) := dl_o54 kcX4_mapPlace (by decide +kernel)
theorem dX4_mapPlace_28 : decode cX4_mapPlace 28 = .ok (.aload_n 0, 1) := dl_o42 kcX4_mapPlace (by decide +kernel)
theorem dX4_mapPlace_29 : decode cX4_mapPlace 29 = .ok (.getfield 9, 3) := dl_o180 kcX4_mapPlace (by decide +kernel)
theorem dX4_mapPlace_32 : decode cX4_mapPlace 32 = .ok (.iload 5, 2) := dl_o21 kcX4_mapPlace (by decide +kernel)
theorem dX4_mapPlace_34 : decode cX4_mapPlace 34 = .ok (.invokevirtual 64, 3) := dl_o182 kcX4_mapPlace (by decide +kernel)
theorem dX4_mapPlace_37 : decode cX4_mapPlace 37 = .ok (.iload_n 2, 1) := dl_o28 kcX4_mapPlace (by decide +kernel)
theorem dX4_mapPlace_38 : decode cX4_mapPlace 38 = .ok (.if_icmp .ne 30, 3) := dl_o160 kcX4_mapPlace 30 (by decide +kernel) (by decide +kernel)
theorem dX4_mapPlace_41 : decode cX4_mapPlace 41 = .ok (.aload_n 0, 1) := dl_o42 kcX4_mapPlace (by decide +kernel)
theorem dX4_mapPlace_42 : decode cX4_mapPlace 42 = .ok (.getfield 9, 3) := dl_o180 kcX4_mapPlace (by decide +kernel)
theorem dX4_mapPlace_45 : decode cX4_mapPlace 45 = .ok (.iload 5, 2) := dl_o21 kcX4_mapPlace (by decide +kernel)
theorem dX4_mapPlace_47 : decode cX4_mapPlace 47 = .ok (.iconst 2, 1) := dl_o5 kcX4_mapPlace (by decide +kernel)
theorem dX4_mapPlace_48 : decode cX4_mapPlace 48 = .ok (.iadd, 1) := dl_o96 kcX4_mapPlace (by decide +kernel)
theorem dX4_mapPlace_49 : decode cX4_mapPlace 49 = .ok (.invokevirtual 64, 3) := dl_o182 kcX4_mapPlace (by decide +kernel)
theorem dX4_mapPlace_52 : decode cX4_mapPlace 52 = .ok (.iload_n 3, 1) := dl_o29 kcX4_mapPlace (by decide +kernel)
theorem dX4_mapPlace_53 : decode cX4_mapPlace 53 = .ok (.if_icmp .ne 15, 3) := dl_o160 kcX4_mapPlace 15 (by decide +kernel) (by decide +kernel)
theorem dX4_mapPlace_56 : decode cX4_mapPlace 56 = .ok (.aload_n 0, 1) := dl_o42 kcX4_mapPlace (by decide +kernel)
theorem dX4_mapPlace_57 : decode cX4_mapPlace 57 = .ok (.getfield 9, 3) := dl_o180 kcX4_mapPlace (by decide +kernel)
theorem dX4_mapPlace_60 : decode cX4_mapPlace 60 = .ok (.iload 5, 2) := dl_o21 kcX4_mapPlace (by decide +kernel)
theorem dX4_mapPlace_62 : decode cX4_mapPlace 62 = .ok (.iconst 4, 1) := dl_o7 kcX4_mapPlace (by decide +kernel)
theorem dX4_mapPlace_63 : decode cX4_mapPlace 63 = .ok (.iadd, 1) := dl_o96 kcX4_mapPlace (by decide +kernel)
theorem dX4_mapPlace_64 : decode cX4_mapPlace 64 = .ok (.invokevirtual 74, 3) := dl_o182 kcX4_mapPlace (by decide +kernel)
theorem dX4_mapPlace_67 : decode cX4_mapPlace 67 = .ok (.lreturn, 1) := dl_o173 kcX4_mapPlace (by decide +kernel)
theorem dX4_mapPlace_68 : decode cX4_mapPlace 68 = .ok (.iinc 4 1, 3) := by decide +kernel
theorem dX4_mapPlace_71 : decode cX4_mapPlace 71 = .ok (.goto (-68), 3) := dl_o167 kcX4_mapPlace 65468 (by decide +kernel) (by decide +kernel)
theorem dX4_mapPlace_74 : decode cX4_mapPlace 74 = .ok (.ldc2_w 169, 3) := dl_o20 kcX4_mapPlace (by decide +kernel)
theorem dX4_mapPlace_77 : decode cX4_mapPlace 77 = .ok (.lreturn, 1) := dl_o173 kcX4_mapPlace (by decide +kernel)
def B_X4_mapPlace_68 (N : Nat) (k3 : Int32 → Int32 → Int32 → Int32 → sv_V → Option (Int64 × sv_V)) (l1 : Int32) (l2 : Int32) (l3 : Int32) (l4 : Int32) (V : sv_V) : Option (Int64 × sv_V) := sx_let (l4 + 1) (fun x1 => k3 l1 l2 l3 x1 V)
set_option maxRecDepth 20000 in
theorem tB_X4_mapPlace_68 {g : sx_G} (hG : sx_Go g) {P : Option Value → sv_V → Prop} {r : Int64} {Vr : sv_V} (hP : P (some (.long r)) Vr) {N : Nat} {k3 : Int32 → Int32 → Int32 → Int32 → sv_V → Option (Int64 × sv_V)} (hk3 : ∀ (l1 : Int32) (l2 : Int32) (l3 : Int32) (l4 : Int32) (V : sv_V), k3 l1 l2 l3 l4 V = some (r, Vr) → sv_N g qX4_mapPlace 2 3 [(0, .ref 29), (1, .int l1), (2, .int l2), (3, .int l3), (4, .int l4)] [] V P) {l1 : Int32} {l2 : Int32} {l3 : Int32} {l4 : Int32} {V : sv_V} (h : B_X4_mapPlace_68 N k3 l1 l2 l3 l4 V = some (r, Vr)) : sv_N g qX4_mapPlace 2 68 [(0, .ref 29), (1, .int l1), (2, .int l2), (3, .int l3), (4, .int l4)] [] V P := by
  unfold B_X4_mapPlace_68 at h
  obtain ⟨x1, hx1⟩ : ∃ z : Int32, z = l4 + 1 := ⟨_, rfl⟩
  have h := sx_letE hx1 h
  refine sx_iinc (pc := 68) (v := x1) (lo' := [(4, .int x1), (0, .ref 29), (1, .int l1), (2, .int l2), (3, .int l3)]) dX4_mapPlace_68 sx_m4 (by rw [hx1]; rfl) (by decide) rfl ?_
  refine sx_goto (pc := 71) (tgt := 3) dX4_mapPlace_71 (by decide) ?_
  refine sx_wk (sx_s1 sx_m1 (sx_s1 sx_m2 (sx_s1 sx_m3 (sx_s1 sx_m4 (sx_s1 sx_m0 sx_s0))))) ?_
  exact hk3 _ _ _ _ _ h
def B_X4_mapPlace_3 (N : Nat) (k3 : Int32 → Int32 → Int32 → Int32 → sv_V → Option (Int64 × sv_V)) (l1 : Int32) (l2 : Int32) (l3 : Int32) (l4 : Int32) (V : sv_V) : Option (Int64 × sv_V) := if l1 ≤ l4 then (some ((-1 : Int64), V)) else (sx_let (((V.1 4 (0 : Int32).toNatClampNeg) + (4 : Int32)) + ((8 : Int32) * l4)) (fun x3 => (F_X2_u2 x3 V).bind (fun (x6, V4) => if x6 = l2 then ((F_X2_u2 (x3 + (2 : Int32)) V4).bind (fun (x10, V8) => if x10 = l3 then ((F_X2_u4 (x3 + (4 : Int32)) V8).bind (fun (x14, V12) => some (x14, V12))) else (B_X4_mapPlace_68 N k3 l1 l2 l3 l4 V8))) else (B_X4_mapPlace_68 N k3 l1 l2 l3 l4 V4))))
set_option maxRecDepth 20000 in
theorem tB_X4_mapPlace_3 {g : sx_G} (hG : sx_Go g) {P : Option Value → sv_V → Prop} {r : Int64} {Vr : sv_V} (hP : P (some (.long r)) Vr) {N : Nat} {k3 : Int32 → Int32 → Int32 → Int32 → sv_V → Option (Int64 × sv_V)} (hk3 : ∀ (l1 : Int32) (l2 : Int32) (l3 : Int32) (l4 : Int32) (V : sv_V), k3 l1 l2 l3 l4 V = some (r, Vr) → sv_N g qX4_mapPlace 2 3 [(0, .ref 29), (1, .int l1), (2, .int l2), (3, .int l3), (4, .int l4)] [] V P) {l1 : Int32} {l2 : Int32} {l3 : Int32} {l4 : Int32} {V : sv_V} (h : B_X4_mapPlace_3 N k3 l1 l2 l3 l4 V = some (r, Vr)) : sv_N g qX4_mapPlace 2 3 [(0, .ref 29), (1, .int l1), (2, .int l2), (3, .int l3), (4, .int l4)] [] V P := by
  unfold B_X4_mapPlace_3 at h
  refine sx_iload (pc := 3) dX4_mapPlace_3 sx_m4 ?_
  refine sx_iload_n (pc := 5) dX4_mapPlace_5 sx_m1 ?_
  refine sx_icmp_ge (pc := 6) (tgt := 74) dX4_mapPlace_6 (by decide) (fun c2 => ?_) (fun c2 => ?_)
  · have h := sx_pos c2 h
    refine sx_ldc2 (pc := 74) dX4_mapPlace_74 k_X4_169 ?_
    exact sv_lret (pc := 77) dX4_mapPlace_77 rfl h hP
  · have h := sx_neg c2 h
    refine sx_aload_n (pc := 9) dX4_mapPlace_9 sx_m0 ?_
    refine sv_getO (pc := 10) hG dX4_mapPlace_10 f_4_9 lay_29 rfl cr_29_0 ?_
    refine sv_getA (pc := 13) hG dX4_mapPlace_13 f_4_115 lay_2 rfl cr_2_3 ?_
    refine sx_iconst (pc := 16) (v := 0) dX4_mapPlace_16 (by decide) ?_
    refine sv_iald (pc := 17) hG dX4_mapPlace_17 lay_4 (by decide) ?_
    refine sx_iconst (pc := 18) (v := 4) dX4_mapPlace_18 (by decide) ?_
    refine sx_iadd (pc := 19) dX4_mapPlace_19 ?_
    refine sx_bipush (pc := 20) (v := 8) dX4_mapPlace_20 (by decide) ?_
    refine sx_iload (pc := 22) dX4_mapPlace_22 sx_m4 ?_
    refine sx_imul (pc := 24) dX4_mapPlace_24 ?_
    refine sx_iadd (pc := 25) dX4_mapPlace_25 ?_
    refine sv_tI (fun x3 hx3 => ?_)
    have h := sx_letE hx3 h
    refine sx_istore (pc := 26) (lo' := [(5, .int x3), (0, .ref 29), (1, .int l1), (2, .int l2), (3, .int l3), (4, .int l4)]) dX4_mapPlace_26 (by decide) rfl ?_
    refine sx_aload_n (pc := 28) dX4_mapPlace_28 sx_m1 ?_
    refine sv_getO (pc := 29) hG dX4_mapPlace_29 f_4_9 lay_29 rfl cr_29_0 ?_
    refine sx_iload (pc := 32) dX4_mapPlace_32 sx_m0 ?_
    obtain ⟨⟨x6, V4⟩, g5, h⟩ := sx_bnd h
    refine sv_cV (pc := 34) (y := qX2_u2) (o := (some (.int x6))) (as := [.int x3]) (V1 := V4) hG dX4_mapPlace_34 l_X4_64 y0X2_u2 yvX2_u2 rfl (Nat.le_of_ble_eq_true rfl) lay_2 kr_2 (by decide) (Nat.le_of_ble_eq_true rfl) rfl rfl rfl (t_X2_u2 hG ⟨rfl, rfl⟩ g5) ?_
    refine sx_iload_n (pc := 37) dX4_mapPlace_37 sx_m3 ?_
    refine sx_icmp_ne (pc := 38) (tgt := 68) dX4_mapPlace_38 (by decide) (fun c7 => ?_) (fun c7 => ?_)
    · have h := sx_neg c7 h
      refine sx_wk (sx_s1 sx_m1 (sx_s1 sx_m2 (sx_s1 sx_m3 (sx_s1 sx_m4 (sx_s1 sx_m5 sx_s0))))) ?_
      exact tB_X4_mapPlace_68 hG hP hk3 h
    · have h := sx_pos c7 h
      refine sx_aload_n (pc := 41) dX4_mapPlace_41 sx_m1 ?_
      refine sv_getO (pc := 42) hG dX4_mapPlace_42 f_4_9 lay_29 rfl cr_29_0 ?_
      refine sx_iload (pc := 45) dX4_mapPlace_45 sx_m0 ?_
      refine sx_iconst (pc := 47) (v := 2) dX4_mapPlace_47 (by decide) ?_
      refine sx_iadd (pc := 48) dX4_mapPlace_48 ?_
      obtain ⟨⟨x10, V8⟩, g9, h⟩ := sx_bnd h
      refine sv_cV (pc := 49) (y := qX2_u2) (o := (some (.int x10))) (as := [.int (x3 + (2 : Int32))]) (V1 := V8) hG dX4_mapPlace_49 l_X4_64 y0X2_u2 yvX2_u2 rfl (Nat.le_of_ble_eq_true rfl) lay_2 kr_2 (by decide) (Nat.le_of_ble_eq_true rfl) rfl rfl rfl (t_X2_u2 hG ⟨rfl, rfl⟩ g9) ?_
      refine sx_iload_n (pc := 52) dX4_mapPlace_52 sx_m4 ?_
      refine sx_icmp_ne (pc := 53) (tgt := 68) dX4_mapPlace_53 (by decide) (fun c11 => ?_) (fun c11 => ?_)
      · have h := sx_neg c11 h
        refine sx_wk (sx_s1 sx_m1 (sx_s1 sx_m2 (sx_s1 sx_m3 (sx_s1 sx_m4 (sx_s1 sx_m5 sx_s0))))) ?_
        exact tB_X4_mapPlace_68 hG hP hk3 h
      · have h := sx_pos c11 h
        refine sx_aload_n (pc := 56) dX4_mapPlace_56 sx_m1 ?_
        refine sv_getO (pc := 57) hG dX4_mapPlace_57 f_4_9 lay_29 rfl cr_29_0 ?_
        refine sx_iload (pc := 60) dX4_mapPlace_60 sx_m0 ?_
        refine sx_iconst (pc := 62) (v := 4) dX4_mapPlace_62 (by decide) ?_
        refine sx_iadd (pc := 63) dX4_mapPlace_63 ?_
        obtain ⟨⟨x14, V12⟩, g13, h⟩ := sx_bnd h
        refine sv_cV (pc := 64) (y := qX2_u4) (o := (some (.long x14))) (as := [.int (x3 + (4 : Int32))]) (V1 := V12) hG dX4_mapPlace_64 l_X4_74 y0X2_u4 yvX2_u4 rfl (Nat.le_of_ble_eq_true rfl) lay_2 kr_2 (by decide) (Nat.le_of_ble_eq_true rfl) rfl rfl rfl (t_X2_u4 hG ⟨rfl, rfl⟩ g13) ?_
        exact sv_lret (pc := 67) dX4_mapPlace_67 rfl h hP
theorem tL_X4_mapPlace_3 {g : sx_G} (hG : sx_Go g) {P : Option Value → sv_V → Prop} {r : Int64} {Vr : sv_V} (hP : P (some (.long r)) Vr) {N : Nat}   : ∀ (n : Nat) (l1 : Int32) (l2 : Int32) (l3 : Int32) (l4 : Int32) (V : sv_V), sx_lp5 (B_X4_mapPlace_3 N ) n l1 l2 l3 l4 V = some (r, Vr) → sv_N g qX4_mapPlace 2 3 [(0, .ref 29), (1, .int l1), (2, .int l2), (3, .int l3), (4, .int l4)] [] V P :=
  sx_lp5_ind (fun k0 ih _ _ _ _ V h => tB_X4_mapPlace_3 hG hP ih h)
def F_X4_mapPlace (N : Nat) (l1 : Int32) (l2 : Int32) (l3 : Int32) (V : sv_V) : Option (Int64 × sv_V) := sx_lp5 (B_X4_mapPlace_3 N ) N l1 l2 l3 (0 : Int32) V
set_option maxRecDepth 20000 in
theorem t_X4_mapPlace {g : sx_G} (hG : sx_Go g) {P : Option Value → sv_V → Prop} {r : Int64} {Vr : sv_V} (hP : P (some (.long r)) Vr) {N : Nat} {l1 : Int32} {l2 : Int32} {l3 : Int32} {V : sv_V} (h : F_X4_mapPlace N l1 l2 l3 V = some (r, Vr)) : sv_N g qX4_mapPlace 2 0 [(0, .ref 29), (1, .int l1), (2, .int l2), (3, .int l3)] [] V P := by
  unfold F_X4_mapPlace at h
  refine sx_iconst (pc := 0) (v := 0) dX4_mapPlace_0 (by decide) ?_
  refine sx_istore (pc := 1) (lo' := [(4, .int (0 : Int32)), (0, .ref 29), (1, .int l1), (2, .int l2), (3, .int l3)]) dX4_mapPlace_1 (by decide) rfl ?_
  refine sx_wk (sx_s1 sx_m1 (sx_s1 sx_m2 (sx_s1 sx_m3 (sx_s1 sx_m4 (sx_s1 sx_m0 sx_s0))))) ?_
  exact tL_X4_mapPlace_3 hG hP  N _ _ _ _ _ h
def ncX4_noteMap : Nat := 42543742561983726151308975912978363466228957679438678234196232715836246056119235481091080293573719133870029069120563259721285590156720514863238004305143430658324250204653821215
theorem kcX4_noteMap : CK cX4_noteMap ncX4_noteMap 73 := ⟨by decide +kernel, by decide +kernel⟩
theorem dX4_noteMap_0 : decode cX4_noteMap 0 = .ok (.lload_n 1, 1) := dl_o31 kcX4_noteMap (by decide +kernel)
theorem dX4_noteMap_1 : decode cX4_noteMap 1 = .ok (.iload_n 3, 1) := dl_o29 kcX4_noteMap (by decide +kernel)
theorem dX4_noteMap_2 : decode cX4_noteMap 2 = .ok (.i2l, 1) := dl_o133 kcX4_noteMap (by decide +kernel)
theorem dX4_noteMap_3 : decode cX4_noteMap 3 = .ok (.ladd, 1) := dl_o97 kcX4_noteMap (by decide +kernel)
theorem dX4_noteMap_4 : decode cX4_noteMap 4 = .ok (.aload_n 0, 1) := dl_o42 kcX4_noteMap (by decide +kernel)
theorem dX4_noteMap_5 : decode cX4_noteMap 5 = .ok (.getfield 9, 3) := dl_o180 kcX4_noteMap (by decide +kernel)
theorem dX4_noteMap_8 : decode cX4_noteMap 8 = .ok (.getfield 118, 3) := dl_o180 kcX4_noteMap (by decide +kernel)
theorem dX4_noteMap_11 : decode cX4_noteMap 11 = .ok (.iconst 0, 1) := dl_o3 kcX4_noteMap (by decide +kernel)
theorem dX4_noteMap_12 : decode cX4_noteMap 12 = .ok (.iaload, 1) := dl_o46 kcX4_noteMap (by decide +kernel)
theorem dX4_noteMap_13 : decode cX4_noteMap 13 = .ok (.i2l, 1) := dl_o133 kcX4_noteMap (by decide +kernel)
theorem dX4_noteMap_14 : decode cX4_noteMap 14 = .ok (.lcmp, 1) := dl_o148 kcX4_noteMap (by decide +kernel)
theorem dX4_noteMap_15 : decode cX4_noteMap 15 = .ok (.ifCond .le 5, 3) := dl_o158 kcX4_noteMap 5 (by decide +kernel) (by decide +kernel)
theorem dX4_noteMap_18 : decode cX4_noteMap 18 = .ok (.iconst 0, 1) := dl_o3 kcX4_noteMap (by decide +kernel)
theorem dX4_noteMap_19 : decode cX4_noteMap 19 = .ok (.ireturn, 1) := dl_o172 kcX4_noteMap (by decide +kernel)
theorem dX4_noteMap_20 : decode cX4_noteMap 20 = .ok (.aload_n 0, 1) := dl_o42 kcX4_noteMap (by decide +kernel)
theorem dX4_noteMap_21 : decode cX4_noteMap 21 = .ok (.getfield 9, 3) := dl_o180 kcX4_noteMap (by decide +kernel)
theorem dX4_noteMap_24 : decode cX4_noteMap 24 = .ok (.aload_n 0, 1) := dl_o42 kcX4_noteMap (by decide +kernel)
theorem dX4_noteMap_25 : decode cX4_noteMap 25 = .ok (.getfield 9, 3) := dl_o180 kcX4_noteMap (by decide +kernel)
theorem dX4_noteMap_28 : decode cX4_noteMap 28 = .ok (.getfield 115, 3) := dl_o180 kcX4_noteMap (by decide +kernel)
theorem dX4_noteMap_31 : decode cX4_noteMap 31 = .ok (.iconst 0, 1) := dl_o3 kcX4_noteMap (by decide +kernel)
theorem dX4_noteMap_32 : decode cX4_noteMap 32 = .ok (.iaload, 1) := dl_o46 kcX4_noteMap (by decide +kernel)
theorem dX4_noteMap_33 : decode cX4_noteMap 33 = .ok (.lload_n 1, 1) := dl_o31 kcX4_noteMap (by decide +kernel)
theorem dX4_noteMap_34 : decode cX4_noteMap 34 = .ok (.l2i, 1) := dl_o136 kcX4_noteMap (by decide +kernel)
theorem dX4_noteMap_35 : decode cX4_noteMap 35 = .ok (.iadd, 1) := dl_o96 kcX4_noteMap (by decide +kernel)
theorem dX4_noteMap_36 : decode cX4_noteMap 36 = .ok (.putfield 181, 3) := dl_o181 kcX4_noteMap (by decide +kernel)
theorem dX4_noteMap_39 : decode cX4_noteMap 39 = .ok (.aload_n 0, 1) := dl_o42 kcX4_noteMap (by decide +kernel)
theorem dX4_noteMap_40 : decode cX4_noteMap 40 = .ok (.getfield 9, 3) := dl_o180 kcX4_noteMap (by decide +kernel)
theorem dX4_noteMap_43 : decode cX4_noteMap 43 = .ok (.iload 4, 2) := dl_o21 kcX4_noteMap (by decide +kernel)
theorem dX4_noteMap_45 : decode cX4_noteMap 45 = .ok (.putfield 184, 3) := dl_o181 kcX4_noteMap (by decide +kernel)
theorem dX4_noteMap_48 : decode cX4_noteMap 48 = .ok (.aload_n 0, 1) := dl_o42 kcX4_noteMap (by decide +kernel)
theorem dX4_noteMap_49 : decode cX4_noteMap 49 = .ok (.getfield 9, 3) := dl_o180 kcX4_noteMap (by decide +kernel)
theorem dX4_noteMap_52 : decode cX4_noteMap 52 = .ok (.aload_n 0, 1) := dl_o42 kcX4_noteMap (by decide +kernel)
theorem dX4_noteMap_53 : decode cX4_noteMap 53 = .ok (.getfield 9, 3) := dl_o180 kcX4_noteMap (by decide +kernel)
theorem dX4_noteMap_56 : decode cX4_noteMap 56 = .ok (.getfield 181, 3) := dl_o180 kcX4_noteMap (by decide +kernel)
theorem dX4_noteMap_59 : decode cX4_noteMap 59 = .ok (.invokevirtual 64, 3) := dl_o182 kcX4_noteMap (by decide +kernel)
theorem dX4_noteMap_62 : decode cX4_noteMap 62 = .ok (.iload 4, 2) := dl_o21 kcX4_noteMap (by decide +kernel)
theorem dX4_noteMap_64 : decode cX4_noteMap 64 = .ok (.if_icmp .ne 7, 3) := dl_o160 kcX4_noteMap 7 (by decide +kernel) (by decide +kernel)
theorem dX4_noteMap_67 : decode cX4_noteMap 67 = .ok (.iconst 1, 1) := dl_o4 kcX4_noteMap (by decide +kernel)
theorem dX4_noteMap_68 : decode cX4_noteMap 68 = .ok (.goto 4, 3) := dl_o167 kcX4_noteMap 4 (by decide +kernel) (by decide +kernel)
theorem dX4_noteMap_71 : decode cX4_noteMap 71 = .ok (.iconst 0, 1) := dl_o3 kcX4_noteMap (by decide +kernel)
theorem dX4_noteMap_72 : decode cX4_noteMap 72 = .ok (.ireturn, 1) := dl_o172 kcX4_noteMap (by decide +kernel)
def F_X4_noteMap (l1 : Int64) (l3 : Int32) (l4 : Int32) (V : sv_V) : Option (Int32 × sv_V) := if (lg_cmp (l1 + l3.toInt64) ((V.1 5 (0 : Int32).toNatClampNeg).toInt64)) ≤ 0 then (sx_let (sv_I V 2 12 ((V.1 4 (0 : Int32).toNatClampNeg) + l1.toInt32)) (fun V2 => sx_let (sv_I V2 2 11 l4) (fun V3 => (F_X2_u2 (V3.1 2 12) V3).bind (fun (x6, V4) => if x6 = l4 then (some ((1 : Int32), V4)) else (some ((0 : Int32), V4)))))) else (some ((0 : Int32), V))
set_option maxRecDepth 20000 in
theorem t_X4_noteMap {g : sx_G} (hG : sx_Go g) {P : Option Value → sv_V → Prop} {r : Int32} {Vr : sv_V} (hP : P (some (.int r)) Vr) {l1 : Int64} {l3 : Int32} {l4 : Int32} {V : sv_V} (h : F_X4_noteMap l1 l3 l4 V = some (r, Vr)) : sv_N g qX4_noteMap 1 0 [(0, .ref 29), (1, .long l1), (3, .int l3), (4, .int l4)] [] V P := by
  unfold F_X4_noteMap at h
  refine sx_lload_n (pc := 0) dX4_noteMap_0 sx_m1 ?_
  refine sx_iload_n (pc := 1) dX4_noteMap_1 sx_m2 ?_
  refine sx_i2l (pc := 2) dX4_noteMap_2 ?_
  refine sx_ladd (pc := 3) dX4_noteMap_3 ?_
  refine sx_aload_n (pc := 4) dX4_noteMap_4 sx_m0 ?_
  refine sv_getO (pc := 5) hG dX4_noteMap_5 f_4_9 lay_29 rfl cr_29_0 ?_
  refine sv_getA (pc := 8) hG dX4_noteMap_8 f_4_118 lay_2 rfl cr_2_4 ?_
  refine sx_iconst (pc := 11) (v := 0) dX4_noteMap_11 (by decide) ?_
  refine sv_iald (pc := 12) hG dX4_noteMap_12 lay_5 (by decide) ?_
  refine sx_i2l (pc := 13) dX4_noteMap_13 ?_
  refine sx_lcmp (pc := 14) dX4_noteMap_14 ?_
  refine sx_if_le (pc := 15) (tgt := 20) dX4_noteMap_15 (by decide) (fun c1 => ?_) (fun c1 => ?_)
  · have h := sx_pos c1 h
    refine sx_aload_n (pc := 20) dX4_noteMap_20 sx_m0 ?_
    refine sv_getO (pc := 21) hG dX4_noteMap_21 f_4_9 lay_29 rfl cr_29_0 ?_
    refine sx_aload_n (pc := 24) dX4_noteMap_24 sx_m0 ?_
    refine sv_getO (pc := 25) hG dX4_noteMap_25 f_4_9 lay_29 rfl cr_29_0 ?_
    refine sv_getA (pc := 28) hG dX4_noteMap_28 f_4_115 lay_2 rfl cr_2_3 ?_
    refine sx_iconst (pc := 31) (v := 0) dX4_noteMap_31 (by decide) ?_
    refine sv_iald (pc := 32) hG dX4_noteMap_32 lay_4 (by decide) ?_
    refine sx_lload_n (pc := 33) dX4_noteMap_33 sx_m1 ?_
    refine sx_l2i (pc := 34) dX4_noteMap_34 ?_
    refine sx_iadd (pc := 35) dX4_noteMap_35 ?_
    obtain ⟨V2, hV2⟩ : ∃ z : sv_V, z = sv_I V 2 12 ((V.1 4 (0 : Int32).toNatClampNeg) + l1.toInt32) := ⟨_, rfl⟩
    have h := sx_letE hV2 h
    refine sv_putI (pc := 36) hG dX4_noteMap_36 f_4_181 lay_2 rfl hV2 ?_
    refine sx_aload_n (pc := 39) dX4_noteMap_39 sx_m0 ?_
    refine sv_getO (pc := 40) hG dX4_noteMap_40 f_4_9 lay_29 rfl cr_29_0 ?_
    refine sx_iload (pc := 43) dX4_noteMap_43 sx_m3 ?_
    obtain ⟨V3, hV3⟩ : ∃ z : sv_V, z = sv_I V2 2 11 l4 := ⟨_, rfl⟩
    have h := sx_letE hV3 h
    refine sv_putI (pc := 45) hG dX4_noteMap_45 f_4_184 lay_2 rfl hV3 ?_
    refine sx_aload_n (pc := 48) dX4_noteMap_48 sx_m0 ?_
    refine sv_getO (pc := 49) hG dX4_noteMap_49 f_4_9 lay_29 rfl cr_29_0 ?_
    refine sx_aload_n (pc := 52) dX4_noteMap_52 sx_m0 ?_
    refine sv_getO (pc := 53) hG dX4_noteMap_53 f_4_9 lay_29 rfl cr_29_0 ?_
    refine sv_getI (pc := 56) hG dX4_noteMap_56 f_4_181 lay_2 rfl ?_
    obtain ⟨⟨x6, V4⟩, g5, h⟩ := sx_bnd h
    refine sv_cV (pc := 59) (y := qX2_u2) (o := (some (.int x6))) (as := [.int (V3.1 2 12)]) (V1 := V4) hG dX4_noteMap_59 l_X4_64 y0X2_u2 yvX2_u2 rfl (Nat.le_of_ble_eq_true rfl) lay_2 kr_2 (by decide) (Nat.le_of_ble_eq_true rfl) rfl rfl rfl (t_X2_u2 hG ⟨rfl, rfl⟩ g5) ?_
    refine sx_iload (pc := 62) dX4_noteMap_62 sx_m3 ?_
    refine sx_icmp_ne (pc := 64) (tgt := 71) dX4_noteMap_64 (by decide) (fun c7 => ?_) (fun c7 => ?_)
    · have h := sx_neg c7 h
      refine sx_iconst (pc := 71) (v := 0) dX4_noteMap_71 (by decide) ?_
      exact sv_zret (pc := 72) dX4_noteMap_72 rfl rfl h hP
    · have h := sx_pos c7 h
      refine sx_iconst (pc := 67) (v := 1) dX4_noteMap_67 (by decide) ?_
      refine sx_goto (pc := 68) (tgt := 72) dX4_noteMap_68 (by decide) ?_
      exact sv_zret (pc := 72) dX4_noteMap_72 rfl rfl h hP
  · have h := sx_neg c1 h
    refine sx_iconst (pc := 18) (v := 0) dX4_noteMap_18 (by decide) ?_
    exact sv_zret (pc := 19) dX4_noteMap_19 rfl rfl h hP
def ncX4_byteMapHolds : Nat := 2097568454308510634974354177011055026369204773908397047362353180930874120060944754295370330037769182803134551807059356512368909937567653653689386
theorem kcX4_byteMapHolds : CK cX4_byteMapHolds ncX4_byteMapHolds 60 := ⟨by decide +kernel, by decide +kernel⟩
theorem dX4_byteMapHolds_0 : decode cX4_byteMapHolds 0 = .ok (.aload_n 0, 1) := dl_o42 kcX4_byteMapHolds (by decide +kernel)
theorem dX4_byteMapHolds_1 : decode cX4_byteMapHolds 1 = .ok (.getfield 9, 3) := dl_o180 kcX4_byteMapHolds (by decide +kernel)
theorem dX4_byteMapHolds_4 : decode cX4_byteMapHolds 4 = .ok (.sipush 262, 3) := dl_o17 kcX4_byteMapHolds 262 (by decide +kernel) (by decide +kernel)
theorem dX4_byteMapHolds_7 : decode cX4_byteMapHolds 7 = .ok (.putfield 187, 3) := dl_o181 kcX4_byteMapHolds (by decide +kernel)
theorem dX4_byteMapHolds_10 : decode cX4_byteMapHolds 10 = .ok (.aload_n 0, 1) := dl_o42 kcX4_byteMapHolds (by decide +kernel)
theorem dX4_byteMapHolds_11 : decode cX4_byteMapHolds 11 = .ok (.getfield 9, 3) := dl_o180 kcX4_byteMapHolds (by decide +kernel)
theorem dX4_byteMapHolds_14 : decode cX4_byteMapHolds 14 = .ok (.sipush 256, 3) := dl_o17 kcX4_byteMapHolds 256 (by decide +kernel) (by decide +kernel)
theorem dX4_byteMapHolds_17 : decode cX4_byteMapHolds 17 = .ok (.putfield 190, 3) := dl_o181 kcX4_byteMapHolds (by decide +kernel)
theorem dX4_byteMapHolds_20 : decode cX4_byteMapHolds 20 = .ok (.aload_n 0, 1) := dl_o42 kcX4_byteMapHolds (by decide +kernel)
theorem dX4_byteMapHolds_21 : decode cX4_byteMapHolds 21 = .ok (.lload_n 1, 1) := dl_o31 kcX4_byteMapHolds (by decide +kernel)
theorem dX4_byteMapHolds_22 : decode cX4_byteMapHolds 22 = .ok (.sipush 262, 3) := dl_o17 kcX4_byteMapHolds 262 (by decide +kernel) (by decide +kernel)
theorem dX4_byteMapHolds_25 : decode cX4_byteMapHolds 25 = .ok (.iconst 0, 1) := dl_o3 kcX4_byteMapHolds (by decide +kernel)
theorem dX4_byteMapHolds_26 : decode cX4_byteMapHolds 26 = .ok (.invokevirtual 193, 3) := dl_o182 kcX4_byteMapHolds (by decide +kernel)
theorem dX4_byteMapHolds_29 : decode cX4_byteMapHolds 29 = .ok (.ifCond .eq 29, 3) := dl_o153 kcX4_byteMapHolds 29 (by decide +kernel) (by decide +kernel)
theorem dX4_byteMapHolds_32 : decode cX4_byteMapHolds 32 = .ok (.aload_n 0, 1) := dl_o42 kcX4_byteMapHolds (by decide +kernel)
theorem dX4_byteMapHolds_33 : decode cX4_byteMapHolds 33 = .ok (.getfield 9, 3) := dl_o180 kcX4_byteMapHolds (by decide +kernel)
theorem dX4_byteMapHolds_36 : decode cX4_byteMapHolds 36 = .ok (.aload_n 0, 1) := dl_o42 kcX4_byteMapHolds (by decide +kernel)
theorem dX4_byteMapHolds_37 : decode cX4_byteMapHolds 37 = .ok (.getfield 9, 3) := dl_o180 kcX4_byteMapHolds (by decide +kernel)
theorem dX4_byteMapHolds_40 : decode cX4_byteMapHolds 40 = .ok (.getfield 181, 3) := dl_o180 kcX4_byteMapHolds (by decide +kernel)
theorem dX4_byteMapHolds_43 : decode cX4_byteMapHolds 43 = .ok (.iconst 2, 1) := dl_o5 kcX4_byteMapHolds (by decide +kernel)
theorem dX4_byteMapHolds_44 : decode cX4_byteMapHolds 44 = .ok (.iadd, 1) := dl_o96 kcX4_byteMapHolds (by decide +kernel)
theorem dX4_byteMapHolds_45 : decode cX4_byteMapHolds 45 = .ok (.invokevirtual 64, 3) := dl_o182 kcX4_byteMapHolds (by decide +kernel)
theorem dX4_byteMapHolds_48 : decode cX4_byteMapHolds 48 = .ok (.sipush 262, 3) := dl_o17 kcX4_byteMapHolds 262 (by decide +kernel) (by decide +kernel)
theorem dX4_byteMapHolds_51 : decode cX4_byteMapHolds 51 = .ok (.if_icmp .ne 7, 3) := dl_o160 kcX4_byteMapHolds 7 (by decide +kernel) (by decide +kernel)
theorem dX4_byteMapHolds_54 : decode cX4_byteMapHolds 54 = .ok (.iconst 1, 1) := dl_o4 kcX4_byteMapHolds (by decide +kernel)
theorem dX4_byteMapHolds_55 : decode cX4_byteMapHolds 55 = .ok (.goto 4, 3) := dl_o167 kcX4_byteMapHolds 4 (by decide +kernel) (by decide +kernel)
theorem dX4_byteMapHolds_58 : decode cX4_byteMapHolds 58 = .ok (.iconst 0, 1) := dl_o3 kcX4_byteMapHolds (by decide +kernel)
theorem dX4_byteMapHolds_59 : decode cX4_byteMapHolds 59 = .ok (.ireturn, 1) := dl_o172 kcX4_byteMapHolds (by decide +kernel)
def F_X4_byteMapHolds (l1 : Int64) (V : sv_V) : Option (Int32 × sv_V) := sx_let (sv_I V 2 13 (262 : Int32)) (fun V1 => sx_let (sv_I V1 2 14 (256 : Int32)) (fun V2 => (F_X4_noteMap l1 (262 : Int32) (0 : Int32) V2).bind (fun (x5, V3) => if x5 = 0 then (some ((0 : Int32), V3)) else ((F_X2_u2 ((V3.1 2 12) + (2 : Int32)) V3).bind (fun (x9, V7) => if x9 = (262 : Int32) then (some ((1 : Int32), V7)) else (some ((0 : Int32), V7)))))))
set_option maxRecDepth 20000 in
theorem t_X4_byteMapHolds {g : sx_G} (hG : sx_Go g) {P : Option Value → sv_V → Prop} {r : Int32} {Vr : sv_V} (hP : P (some (.int r)) Vr) {l1 : Int64} {V : sv_V} (h : F_X4_byteMapHolds l1 V = some (r, Vr)) : sv_N g qX4_byteMapHolds 2 0 [(0, .ref 29), (1, .long l1)] [] V P := by
  unfold F_X4_byteMapHolds at h
  refine sx_aload_n (pc := 0) dX4_byteMapHolds_0 sx_m0 ?_
  refine sv_getO (pc := 1) hG dX4_byteMapHolds_1 f_4_9 lay_29 rfl cr_29_0 ?_
  refine sx_sipush (pc := 4) (v := 262) dX4_byteMapHolds_4 (by decide) ?_
  obtain ⟨V1, hV1⟩ : ∃ z : sv_V, z = sv_I V 2 13 (262 : Int32) := ⟨_, rfl⟩
  have h := sx_letE hV1 h
  refine sv_putI (pc := 7) hG dX4_byteMapHolds_7 f_4_187 lay_2 rfl hV1 ?_
  refine sx_aload_n (pc := 10) dX4_byteMapHolds_10 sx_m0 ?_
  refine sv_getO (pc := 11) hG dX4_byteMapHolds_11 f_4_9 lay_29 rfl cr_29_0 ?_
  refine sx_sipush (pc := 14) (v := 256) dX4_byteMapHolds_14 (by decide) ?_
  obtain ⟨V2, hV2⟩ : ∃ z : sv_V, z = sv_I V1 2 14 (256 : Int32) := ⟨_, rfl⟩
  have h := sx_letE hV2 h
  refine sv_putI (pc := 17) hG dX4_byteMapHolds_17 f_4_190 lay_2 rfl hV2 ?_
  refine sx_aload_n (pc := 20) dX4_byteMapHolds_20 sx_m0 ?_
  refine sx_lload_n (pc := 21) dX4_byteMapHolds_21 sx_m1 ?_
  refine sx_sipush (pc := 22) (v := 262) dX4_byteMapHolds_22 (by decide) ?_
  refine sx_iconst (pc := 25) (v := 0) dX4_byteMapHolds_25 (by decide) ?_
  obtain ⟨⟨x5, V3⟩, g4, h⟩ := sx_bnd h
  refine sv_cV (pc := 26) (y := qX4_noteMap) (o := (some (.int x5))) (as := [.long l1, .int (262 : Int32), .int (0 : Int32)]) (V1 := V3) hG dX4_byteMapHolds_26 l_X4_193 y0X4_noteMap yvX4_noteMap rfl (Nat.le_of_ble_eq_true rfl) lay_29 kr_4 (by decide) (Nat.le_of_ble_eq_true rfl) rfl rfl rfl (t_X4_noteMap hG ⟨rfl, rfl⟩ g4) ?_
  refine sx_if_eq (pc := 29) (tgt := 58) dX4_byteMapHolds_29 (by decide) (fun c6 => ?_) (fun c6 => ?_)
  · have h := sx_pos c6 h
    refine sx_iconst (pc := 58) (v := 0) dX4_byteMapHolds_58 (by decide) ?_
    exact sv_zret (pc := 59) dX4_byteMapHolds_59 rfl rfl h hP
  · have h := sx_neg c6 h
    refine sx_aload_n (pc := 32) dX4_byteMapHolds_32 sx_m0 ?_
    refine sv_getO (pc := 33) hG dX4_byteMapHolds_33 f_4_9 lay_29 rfl cr_29_0 ?_
    refine sx_aload_n (pc := 36) dX4_byteMapHolds_36 sx_m0 ?_
    refine sv_getO (pc := 37) hG dX4_byteMapHolds_37 f_4_9 lay_29 rfl cr_29_0 ?_
    refine sv_getI (pc := 40) hG dX4_byteMapHolds_40 f_4_181 lay_2 rfl ?_
    refine sx_iconst (pc := 43) (v := 2) dX4_byteMapHolds_43 (by decide) ?_
    refine sx_iadd (pc := 44) dX4_byteMapHolds_44 ?_
    obtain ⟨⟨x9, V7⟩, g8, h⟩ := sx_bnd h
    refine sv_cV (pc := 45) (y := qX2_u2) (o := (some (.int x9))) (as := [.int ((V3.1 2 12) + (2 : Int32))]) (V1 := V7) hG dX4_byteMapHolds_45 l_X4_64 y0X2_u2 yvX2_u2 rfl (Nat.le_of_ble_eq_true rfl) lay_2 kr_2 (by decide) (Nat.le_of_ble_eq_true rfl) rfl rfl rfl (t_X2_u2 hG ⟨rfl, rfl⟩ g8) ?_
    refine sx_sipush (pc := 48) (v := 262) dX4_byteMapHolds_48 (by decide) ?_
    refine sx_icmp_ne (pc := 51) (tgt := 58) dX4_byteMapHolds_51 (by decide) (fun c10 => ?_) (fun c10 => ?_)
    · have h := sx_neg c10 h
      refine sx_iconst (pc := 58) (v := 0) dX4_byteMapHolds_58 (by decide) ?_
      exact sv_zret (pc := 59) dX4_byteMapHolds_59 rfl rfl h hP
    · have h := sx_pos c10 h
      refine sx_iconst (pc := 54) (v := 1) dX4_byteMapHolds_54 (by decide) ?_
      refine sx_goto (pc := 55) (tgt := 59) dX4_byteMapHolds_55 (by decide) ?_
      exact sv_zret (pc := 59) dX4_byteMapHolds_59 rfl rfl h hP
def ncX4_segmentsHold : Nat := 331336601550018663168657775600835193814764212404345085834083535708773071289140758811408389801166004671016186438529226234553465240107005773604416416745471192271493917275824307710467784188138245974173129467790196682352547285566083825959945239285260805443980809223990580628967565266340858207080326950789228791757251725139971464616284331574057962185568606732751492462828899209436517843340357450790284382169236400963697361309500717677363268710960245499206225438058713824886737389203015223780946444774454929876843581578253741885899636970894398043573285610616025106716584995255646301986287916401285682802209220719550250
theorem kcX4_segmentsHold : CK cX4_segmentsHold ncX4_segmentsHold 254 := ⟨by decide +kernel, by decide +kernel⟩
theorem dX4_segmentsHold_0 : decode cX4_segmentsHold 0 = .ok (.aload_n 0, 1) := dl_o42 kcX4_segmentsHold (by decide +kernel)
theorem dX4_segmentsHold_1 : decode cX4_segmentsHold 1 = .ok (.lload_n 1, 1) := dl_o31 kcX4_segmentsHold (by decide +kernel)
theorem dX4_segmentsHold_2 : decode cX4_segmentsHold 2 = .ok (.bipush 14, 2) := dl_o16 kcX4_segmentsHold 14 (by decide +kernel) (by decide +kernel)
theorem dX4_segmentsHold_4 : decode cX4_segmentsHold 4 = .ok (.iconst 4, 1) := dl_o7 kcX4_segmentsHold (by decide +kernel)
theorem dX4_segmentsHold_5 : decode cX4_segmentsHold 5 = .ok (.invokevirtual 193, 3) := dl_o182 kcX4_segmentsHold (by decide +kernel)
theorem dX4_segmentsHold_8 : decode cX4_segmentsHold 8 = .ok (.ifCond .ne 5, 3) := dl_o154 kcX4_segmentsHold 5 (by decide +kernel) (by decide +kernel)
theorem dX4_segmentsHold_11 : decode cX4_segmentsHold 11 = .ok (.iconst 0, 1) := dl_o3 kcX4_segmentsHold (by decide +kernel)
theorem dX4_segmentsHold_12 : decode cX4_segmentsHold 12 = .ok (.ireturn, 1) := dl_o172 kcX4_segmentsHold (by decide +kernel)
theorem dX4_segmentsHold_13 : decode cX4_segmentsHold 13 = .ok (.aload_n 0, 1) := dl_o42 kcX4_segmentsHold (by decide +kernel)
theorem dX4_segmentsHold_14 : decode cX4_segmentsHold 14 = .ok (.getfield 9, 3) := dl_o180 kcX4_segmentsHold (by decide +kernel)
theorem dX4_segmentsHold_17 : decode cX4_segmentsHold 17 = .ok (.getfield 181, 3) := dl_o180 kcX4_segmentsHold (by decide +kernel)
theorem dX4_segmentsHold_20 : decode cX4_segmentsHold 20 = .ok (.istore_n 3, 1) := dl_o62 kcX4_segmentsHold (by decide +kernel)
theorem dX4_segmentsHold_21 : decode cX4_segmentsHold 21 = .ok (.aload_n 0, 1) := dl_o42 kcX4_segmentsHold (by decide +kernel)
theorem dX4_segmentsHold_22 : decode cX4_segmentsHold 22 = .ok (.getfield 9, 3) := dl_o180 kcX4_segmentsHold (by decide +kernel)
theorem dX4_segmentsHold_25 : decode cX4_segmentsHold 25 = .ok (.iload_n 3, 1) := dl_o29 kcX4_segmentsHold (by decide +kernel)
theorem dX4_segmentsHold_26 : decode cX4_segmentsHold 26 = .ok (.bipush 6, 2) := dl_o16 kcX4_segmentsHold 6 (by decide +kernel) (by decide +kernel)
theorem dX4_segmentsHold_28 : decode cX4_segmentsHold 28 = .ok (.iadd, 1) := dl_o96 kcX4_segmentsHold (by decide +kernel)
theorem dX4_segmentsHold_29 : decode cX4_segmentsHold 29 = .ok (.invokevirtual 64, 3) := dl_o182 kcX4_segmentsHold (by decide +kernel)
theorem dX4_segmentsHold_32 : decode cX4_segmentsHold 32 = .ok (.istore 4, 2) := dl_o54 kcX4_segmentsHold (by decide +kernel)
theorem dX4_segmentsHold_34 : decode cX4_segmentsHold 34 = .ok (.iload 4, 2) := dl_o21 kcX4_segmentsHold (by decide +kernel)
theorem dX4_segmentsHold_36 : decode cX4_segmentsHold 36 = .ok (.iconst 2, 1) := dl_o5 kcX4_segmentsHold (by decide +kernel)
theorem dX4_segmentsHold_37 : decode cX4_segmentsHold 37 = .ok (.idiv, 1) := dl_o108 kcX4_segmentsHold (by decide +kernel)
theorem dX4_segmentsHold_38 : decode cX4_segmentsHold 38 = .ok (.istore 5, 2) := dl_o54 kcX4_segmentsHold (by decide +kernel)
theorem dX4_segmentsHold_40 : decode cX4_segmentsHold 40 = .ok (.aload_n 0, 1) := dl_o42 kcX4_segmentsHold (by decide +kernel)
theorem dX4_segmentsHold_41 : decode cX4_segmentsHold 41 = .ok (.getfield 9, 3) := dl_o180 kcX4_segmentsHold (by decide +kernel)
theorem dX4_segmentsHold_44 : decode cX4_segmentsHold 44 = .ok (.aload_n 0, 1) := dl_o42 kcX4_segmentsHold (by decide +kernel)
theorem dX4_segmentsHold_45 : decode cX4_segmentsHold 45 = .ok (.getfield 9, 3) := dl_o180 kcX4_segmentsHold (by decide +kernel)
theorem dX4_segmentsHold_48 : decode cX4_segmentsHold 48 = .ok (.iload_n 3, 1) := dl_o29 kcX4_segmentsHold (by decide +kernel)
theorem dX4_segmentsHold_49 : decode cX4_segmentsHold 49 = .ok (.iconst 2, 1) := dl_o5 kcX4_segmentsHold (by decide +kernel)
theorem dX4_segmentsHold_50 : decode cX4_segmentsHold 50 = .ok (.iadd, 1) := dl_o96 kcX4_segmentsHold (by decide +kernel)
theorem dX4_segmentsHold_51 : decode cX4_segmentsHold 51 = .ok (.invokevirtual 64, 3) := dl_o182 kcX4_segmentsHold (by decide +kernel)
theorem dX4_segmentsHold_54 : decode cX4_segmentsHold 54 = .ok (.putfield 187, 3) := dl_o181 kcX4_segmentsHold (by decide +kernel)
theorem dX4_segmentsHold_57 : decode cX4_segmentsHold 57 = .ok (.aload_n 0, 1) := dl_o42 kcX4_segmentsHold (by decide +kernel)
theorem dX4_segmentsHold_58 : decode cX4_segmentsHold 58 = .ok (.getfield 9, 3) := dl_o180 kcX4_segmentsHold (by decide +kernel)
theorem dX4_segmentsHold_61 : decode cX4_segmentsHold 61 = .ok (.iload 5, 2) := dl_o21 kcX4_segmentsHold (by decide +kernel)
theorem dX4_segmentsHold_63 : decode cX4_segmentsHold 63 = .ok (.putfield 190, 3) := dl_o181 kcX4_segmentsHold (by decide +kernel)
theorem dX4_segmentsHold_66 : decode cX4_segmentsHold 66 = .ok (.lload_n 1, 1) := dl_o31 kcX4_segmentsHold (by decide +kernel)
theorem dX4_segmentsHold_67 : decode cX4_segmentsHold 67 = .ok (.aload_n 0, 1) := dl_o42 kcX4_segmentsHold (by decide +kernel)
theorem dX4_segmentsHold_68 : decode cX4_segmentsHold 68 = .ok (.getfield 9, 3) := dl_o180 kcX4_segmentsHold (by decide +kernel)
theorem dX4_segmentsHold_71 : decode cX4_segmentsHold 71 = .ok (.getfield 187, 3) := dl_o180 kcX4_segmentsHold (by decide +kernel)
theorem dX4_segmentsHold_74 : decode cX4_segmentsHold 74 = .ok (.i2l, 1) := dl_o133 kcX4_segmentsHold (by decide +kernel)
theorem dX4_segmentsHold_75 : decode cX4_segmentsHold 75 = .ok (.ladd, 1) := dl_o97 kcX4_segmentsHold (by decide +kernel)
theorem dX4_segmentsHold_76 : decode cX4_segmentsHold 76 = .ok (.aload_n 0, 1) := dl_o42 kcX4_segmentsHold (by decide +kernel)
theorem dX4_segmentsHold_77 : decode cX4_segmentsHold 77 = .ok (.getfield 9, 3) := dl_o180 kcX4_segmentsHold (by decide +kernel)
theorem dX4_segmentsHold_80 : decode cX4_segmentsHold 80 = .ok (.getfield 118, 3) := dl_o180 kcX4_segmentsHold (by decide +kernel)
theorem dX4_segmentsHold_83 : decode cX4_segmentsHold 83 = .ok (.iconst 0, 1) := dl_o3 kcX4_segmentsHold (by decide +kernel)
theorem dX4_segmentsHold_84 : decode cX4_segmentsHold 84 = .ok (.iaload, 1) := dl_o46 kcX4_segmentsHold (by decide +kernel)
theorem dX4_segmentsHold_85 : decode cX4_segmentsHold 85 = .ok (.i2l, 1) := dl_o133 kcX4_segmentsHold (by decide +kernel)
theorem dX4_segmentsHold_86 : decode cX4_segmentsHold 86 = .ok (.lcmp, 1) := dl_o148 kcX4_segmentsHold (by decide +kernel)
theorem dX4_segmentsHold_87 : decode cX4_segmentsHold 87 = .ok (.ifCond .gt 41, 3) := dl_o157 kcX4_segmentsHold 41 (by decide +kernel) (by decide +kernel)
theorem dX4_segmentsHold_90 : decode cX4_segmentsHold 90 = .ok (.iload 4, 2) := dl_o21 kcX4_segmentsHold (by decide +kernel)
theorem dX4_segmentsHold_92 : decode cX4_segmentsHold 92 = .ok (.iconst 2, 1) := dl_o5 kcX4_segmentsHold (by decide +kernel)
theorem dX4_segmentsHold_93 : decode cX4_segmentsHold 93 = .ok (.irem, 1) := dl_o112 kcX4_segmentsHold (by decide +kernel)
theorem dX4_segmentsHold_94 : decode cX4_segmentsHold 94 = .ok (.ifCond .ne 34, 3) := dl_o154 kcX4_segmentsHold 34 (by decide +kernel) (by decide +kernel)
theorem dX4_segmentsHold_97 : decode cX4_segmentsHold 97 = .ok (.iload 5, 2) := dl_o21 kcX4_segmentsHold (by decide +kernel)
theorem dX4_segmentsHold_99 : decode cX4_segmentsHold 99 = .ok (.iconst 1, 1) := dl_o4 kcX4_segmentsHold (by decide +kernel)
theorem dX4_segmentsHold_100 : decode cX4_segmentsHold 100 = .ok (.if_icmp .lt 28, 3) := dl_o161 kcX4_segmentsHold 28 (by decide +kernel) (by decide +kernel)
theorem dX4_segmentsHold_103 : decode cX4_segmentsHold 103 = .ok (.iload 5, 2) := dl_o21 kcX4_segmentsHold (by decide +kernel)
theorem dX4_segmentsHold_105 : decode cX4_segmentsHold 105 = .ok (.bipush 40, 2) := dl_o16 kcX4_segmentsHold 40 (by decide +kernel) (by decide +kernel)
theorem dX4_segmentsHold_107 : decode cX4_segmentsHold 107 = .ok (.if_icmp .gt 21, 3) := dl_o163 kcX4_segmentsHold 21 (by decide +kernel) (by decide +kernel)
theorem dX4_segmentsHold_110 : decode cX4_segmentsHold 110 = .ok (.bipush 16, 2) := dl_o16 kcX4_segmentsHold 16 (by decide +kernel) (by decide +kernel)
theorem dX4_segmentsHold_112 : decode cX4_segmentsHold 112 = .ok (.bipush 8, 2) := dl_o16 kcX4_segmentsHold 8 (by decide +kernel) (by decide +kernel)
theorem dX4_segmentsHold_114 : decode cX4_segmentsHold 114 = .ok (.iload 5, 2) := dl_o21 kcX4_segmentsHold (by decide +kernel)
theorem dX4_segmentsHold_116 : decode cX4_segmentsHold 116 = .ok (.imul, 1) := dl_o104 kcX4_segmentsHold (by decide +kernel)
theorem dX4_segmentsHold_117 : decode cX4_segmentsHold 117 = .ok (.iadd, 1) := dl_o96 kcX4_segmentsHold (by decide +kernel)
theorem dX4_segmentsHold_118 : decode cX4_segmentsHold 118 = .ok (.aload_n 0, 1) := dl_o42 kcX4_segmentsHold (by decide +kernel)
theorem dX4_segmentsHold_119 : decode cX4_segmentsHold 119 = .ok (.getfield 9, 3) := dl_o180 kcX4_segmentsHold (by decide +kernel)
theorem dX4_segmentsHold_122 : decode cX4_segmentsHold 122 = .ok (.getfield 187, 3) := dl_o180 kcX4_segmentsHold (by decide +kernel)
theorem dX4_segmentsHold_125 : decode cX4_segmentsHold 125 = .ok (.if_icmp .le 5, 3) := dl_o164 kcX4_segmentsHold 5 (by decide +kernel) (by decide +kernel)
theorem dX4_segmentsHold_128 : decode cX4_segmentsHold 128 = .ok (.iconst 0, 1) := dl_o3 kcX4_segmentsHold (by decide +kernel)
theorem dX4_segmentsHold_129 : decode cX4_segmentsHold 129 = .ok (.ireturn, 1) := dl_o172 kcX4_segmentsHold (by decide +kernel)
theorem dX4_segmentsHold_130 : decode cX4_segmentsHold 130 = .ok (.iconst (-1), 1) := dl_o2 kcX4_segmentsHold (by decide +kernel)
theorem dX4_segmentsHold_131 : decode cX4_segmentsHold 131 = .ok (.istore 6, 2) := dl_o54 kcX4_segmentsHold (by decide +kernel)
theorem dX4_segmentsHold_133 : decode cX4_segmentsHold 133 = .ok (.iconst 0, 1) := dl_o3 kcX4_segmentsHold (by decide +kernel)
theorem dX4_segmentsHold_134 : decode cX4_segmentsHold 134 = .ok (.istore 7, 2) := dl_o54 kcX4_segmentsHold (by decide +kernel)
theorem dX4_segmentsHold_136 : decode cX4_segmentsHold 136 = .ok (.iload 7, 2) := dl_o21 kcX4_segmentsHold (by decide +kernel)
theorem dX4_segmentsHold_138 : decode cX4_segmentsHold 138 = .ok (.iload 5, 2) := dl_o21 kcX4_segmentsHold (by decide +kernel)
theorem dX4_segmentsHold_140 : decode cX4_segmentsHold 140 = .ok (.if_icmp .ge 101, 3) := dl_o162 kcX4_segmentsHold 101 (by decide +kernel) (by decide +kernel)
theorem dX4_segmentsHold_143 : decode cX4_segmentsHold 143 = .ok (.aload_n 0, 1) := dl_o42 kcX4_segmentsHold (by decide +kernel)
theorem dX4_segmentsHold_144 : decode cX4_segmentsHold 144 = .ok (.getfield 9, 3) := dl_o180 kcX4_segmentsHold (by decide +kernel)
theorem dX4_segmentsHold_147 : decode cX4_segmentsHold 147 = .ok (.iload_n 3, 1) := dl_o29 kcX4_segmentsHold (by decide +kernel)
theorem dX4_segmentsHold_148 : decode cX4_segmentsHold 148 = .ok (.bipush 14, 2) := dl_o16 kcX4_segmentsHold 14 (by decide +kernel) (by decide +kernel)
theorem dX4_segmentsHold_150 : decode cX4_segmentsHold 150 = .ok (.iadd, 1) := dl_o96 kcX4_segmentsHold (by decide +kernel)
theorem dX4_segmentsHold_151 : decode cX4_segmentsHold 151 = .ok (.iconst 2, 1) := dl_o5 kcX4_segmentsHold (by decide +kernel)
theorem dX4_segmentsHold_152 : decode cX4_segmentsHold 152 = .ok (.iload 7, 2) := dl_o21 kcX4_segmentsHold (by decide +kernel)
theorem dX4_segmentsHold_154 : decode cX4_segmentsHold 154 = .ok (.imul, 1) := dl_o104 kcX4_segmentsHold (by decide +kernel)
theorem dX4_segmentsHold_155 : decode cX4_segmentsHold 155 = .ok (.iadd, 1) := dl_o96 kcX4_segmentsHold (by decide +kernel)
theorem dX4_segmentsHold_156 : decode cX4_segmentsHold 156 = .ok (.invokevirtual 64, 3) := dl_o182 kcX4_segmentsHold (by decide +kernel)
theorem dX4_segmentsHold_159 : decode cX4_segmentsHold 159 = .ok (.istore 8, 2) := dl_o54 kcX4_segmentsHold (by decide +kernel)
theorem dX4_segmentsHold_161 : decode cX4_segmentsHold 161 = .ok (.aload_n 0, 1) := dl_o42 kcX4_segmentsHold (by decide +kernel)
theorem dX4_segmentsHold_162 : decode cX4_segmentsHold 162 = .ok (.getfield 9, 3) := dl_o180 kcX4_segmentsHold (by decide +kernel)
theorem dX4_segmentsHold_165 : decode cX4_segmentsHold 165 = .ok (.iload_n 3, 1) := dl_o29 kcX4_segmentsHold (by decide +kernel)
theorem dX4_segmentsHold_166 : decode cX4_segmentsHold 166 = .ok (.bipush 16, 2) := dl_o16 kcX4_segmentsHold 16 (by decide +kernel) (by decide +kernel)
theorem dX4_segmentsHold_168 : decode cX4_segmentsHold 168 = .ok (.iadd, 1) := dl_o96 kcX4_segmentsHold (by decide +kernel)
theorem dX4_segmentsHold_169 : decode cX4_segmentsHold 169 = .ok (.iconst 2, 1) := dl_o5 kcX4_segmentsHold (by decide +kernel)
theorem dX4_segmentsHold_170 : decode cX4_segmentsHold 170 = .ok (.iload 5, 2) := dl_o21 kcX4_segmentsHold (by decide +kernel)
theorem dX4_segmentsHold_172 : decode cX4_segmentsHold 172 = .ok (.imul, 1) := dl_o104 kcX4_segmentsHold (by decide +kernel)
theorem dX4_segmentsHold_173 : decode cX4_segmentsHold 173 = .ok (.iadd, 1) := dl_o96 kcX4_segmentsHold (by decide +kernel)
theorem dX4_segmentsHold_174 : decode cX4_segmentsHold 174 = .ok (.iconst 2, 1) := dl_o5 kcX4_segmentsHold (by decide +kernel)
theorem dX4_segmentsHold_175 : decode cX4_segmentsHold 175 = .ok (.iload 7, 2) := dl_o21 kcX4_segmentsHold (by decide +kernel)
theorem dX4_segmentsHold_177 : decode cX4_segmentsHold 177 = .ok (.imul, 1) := dl_o104 kcX4_segmentsHold (by decide +kernel)
theorem dX4_segmentsHold_178 : decode cX4_segmentsHold 178 = .ok (.iadd, 1) := dl_o96 kcX4_segmentsHold (by decide +kernel)
theorem dX4_segmentsHold_179 : decode cX4_segmentsHold 179 = .ok (.invokevirtual 64, 3) := dl_o182 kcX4_segmentsHold (by decide +kernel)
theorem dX4_segmentsHold_182 : decode cX4_segmentsHold 182 = .ok (.istore 9, 2) := dl_o54 kcX4_segmentsHold (by decide +kernel)
theorem dX4_segmentsHold_184 : decode cX4_segmentsHold 184 = .ok (.aload_n 0, 1) := dl_o42 kcX4_segmentsHold (by decide +kernel)
theorem dX4_segmentsHold_185 : decode cX4_segmentsHold 185 = .ok (.getfield 9, 3) := dl_o180 kcX4_segmentsHold (by decide +kernel)
theorem dX4_segmentsHold_188 : decode cX4_segmentsHold 188 = .ok (.iload_n 3, 1) := dl_o29 kcX4_segmentsHold (by decide +kernel)
theorem dX4_segmentsHold_189 : decode cX4_segmentsHold 189 = .ok (.bipush 16, 2) := dl_o16 kcX4_segmentsHold 16 (by decide +kernel) (by decide +kernel)
theorem dX4_segmentsHold_191 : decode cX4_segmentsHold 191 = .ok (.iadd, 1) := dl_o96 kcX4_segmentsHold (by decide +kernel)
theorem dX4_segmentsHold_192 : decode cX4_segmentsHold 192 = .ok (.bipush 6, 2) := dl_o16 kcX4_segmentsHold 6 (by decide +kernel) (by decide +kernel)
theorem dX4_segmentsHold_194 : decode cX4_segmentsHold 194 = .ok (.iload 5, 2) := dl_o21 kcX4_segmentsHold (by decide +kernel)
theorem dX4_segmentsHold_196 : decode cX4_segmentsHold 196 = .ok (.imul, 1) := dl_o104 kcX4_segmentsHold (by decide +kernel)
theorem dX4_segmentsHold_197 : decode cX4_segmentsHold 197 = .ok (.iadd, 1) := dl_o96 kcX4_segmentsHold (by decide +kernel)
theorem dX4_segmentsHold_198 : decode cX4_segmentsHold 198 = .ok (.iconst 2, 1) := dl_o5 kcX4_segmentsHold (by decide +kernel)
theorem dX4_segmentsHold_199 : decode cX4_segmentsHold 199 = .ok (.iload 7, 2) := dl_o21 kcX4_segmentsHold (by decide +kernel)
theorem dX4_segmentsHold_201 : decode cX4_segmentsHold 201 = .ok (.imul, 1) := dl_o104 kcX4_segmentsHold (by decide +kernel)
theorem dX4_segmentsHold_202 : decode cX4_segmentsHold 202 = .ok (.iadd, 1) := dl_o96 kcX4_segmentsHold (by decide +kernel)
theorem dX4_segmentsHold_203 : decode cX4_segmentsHold 203 = .ok (.invokevirtual 64, 3) := dl_o182 kcX4_segmentsHold (by decide +kernel)
theorem dX4_segmentsHold_206 : decode cX4_segmentsHold 206 = .ok (.istore 10, 2) := dl_o54 kcX4_segmentsHold (by decide +kernel)
theorem dX4_segmentsHold_208 : decode cX4_segmentsHold 208 = .ok (.iload 8, 2) := dl_o21 kcX4_segmentsHold (by decide +kernel)
theorem dX4_segmentsHold_210 : decode cX4_segmentsHold 210 = .ok (.iload 6, 2) := dl_o21 kcX4_segmentsHold (by decide +kernel)
theorem dX4_segmentsHold_212 : decode cX4_segmentsHold 212 = .ok (.if_icmp .le 17, 3) := dl_o164 kcX4_segmentsHold 17 (by decide +kernel) (by decide +kernel)
theorem dX4_segmentsHold_215 : decode cX4_segmentsHold 215 = .ok (.iload 9, 2) := dl_o21 kcX4_segmentsHold (by decide +kernel)
theorem dX4_segmentsHold_217 : decode cX4_segmentsHold 217 = .ok (.iload 8, 2) := dl_o21 kcX4_segmentsHold (by decide +kernel)
theorem dX4_segmentsHold_219 : decode cX4_segmentsHold 219 = .ok (.if_icmp .gt 10, 3) := dl_o163 kcX4_segmentsHold 10 (by decide +kernel) (by decide +kernel)
theorem dX4_segmentsHold_222 : decode cX4_segmentsHold 222 = .ok (.iload 10, 2) := dl_o21 kcX4_segmentsHold (by decide +kernel)
theorem dX4_segmentsHold_224 : decode cX4_segmentsHold 224 = .ok (.iconst 2, 1) := dl_o5 kcX4_segmentsHold (by decide +kernel)
theorem dX4_segmentsHold_225 : decode cX4_segmentsHold 225 = .ok (.irem, 1) := dl_o112 kcX4_segmentsHold (by decide +kernel)
theorem dX4_segmentsHold_226 : decode cX4_segmentsHold 226 = .ok (.ifCond .eq 5, 3) := dl_o153 kcX4_segmentsHold 5 (by decide +kernel) (by decide +kernel)
theorem dX4_segmentsHold_229 : decode cX4_segmentsHold 229 = .ok (.iconst 0, 1) := dl_o3 kcX4_segmentsHold (by decide +kernel)
theorem dX4_segmentsHold_230 : decode cX4_segmentsHold 230 = .ok (.ireturn, 1) := dl_o172 kcX4_segmentsHold (by decide +kernel)
theorem dX4_segmentsHold_231 : decode cX4_segmentsHold 231 = .ok (.iload 8, 2) := dl_o21 kcX4_segmentsHold (by decide +kernel)
theorem dX4_segmentsHold_233 : decode cX4_segmentsHold 233 = .ok (.istore 6, 2) := dl_o54 kcX4_segmentsHold (by decide +kernel)
theorem dX4_segmentsHold_235 : decode cX4_segmentsHold 235 = .ok (.iinc 7 1, 3) := by decide +kernel
theorem dX4_segmentsHold_238 : decode cX4_segmentsHold 238 = .ok (.goto (-102), 3) := dl_o167 kcX4_segmentsHold 65434 (by decide +kernel) (by decide +kernel)
theorem dX4_segmentsHold_241 : decode cX4_segmentsHold 241 = .ok (.iload 6, 2) := dl_o21 kcX4_segmentsHold (by decide +kernel)
theorem dX4_segmentsHold_243 : decode cX4_segmentsHold 243 = .ok (.ldc 197, 2) := dl_o18 kcX4_segmentsHold (by decide +kernel)
theorem dX4_segmentsHold_245 : decode cX4_segmentsHold 245 = .ok (.if_icmp .ne 7, 3) := dl_o160 kcX4_segmentsHold 7 (by decide +kernel) (by decide +kernel)
theorem dX4_segmentsHold_248 : decode cX4_segmentsHold 248 = .ok (.iconst 1, 1) := dl_o4 kcX4_segmentsHold (by decide +kernel)
theorem dX4_segmentsHold_249 : decode cX4_segmentsHold 249 = .ok (.goto 4, 3) := dl_o167 kcX4_segmentsHold 4 (by decide +kernel) (by decide +kernel)
theorem dX4_segmentsHold_252 : decode cX4_segmentsHold 252 = .ok (.iconst 0, 1) := dl_o3 kcX4_segmentsHold (by decide +kernel)
theorem dX4_segmentsHold_253 : decode cX4_segmentsHold 253 = .ok (.ireturn, 1) := dl_o172 kcX4_segmentsHold (by decide +kernel)
def B_X4_segmentsHold_136 (N : Nat) (k136 : Int32 → Int32 → Int32 → Int32 → sv_V → Option (Int32 × sv_V)) (l3 : Int32) (l5 : Int32) (l6 : Int32) (l7 : Int32) (V : sv_V) : Option (Int32 × sv_V) := if l5 ≤ l7 then (if l6 = (65535 : Int32) then (some ((1 : Int32), V)) else (some ((0 : Int32), V))) else ((F_X2_u2 ((l3 + (14 : Int32)) + ((2 : Int32) * l7)) V).bind (fun (x5, V3) => (F_X2_u2 (((l3 + (16 : Int32)) + ((2 : Int32) * l5)) + ((2 : Int32) * l7)) V3).bind (fun (x8, V6) => (F_X2_u2 (((l3 + (16 : Int32)) + ((6 : Int32) * l5)) + ((2 : Int32) * l7)) V6).bind (fun (x11, V9) => if x5 ≤ l6 then (some ((0 : Int32), V9)) else (if x5 < x8 then (some ((0 : Int32), V9)) else (if (x11 - x11 / (2 : Int32) * (2 : Int32)) = 0 then (sx_let (l7 + 1) (fun x15 => k136 l3 l5 x5 x15 V9)) else (some ((0 : Int32), V9))))))))
set_option maxRecDepth 20000 in
theorem tB_X4_segmentsHold_136 {g : sx_G} (hG : sx_Go g) {P : Option Value → sv_V → Prop} {r : Int32} {Vr : sv_V} (hP : P (some (.int r)) Vr) {N : Nat} {k136 : Int32 → Int32 → Int32 → Int32 → sv_V → Option (Int32 × sv_V)} (hk136 : ∀ (l3 : Int32) (l5 : Int32) (l6 : Int32) (l7 : Int32) (V : sv_V), k136 l3 l5 l6 l7 V = some (r, Vr) → sv_N g qX4_segmentsHold 2 136 [(0, .ref 29), (3, .int l3), (5, .int l5), (6, .int l6), (7, .int l7)] [] V P) {l3 : Int32} {l5 : Int32} {l6 : Int32} {l7 : Int32} {V : sv_V} (h : B_X4_segmentsHold_136 N k136 l3 l5 l6 l7 V = some (r, Vr)) : sv_N g qX4_segmentsHold 2 136 [(0, .ref 29), (3, .int l3), (5, .int l5), (6, .int l6), (7, .int l7)] [] V P := by
  unfold B_X4_segmentsHold_136 at h
  refine sx_iload (pc := 136) dX4_segmentsHold_136 sx_m4 ?_
  refine sx_iload (pc := 138) dX4_segmentsHold_138 sx_m2 ?_
  refine sx_icmp_ge (pc := 140) (tgt := 241) dX4_segmentsHold_140 (by decide) (fun c1 => ?_) (fun c1 => ?_)
  · have h := sx_pos c1 h
    refine sx_iload (pc := 241) dX4_segmentsHold_241 sx_m3 ?_
    refine sx_ldc (pc := 243) dX4_segmentsHold_243 k_X4_197 ?_
    refine sx_icmp_ne (pc := 245) (tgt := 252) dX4_segmentsHold_245 (by decide) (fun c2 => ?_) (fun c2 => ?_)
    · have h := sx_neg c2 h
      refine sx_iconst (pc := 252) (v := 0) dX4_segmentsHold_252 (by decide) ?_
      exact sv_zret (pc := 253) dX4_segmentsHold_253 rfl rfl h hP
    · have h := sx_pos c2 h
      refine sx_iconst (pc := 248) (v := 1) dX4_segmentsHold_248 (by decide) ?_
      refine sx_goto (pc := 249) (tgt := 253) dX4_segmentsHold_249 (by decide) ?_
      exact sv_zret (pc := 253) dX4_segmentsHold_253 rfl rfl h hP
  · have h := sx_neg c1 h
    refine sx_aload_n (pc := 143) dX4_segmentsHold_143 sx_m0 ?_
    refine sv_getO (pc := 144) hG dX4_segmentsHold_144 f_4_9 lay_29 rfl cr_29_0 ?_
    refine sx_iload_n (pc := 147) dX4_segmentsHold_147 sx_m1 ?_
    refine sx_bipush (pc := 148) (v := 14) dX4_segmentsHold_148 (by decide) ?_
    refine sx_iadd (pc := 150) dX4_segmentsHold_150 ?_
    refine sx_iconst (pc := 151) (v := 2) dX4_segmentsHold_151 (by decide) ?_
    refine sx_iload (pc := 152) dX4_segmentsHold_152 sx_m4 ?_
    refine sx_imul (pc := 154) dX4_segmentsHold_154 ?_
    refine sx_iadd (pc := 155) dX4_segmentsHold_155 ?_
    obtain ⟨⟨x5, V3⟩, g4, h⟩ := sx_bnd h
    refine sv_cV (pc := 156) (y := qX2_u2) (o := (some (.int x5))) (as := [.int ((l3 + (14 : Int32)) + ((2 : Int32) * l7))]) (V1 := V3) hG dX4_segmentsHold_156 l_X4_64 y0X2_u2 yvX2_u2 rfl (Nat.le_of_ble_eq_true rfl) lay_2 kr_2 (by decide) (Nat.le_of_ble_eq_true rfl) rfl rfl rfl (t_X2_u2 hG ⟨rfl, rfl⟩ g4) ?_
    refine sx_istore (pc := 159) (lo' := [(8, .int x5), (0, .ref 29), (3, .int l3), (5, .int l5), (6, .int l6), (7, .int l7)]) dX4_segmentsHold_159 (by decide) rfl ?_
    refine sx_aload_n (pc := 161) dX4_segmentsHold_161 sx_m1 ?_
    refine sv_getO (pc := 162) hG dX4_segmentsHold_162 f_4_9 lay_29 rfl cr_29_0 ?_
    refine sx_iload_n (pc := 165) dX4_segmentsHold_165 sx_m2 ?_
    refine sx_bipush (pc := 166) (v := 16) dX4_segmentsHold_166 (by decide) ?_
    refine sx_iadd (pc := 168) dX4_segmentsHold_168 ?_
    refine sx_iconst (pc := 169) (v := 2) dX4_segmentsHold_169 (by decide) ?_
    refine sx_iload (pc := 170) dX4_segmentsHold_170 sx_m3 ?_
    refine sx_imul (pc := 172) dX4_segmentsHold_172 ?_
    refine sx_iadd (pc := 173) dX4_segmentsHold_173 ?_
    refine sx_iconst (pc := 174) (v := 2) dX4_segmentsHold_174 (by decide) ?_
    refine sx_iload (pc := 175) dX4_segmentsHold_175 sx_m5 ?_
    refine sx_imul (pc := 177) dX4_segmentsHold_177 ?_
    refine sx_iadd (pc := 178) dX4_segmentsHold_178 ?_
    obtain ⟨⟨x8, V6⟩, g7, h⟩ := sx_bnd h
    refine sv_cV (pc := 179) (y := qX2_u2) (o := (some (.int x8))) (as := [.int (((l3 + (16 : Int32)) + ((2 : Int32) * l5)) + ((2 : Int32) * l7))]) (V1 := V6) hG dX4_segmentsHold_179 l_X4_64 y0X2_u2 yvX2_u2 rfl (Nat.le_of_ble_eq_true rfl) lay_2 kr_2 (by decide) (Nat.le_of_ble_eq_true rfl) rfl rfl rfl (t_X2_u2 hG ⟨rfl, rfl⟩ g7) ?_
    refine sx_istore (pc := 182) (lo' := [(9, .int x8), (8, .int x5), (0, .ref 29), (3, .int l3), (5, .int l5), (6, .int l6), (7, .int l7)]) dX4_segmentsHold_182 (by decide) rfl ?_
    refine sx_aload_n (pc := 184) dX4_segmentsHold_184 sx_m2 ?_
    refine sv_getO (pc := 185) hG dX4_segmentsHold_185 f_4_9 lay_29 rfl cr_29_0 ?_
    refine sx_iload_n (pc := 188) dX4_segmentsHold_188 sx_m3 ?_
    refine sx_bipush (pc := 189) (v := 16) dX4_segmentsHold_189 (by decide) ?_
    refine sx_iadd (pc := 191) dX4_segmentsHold_191 ?_
    refine sx_bipush (pc := 192) (v := 6) dX4_segmentsHold_192 (by decide) ?_
    refine sx_iload (pc := 194) dX4_segmentsHold_194 sx_m4 ?_
    refine sx_imul (pc := 196) dX4_segmentsHold_196 ?_
    refine sx_iadd (pc := 197) dX4_segmentsHold_197 ?_
    refine sx_iconst (pc := 198) (v := 2) dX4_segmentsHold_198 (by decide) ?_
    refine sx_iload (pc := 199) dX4_segmentsHold_199 sx_m6 ?_
    refine sx_imul (pc := 201) dX4_segmentsHold_201 ?_
    refine sx_iadd (pc := 202) dX4_segmentsHold_202 ?_
    obtain ⟨⟨x11, V9⟩, g10, h⟩ := sx_bnd h
    refine sv_cV (pc := 203) (y := qX2_u2) (o := (some (.int x11))) (as := [.int (((l3 + (16 : Int32)) + ((6 : Int32) * l5)) + ((2 : Int32) * l7))]) (V1 := V9) hG dX4_segmentsHold_203 l_X4_64 y0X2_u2 yvX2_u2 rfl (Nat.le_of_ble_eq_true rfl) lay_2 kr_2 (by decide) (Nat.le_of_ble_eq_true rfl) rfl rfl rfl (t_X2_u2 hG ⟨rfl, rfl⟩ g10) ?_
    refine sx_istore (pc := 206) (lo' := [(10, .int x11), (9, .int x8), (8, .int x5), (0, .ref 29), (3, .int l3), (5, .int l5), (6, .int l6), (7, .int l7)]) dX4_segmentsHold_206 (by decide) rfl ?_
    refine sx_iload (pc := 208) dX4_segmentsHold_208 sx_m2 ?_
    refine sx_iload (pc := 210) dX4_segmentsHold_210 sx_m6 ?_
    refine sx_icmp_le (pc := 212) (tgt := 229) dX4_segmentsHold_212 (by decide) (fun c12 => ?_) (fun c12 => ?_)
    · have h := sx_pos c12 h
      refine sx_iconst (pc := 229) (v := 0) dX4_segmentsHold_229 (by decide) ?_
      exact sv_zret (pc := 230) dX4_segmentsHold_230 rfl rfl h hP
    · have h := sx_neg c12 h
      refine sx_iload (pc := 215) dX4_segmentsHold_215 sx_m1 ?_
      refine sx_iload (pc := 217) dX4_segmentsHold_217 sx_m2 ?_
      refine sx_icmp_gt (pc := 219) (tgt := 229) dX4_segmentsHold_219 (by decide) (fun c13 => ?_) (fun c13 => ?_)
      · have h := sx_pos c13 h
        refine sx_iconst (pc := 229) (v := 0) dX4_segmentsHold_229 (by decide) ?_
        exact sv_zret (pc := 230) dX4_segmentsHold_230 rfl rfl h hP
      · have h := sx_neg c13 h
        refine sx_iload (pc := 222) dX4_segmentsHold_222 sx_m0 ?_
        refine sx_iconst (pc := 224) (v := 2) dX4_segmentsHold_224 (by decide) ?_
        refine sx_irem (pc := 225) dX4_segmentsHold_225 (by decide) ?_
        refine sx_if_eq (pc := 226) (tgt := 231) dX4_segmentsHold_226 (by decide) (fun c14 => ?_) (fun c14 => ?_)
        · have h := sx_pos c14 h
          refine sx_iload (pc := 231) dX4_segmentsHold_231 sx_m2 ?_
          refine sx_istore (pc := 233) (lo' := [(6, .int x5), (10, .int x11), (9, .int x8), (8, .int x5), (0, .ref 29), (3, .int l3), (5, .int l5), (7, .int l7)]) dX4_segmentsHold_233 (by decide) rfl ?_
          obtain ⟨x15, hx15⟩ : ∃ z : Int32, z = l7 + 1 := ⟨_, rfl⟩
          have h := sx_letE hx15 h
          refine sx_iinc (pc := 235) (v := x15) (lo' := [(7, .int x15), (6, .int x5), (10, .int x11), (9, .int x8), (8, .int x5), (0, .ref 29), (3, .int l3), (5, .int l5)]) dX4_segmentsHold_235 sx_m7 (by rw [hx15]; rfl) (by decide) rfl ?_
          refine sx_goto (pc := 238) (tgt := 136) dX4_segmentsHold_238 (by decide) ?_
          refine sx_wk (sx_s1 sx_m5 (sx_s1 sx_m6 (sx_s1 sx_m7 (sx_s1 sx_m1 (sx_s1 sx_m0 sx_s0))))) ?_
          exact hk136 _ _ _ _ _ h
        · have h := sx_neg c14 h
          refine sx_iconst (pc := 229) (v := 0) dX4_segmentsHold_229 (by decide) ?_
          exact sv_zret (pc := 230) dX4_segmentsHold_230 rfl rfl h hP
theorem tL_X4_segmentsHold_136 {g : sx_G} (hG : sx_Go g) {P : Option Value → sv_V → Prop} {r : Int32} {Vr : sv_V} (hP : P (some (.int r)) Vr) {N : Nat}   : ∀ (n : Nat) (l3 : Int32) (l5 : Int32) (l6 : Int32) (l7 : Int32) (V : sv_V), sx_lp5 (B_X4_segmentsHold_136 N ) n l3 l5 l6 l7 V = some (r, Vr) → sv_N g qX4_segmentsHold 2 136 [(0, .ref 29), (3, .int l3), (5, .int l5), (6, .int l6), (7, .int l7)] [] V P :=
  sx_lp5_ind (fun k0 ih _ _ _ _ V h => tB_X4_segmentsHold_136 hG hP ih h)
def F_X4_segmentsHold (N : Nat) (l1 : Int64) (V : sv_V) : Option (Int32 × sv_V) := (F_X4_noteMap l1 (14 : Int32) (4 : Int32) V).bind (fun (x18, V16) => if x18 = 0 then (some ((0 : Int32), V16)) else (sx_let (V16.1 2 12) (fun x20 => (F_X2_u2 (x20 + (6 : Int32)) V16).bind (fun (x23, V21) => sx_let (x23 / (2 : Int32)) (fun x24 => (F_X2_u2 (x20 + (2 : Int32)) V21).bind (fun (x27, V25) => sx_let (sv_I V25 2 13 x27) (fun V28 => sx_let (sv_I V28 2 14 x24) (fun V29 => if 0 < (lg_cmp (l1 + ((V29.1 2 13).toInt64)) ((V29.1 5 (0 : Int32).toNatClampNeg).toInt64)) then (some ((0 : Int32), V29)) else (if (x23 - x23 / (2 : Int32) * (2 : Int32)) = 0 then (if x24 < (1 : Int32) then (some ((0 : Int32), V29)) else (if (40 : Int32) < x24 then (some ((0 : Int32), V29)) else (if ((16 : Int32) + ((8 : Int32) * x24)) ≤ (V29.1 2 13) then (sx_lp5 (B_X4_segmentsHold_136 N ) N x20 x24 (-1 : Int32) (0 : Int32) V29) else (some ((0 : Int32), V29))))) else (some ((0 : Int32), V29)))))))))))
set_option maxRecDepth 20000 in
theorem t_X4_segmentsHold {g : sx_G} (hG : sx_Go g) {P : Option Value → sv_V → Prop} {r : Int32} {Vr : sv_V} (hP : P (some (.int r)) Vr) {N : Nat} {l1 : Int64} {V : sv_V} (h : F_X4_segmentsHold N l1 V = some (r, Vr)) : sv_N g qX4_segmentsHold 2 0 [(0, .ref 29), (1, .long l1)] [] V P := by
  unfold F_X4_segmentsHold at h
  refine sx_aload_n (pc := 0) dX4_segmentsHold_0 sx_m0 ?_
  refine sx_lload_n (pc := 1) dX4_segmentsHold_1 sx_m1 ?_
  refine sx_bipush (pc := 2) (v := 14) dX4_segmentsHold_2 (by decide) ?_
  refine sx_iconst (pc := 4) (v := 4) dX4_segmentsHold_4 (by decide) ?_
  obtain ⟨⟨x18, V16⟩, g17, h⟩ := sx_bnd h
  refine sv_cV (pc := 5) (y := qX4_noteMap) (o := (some (.int x18))) (as := [.long l1, .int (14 : Int32), .int (4 : Int32)]) (V1 := V16) hG dX4_segmentsHold_5 l_X4_193 y0X4_noteMap yvX4_noteMap rfl (Nat.le_of_ble_eq_true rfl) lay_29 kr_4 (by decide) (Nat.le_of_ble_eq_true rfl) rfl rfl rfl (t_X4_noteMap hG ⟨rfl, rfl⟩ g17) ?_
  refine sx_if_ne (pc := 8) (tgt := 13) dX4_segmentsHold_8 (by decide) (fun c19 => ?_) (fun c19 => ?_)
  · have h := sx_neg c19 h
    refine sx_aload_n (pc := 13) dX4_segmentsHold_13 sx_m0 ?_
    refine sv_getO (pc := 14) hG dX4_segmentsHold_14 f_4_9 lay_29 rfl cr_29_0 ?_
    refine sv_getI (pc := 17) hG dX4_segmentsHold_17 f_4_181 lay_2 rfl ?_
    refine sv_tI (fun x20 hx20 => ?_)
    have h := sx_letE hx20 h
    refine sx_istore_n (pc := 20) (lo' := [(3, .int x20), (0, .ref 29), (1, .long l1)]) dX4_segmentsHold_20 (by decide) rfl ?_
    refine sx_aload_n (pc := 21) dX4_segmentsHold_21 sx_m1 ?_
    refine sv_getO (pc := 22) hG dX4_segmentsHold_22 f_4_9 lay_29 rfl cr_29_0 ?_
    refine sx_iload_n (pc := 25) dX4_segmentsHold_25 sx_m0 ?_
    refine sx_bipush (pc := 26) (v := 6) dX4_segmentsHold_26 (by decide) ?_
    refine sx_iadd (pc := 28) dX4_segmentsHold_28 ?_
    obtain ⟨⟨x23, V21⟩, g22, h⟩ := sx_bnd h
    refine sv_cV (pc := 29) (y := qX2_u2) (o := (some (.int x23))) (as := [.int (x20 + (6 : Int32))]) (V1 := V21) hG dX4_segmentsHold_29 l_X4_64 y0X2_u2 yvX2_u2 rfl (Nat.le_of_ble_eq_true rfl) lay_2 kr_2 (by decide) (Nat.le_of_ble_eq_true rfl) rfl rfl rfl (t_X2_u2 hG ⟨rfl, rfl⟩ g22) ?_
    refine sx_istore (pc := 32) (lo' := [(4, .int x23), (3, .int x20), (0, .ref 29), (1, .long l1)]) dX4_segmentsHold_32 (by decide) rfl ?_
    refine sx_iload (pc := 34) dX4_segmentsHold_34 sx_m0 ?_
    refine sx_iconst (pc := 36) (v := 2) dX4_segmentsHold_36 (by decide) ?_
    refine sx_idiv (pc := 37) dX4_segmentsHold_37 (by decide) ?_
    refine sv_tI (fun x24 hx24 => ?_)
    have h := sx_letE hx24 h
    refine sx_istore (pc := 38) (lo' := [(5, .int x24), (4, .int x23), (3, .int x20), (0, .ref 29), (1, .long l1)]) dX4_segmentsHold_38 (by decide) rfl ?_
    refine sx_aload_n (pc := 40) dX4_segmentsHold_40 sx_m3 ?_
    refine sv_getO (pc := 41) hG dX4_segmentsHold_41 f_4_9 lay_29 rfl cr_29_0 ?_
    refine sx_aload_n (pc := 44) dX4_segmentsHold_44 sx_m3 ?_
    refine sv_getO (pc := 45) hG dX4_segmentsHold_45 f_4_9 lay_29 rfl cr_29_0 ?_
    refine sx_iload_n (pc := 48) dX4_segmentsHold_48 sx_m2 ?_
    refine sx_iconst (pc := 49) (v := 2) dX4_segmentsHold_49 (by decide) ?_
    refine sx_iadd (pc := 50) dX4_segmentsHold_50 ?_
    obtain ⟨⟨x27, V25⟩, g26, h⟩ := sx_bnd h
    refine sv_cV (pc := 51) (y := qX2_u2) (o := (some (.int x27))) (as := [.int (x20 + (2 : Int32))]) (V1 := V25) hG dX4_segmentsHold_51 l_X4_64 y0X2_u2 yvX2_u2 rfl (Nat.le_of_ble_eq_true rfl) lay_2 kr_2 (by decide) (Nat.le_of_ble_eq_true rfl) rfl rfl rfl (t_X2_u2 hG ⟨rfl, rfl⟩ g26) ?_
    obtain ⟨V28, hV28⟩ : ∃ z : sv_V, z = sv_I V25 2 13 x27 := ⟨_, rfl⟩
    have h := sx_letE hV28 h
    refine sv_putI (pc := 54) hG dX4_segmentsHold_54 f_4_187 lay_2 rfl hV28 ?_
    refine sx_aload_n (pc := 57) dX4_segmentsHold_57 sx_m3 ?_
    refine sv_getO (pc := 58) hG dX4_segmentsHold_58 f_4_9 lay_29 rfl cr_29_0 ?_
    refine sx_iload (pc := 61) dX4_segmentsHold_61 sx_m0 ?_
    obtain ⟨V29, hV29⟩ : ∃ z : sv_V, z = sv_I V28 2 14 x24 := ⟨_, rfl⟩
    have h := sx_letE hV29 h
    refine sv_putI (pc := 63) hG dX4_segmentsHold_63 f_4_190 lay_2 rfl hV29 ?_
    refine sx_lload_n (pc := 66) dX4_segmentsHold_66 sx_m4 ?_
    refine sx_aload_n (pc := 67) dX4_segmentsHold_67 sx_m3 ?_
    refine sv_getO (pc := 68) hG dX4_segmentsHold_68 f_4_9 lay_29 rfl cr_29_0 ?_
    refine sv_getI (pc := 71) hG dX4_segmentsHold_71 f_4_187 lay_2 rfl ?_
    refine sx_i2l (pc := 74) dX4_segmentsHold_74 ?_
    refine sx_ladd (pc := 75) dX4_segmentsHold_75 ?_
    refine sx_aload_n (pc := 76) dX4_segmentsHold_76 sx_m3 ?_
    refine sv_getO (pc := 77) hG dX4_segmentsHold_77 f_4_9 lay_29 rfl cr_29_0 ?_
    refine sv_getA (pc := 80) hG dX4_segmentsHold_80 f_4_118 lay_2 rfl cr_2_4 ?_
    refine sx_iconst (pc := 83) (v := 0) dX4_segmentsHold_83 (by decide) ?_
    refine sv_iald (pc := 84) hG dX4_segmentsHold_84 lay_5 (by decide) ?_
    refine sx_i2l (pc := 85) dX4_segmentsHold_85 ?_
    refine sx_lcmp (pc := 86) dX4_segmentsHold_86 ?_
    refine sx_if_gt (pc := 87) (tgt := 128) dX4_segmentsHold_87 (by decide) (fun c30 => ?_) (fun c30 => ?_)
    · have h := sx_pos c30 h
      refine sx_iconst (pc := 128) (v := 0) dX4_segmentsHold_128 (by decide) ?_
      exact sv_zret (pc := 129) dX4_segmentsHold_129 rfl rfl h hP
    · have h := sx_neg c30 h
      refine sx_iload (pc := 90) dX4_segmentsHold_90 sx_m1 ?_
      refine sx_iconst (pc := 92) (v := 2) dX4_segmentsHold_92 (by decide) ?_
      refine sx_irem (pc := 93) dX4_segmentsHold_93 (by decide) ?_
      refine sx_if_ne (pc := 94) (tgt := 128) dX4_segmentsHold_94 (by decide) (fun c31 => ?_) (fun c31 => ?_)
      · have h := sx_neg c31 h
        refine sx_iconst (pc := 128) (v := 0) dX4_segmentsHold_128 (by decide) ?_
        exact sv_zret (pc := 129) dX4_segmentsHold_129 rfl rfl h hP
      · have h := sx_pos c31 h
        refine sx_iload (pc := 97) dX4_segmentsHold_97 sx_m0 ?_
        refine sx_iconst (pc := 99) (v := 1) dX4_segmentsHold_99 (by decide) ?_
        refine sx_icmp_lt (pc := 100) (tgt := 128) dX4_segmentsHold_100 (by decide) (fun c32 => ?_) (fun c32 => ?_)
        · have h := sx_pos c32 h
          refine sx_iconst (pc := 128) (v := 0) dX4_segmentsHold_128 (by decide) ?_
          exact sv_zret (pc := 129) dX4_segmentsHold_129 rfl rfl h hP
        · have h := sx_neg c32 h
          refine sx_iload (pc := 103) dX4_segmentsHold_103 sx_m0 ?_
          refine sx_bipush (pc := 105) (v := 40) dX4_segmentsHold_105 (by decide) ?_
          refine sx_icmp_gt (pc := 107) (tgt := 128) dX4_segmentsHold_107 (by decide) (fun c33 => ?_) (fun c33 => ?_)
          · have h := sx_pos c33 h
            refine sx_iconst (pc := 128) (v := 0) dX4_segmentsHold_128 (by decide) ?_
            exact sv_zret (pc := 129) dX4_segmentsHold_129 rfl rfl h hP
          · have h := sx_neg c33 h
            refine sx_bipush (pc := 110) (v := 16) dX4_segmentsHold_110 (by decide) ?_
            refine sx_bipush (pc := 112) (v := 8) dX4_segmentsHold_112 (by decide) ?_
            refine sx_iload (pc := 114) dX4_segmentsHold_114 sx_m0 ?_
            refine sx_imul (pc := 116) dX4_segmentsHold_116 ?_
            refine sx_iadd (pc := 117) dX4_segmentsHold_117 ?_
            refine sx_aload_n (pc := 118) dX4_segmentsHold_118 sx_m3 ?_
            refine sv_getO (pc := 119) hG dX4_segmentsHold_119 f_4_9 lay_29 rfl cr_29_0 ?_
            refine sv_getI (pc := 122) hG dX4_segmentsHold_122 f_4_187 lay_2 rfl ?_
            refine sx_icmp_le (pc := 125) (tgt := 130) dX4_segmentsHold_125 (by decide) (fun c34 => ?_) (fun c34 => ?_)
            · have h := sx_pos c34 h
              refine sx_iconst (pc := 130) (v := (-1)) dX4_segmentsHold_130 (by decide) ?_
              refine sx_istore (pc := 131) (lo' := [(6, .int (-1 : Int32)), (5, .int x24), (4, .int x23), (3, .int x20), (0, .ref 29), (1, .long l1)]) dX4_segmentsHold_131 (by decide) rfl ?_
              refine sx_iconst (pc := 133) (v := 0) dX4_segmentsHold_133 (by decide) ?_
              refine sx_istore (pc := 134) (lo' := [(7, .int (0 : Int32)), (6, .int (-1 : Int32)), (5, .int x24), (4, .int x23), (3, .int x20), (0, .ref 29), (1, .long l1)]) dX4_segmentsHold_134 (by decide) rfl ?_
              refine sx_wk (sx_s1 sx_m5 (sx_s1 sx_m4 (sx_s1 sx_m2 (sx_s1 sx_m1 (sx_s1 sx_m0 sx_s0))))) ?_
              exact tL_X4_segmentsHold_136 hG hP  N _ _ _ _ _ h
            · have h := sx_neg c34 h
              refine sx_iconst (pc := 128) (v := 0) dX4_segmentsHold_128 (by decide) ?_
              exact sv_zret (pc := 129) dX4_segmentsHold_129 rfl rfl h hP
  · have h := sx_pos c19 h
    refine sx_iconst (pc := 11) (v := 0) dX4_segmentsHold_11 (by decide) ?_
    exact sv_zret (pc := 12) dX4_segmentsHold_12 rfl rfl h hP
def ncX4_groupsHold : Nat := 128318118480616920139374827065310406974996296263349960119138669407778771191977916612581751918854089135139128447943873684410260381396980710037284586964195994559278372283072862005503321220960936869530510980338040995936793363805073207145289290724832670596117296294152425474480560245993957503576922463635224706801697649049507939879790993727226542110225552335722514137054167467006346514241657167661061664078654786079594102415954116226059904330463000743679955581652061069759945198332641461882855210
theorem kcX4_groupsHold : CK cX4_groupsHold ncX4_groupsHold 204 := ⟨by decide +kernel, by decide +kernel⟩
theorem dX4_groupsHold_0 : decode cX4_groupsHold 0 = .ok (.aload_n 0, 1) := dl_o42 kcX4_groupsHold (by decide +kernel)
theorem dX4_groupsHold_1 : decode cX4_groupsHold 1 = .ok (.lload_n 1, 1) := dl_o31 kcX4_groupsHold (by decide +kernel)
theorem dX4_groupsHold_2 : decode cX4_groupsHold 2 = .ok (.bipush 16, 2) := dl_o16 kcX4_groupsHold 16 (by decide +kernel) (by decide +kernel)
theorem dX4_groupsHold_4 : decode cX4_groupsHold 4 = .ok (.bipush 12, 2) := dl_o16 kcX4_groupsHold 12 (by decide +kernel) (by decide +kernel)
theorem dX4_groupsHold_6 : decode cX4_groupsHold 6 = .ok (.invokevirtual 193, 3) := dl_o182 kcX4_groupsHold (by decide +kernel)
theorem dX4_groupsHold_9 : decode cX4_groupsHold 9 = .ok (.ifCond .ne 5, 3) := dl_o154 kcX4_groupsHold 5 (by decide +kernel) (by decide +kernel)
theorem dX4_groupsHold_12 : decode cX4_groupsHold 12 = .ok (.iconst 0, 1) := dl_o3 kcX4_groupsHold (by decide +kernel)
theorem dX4_groupsHold_13 : decode cX4_groupsHold 13 = .ok (.ireturn, 1) := dl_o172 kcX4_groupsHold (by decide +kernel)
theorem dX4_groupsHold_14 : decode cX4_groupsHold 14 = .ok (.aload_n 0, 1) := dl_o42 kcX4_groupsHold (by decide +kernel)
theorem dX4_groupsHold_15 : decode cX4_groupsHold 15 = .ok (.getfield 9, 3) := dl_o180 kcX4_groupsHold (by decide +kernel)
theorem dX4_groupsHold_18 : decode cX4_groupsHold 18 = .ok (.getfield 181, 3) := dl_o180 kcX4_groupsHold (by decide +kernel)
theorem dX4_groupsHold_21 : decode cX4_groupsHold 21 = .ok (.istore_n 3, 1) := dl_o62 kcX4_groupsHold (by decide +kernel)
theorem dX4_groupsHold_22 : decode cX4_groupsHold 22 = .ok (.aload_n 0, 1) := dl_o42 kcX4_groupsHold (by decide +kernel)
theorem dX4_groupsHold_23 : decode cX4_groupsHold 23 = .ok (.getfield 9, 3) := dl_o180 kcX4_groupsHold (by decide +kernel)
theorem dX4_groupsHold_26 : decode cX4_groupsHold 26 = .ok (.iload_n 3, 1) := dl_o29 kcX4_groupsHold (by decide +kernel)
theorem dX4_groupsHold_27 : decode cX4_groupsHold 27 = .ok (.iconst 4, 1) := dl_o7 kcX4_groupsHold (by decide +kernel)
theorem dX4_groupsHold_28 : decode cX4_groupsHold 28 = .ok (.iadd, 1) := dl_o96 kcX4_groupsHold (by decide +kernel)
theorem dX4_groupsHold_29 : decode cX4_groupsHold 29 = .ok (.invokevirtual 74, 3) := dl_o182 kcX4_groupsHold (by decide +kernel)
theorem dX4_groupsHold_32 : decode cX4_groupsHold 32 = .ok (.lstore 4, 2) := dl_o55 kcX4_groupsHold (by decide +kernel)
theorem dX4_groupsHold_34 : decode cX4_groupsHold 34 = .ok (.aload_n 0, 1) := dl_o42 kcX4_groupsHold (by decide +kernel)
theorem dX4_groupsHold_35 : decode cX4_groupsHold 35 = .ok (.getfield 9, 3) := dl_o180 kcX4_groupsHold (by decide +kernel)
theorem dX4_groupsHold_38 : decode cX4_groupsHold 38 = .ok (.iload_n 3, 1) := dl_o29 kcX4_groupsHold (by decide +kernel)
theorem dX4_groupsHold_39 : decode cX4_groupsHold 39 = .ok (.bipush 12, 2) := dl_o16 kcX4_groupsHold 12 (by decide +kernel) (by decide +kernel)
theorem dX4_groupsHold_41 : decode cX4_groupsHold 41 = .ok (.iadd, 1) := dl_o96 kcX4_groupsHold (by decide +kernel)
theorem dX4_groupsHold_42 : decode cX4_groupsHold 42 = .ok (.invokevirtual 74, 3) := dl_o182 kcX4_groupsHold (by decide +kernel)
theorem dX4_groupsHold_45 : decode cX4_groupsHold 45 = .ok (.lstore 6, 2) := dl_o55 kcX4_groupsHold (by decide +kernel)
theorem dX4_groupsHold_47 : decode cX4_groupsHold 47 = .ok (.lload_n 1, 1) := dl_o31 kcX4_groupsHold (by decide +kernel)
theorem dX4_groupsHold_48 : decode cX4_groupsHold 48 = .ok (.lload 4, 2) := dl_o22 kcX4_groupsHold (by decide +kernel)
theorem dX4_groupsHold_50 : decode cX4_groupsHold 50 = .ok (.ladd, 1) := dl_o97 kcX4_groupsHold (by decide +kernel)
theorem dX4_groupsHold_51 : decode cX4_groupsHold 51 = .ok (.aload_n 0, 1) := dl_o42 kcX4_groupsHold (by decide +kernel)
theorem dX4_groupsHold_52 : decode cX4_groupsHold 52 = .ok (.getfield 9, 3) := dl_o180 kcX4_groupsHold (by decide +kernel)
theorem dX4_groupsHold_55 : decode cX4_groupsHold 55 = .ok (.getfield 118, 3) := dl_o180 kcX4_groupsHold (by decide +kernel)
theorem dX4_groupsHold_58 : decode cX4_groupsHold 58 = .ok (.iconst 0, 1) := dl_o3 kcX4_groupsHold (by decide +kernel)
theorem dX4_groupsHold_59 : decode cX4_groupsHold 59 = .ok (.iaload, 1) := dl_o46 kcX4_groupsHold (by decide +kernel)
theorem dX4_groupsHold_60 : decode cX4_groupsHold 60 = .ok (.i2l, 1) := dl_o133 kcX4_groupsHold (by decide +kernel)
theorem dX4_groupsHold_61 : decode cX4_groupsHold 61 = .ok (.lcmp, 1) := dl_o148 kcX4_groupsHold (by decide +kernel)
theorem dX4_groupsHold_62 : decode cX4_groupsHold 62 = .ok (.ifCond .gt 35, 3) := dl_o157 kcX4_groupsHold 35 (by decide +kernel) (by decide +kernel)
theorem dX4_groupsHold_65 : decode cX4_groupsHold 65 = .ok (.lload 6, 2) := dl_o22 kcX4_groupsHold (by decide +kernel)
theorem dX4_groupsHold_67 : decode cX4_groupsHold 67 = .ok (.lconst 1, 1) := dl_o10 kcX4_groupsHold (by decide +kernel)
theorem dX4_groupsHold_68 : decode cX4_groupsHold 68 = .ok (.lcmp, 1) := dl_o148 kcX4_groupsHold (by decide +kernel)
theorem dX4_groupsHold_69 : decode cX4_groupsHold 69 = .ok (.ifCond .lt 28, 3) := dl_o155 kcX4_groupsHold 28 (by decide +kernel) (by decide +kernel)
theorem dX4_groupsHold_72 : decode cX4_groupsHold 72 = .ok (.lload 6, 2) := dl_o22 kcX4_groupsHold (by decide +kernel)
theorem dX4_groupsHold_74 : decode cX4_groupsHold 74 = .ok (.ldc2_w 198, 3) := dl_o20 kcX4_groupsHold (by decide +kernel)
theorem dX4_groupsHold_77 : decode cX4_groupsHold 77 = .ok (.lcmp, 1) := dl_o148 kcX4_groupsHold (by decide +kernel)
theorem dX4_groupsHold_78 : decode cX4_groupsHold 78 = .ok (.ifCond .gt 19, 3) := dl_o157 kcX4_groupsHold 19 (by decide +kernel) (by decide +kernel)
theorem dX4_groupsHold_81 : decode cX4_groupsHold 81 = .ok (.ldc2_w 200, 3) := dl_o20 kcX4_groupsHold (by decide +kernel)
theorem dX4_groupsHold_84 : decode cX4_groupsHold 84 = .ok (.ldc2_w 202, 3) := dl_o20 kcX4_groupsHold (by decide +kernel)
theorem dX4_groupsHold_87 : decode cX4_groupsHold 87 = .ok (.lload 6, 2) := dl_o22 kcX4_groupsHold (by decide +kernel)
theorem dX4_groupsHold_89 : decode cX4_groupsHold 89 = .ok (.lmul, 1) := dl_o105 kcX4_groupsHold (by decide +kernel)
theorem dX4_groupsHold_90 : decode cX4_groupsHold 90 = .ok (.ladd, 1) := dl_o97 kcX4_groupsHold (by decide +kernel)
theorem dX4_groupsHold_91 : decode cX4_groupsHold 91 = .ok (.lload 4, 2) := dl_o22 kcX4_groupsHold (by decide +kernel)
theorem dX4_groupsHold_93 : decode cX4_groupsHold 93 = .ok (.lcmp, 1) := dl_o148 kcX4_groupsHold (by decide +kernel)
theorem dX4_groupsHold_94 : decode cX4_groupsHold 94 = .ok (.ifCond .le 5, 3) := dl_o158 kcX4_groupsHold 5 (by decide +kernel) (by decide +kernel)
theorem dX4_groupsHold_97 : decode cX4_groupsHold 97 = .ok (.iconst 0, 1) := dl_o3 kcX4_groupsHold (by decide +kernel)
theorem dX4_groupsHold_98 : decode cX4_groupsHold 98 = .ok (.ireturn, 1) := dl_o172 kcX4_groupsHold (by decide +kernel)
theorem dX4_groupsHold_99 : decode cX4_groupsHold 99 = .ok (.aload_n 0, 1) := dl_o42 kcX4_groupsHold (by decide +kernel)
theorem dX4_groupsHold_100 : decode cX4_groupsHold 100 = .ok (.getfield 9, 3) := dl_o180 kcX4_groupsHold (by decide +kernel)
theorem dX4_groupsHold_103 : decode cX4_groupsHold 103 = .ok (.lload 4, 2) := dl_o22 kcX4_groupsHold (by decide +kernel)
theorem dX4_groupsHold_105 : decode cX4_groupsHold 105 = .ok (.l2i, 1) := dl_o136 kcX4_groupsHold (by decide +kernel)
theorem dX4_groupsHold_106 : decode cX4_groupsHold 106 = .ok (.putfield 187, 3) := dl_o181 kcX4_groupsHold (by decide +kernel)
theorem dX4_groupsHold_109 : decode cX4_groupsHold 109 = .ok (.aload_n 0, 1) := dl_o42 kcX4_groupsHold (by decide +kernel)
theorem dX4_groupsHold_110 : decode cX4_groupsHold 110 = .ok (.getfield 9, 3) := dl_o180 kcX4_groupsHold (by decide +kernel)
theorem dX4_groupsHold_113 : decode cX4_groupsHold 113 = .ok (.lload 6, 2) := dl_o22 kcX4_groupsHold (by decide +kernel)
theorem dX4_groupsHold_115 : decode cX4_groupsHold 115 = .ok (.l2i, 1) := dl_o136 kcX4_groupsHold (by decide +kernel)
theorem dX4_groupsHold_116 : decode cX4_groupsHold 116 = .ok (.putfield 190, 3) := dl_o181 kcX4_groupsHold (by decide +kernel)
theorem dX4_groupsHold_119 : decode cX4_groupsHold 119 = .ok (.ldc2_w 169, 3) := dl_o20 kcX4_groupsHold (by decide +kernel)
theorem dX4_groupsHold_122 : decode cX4_groupsHold 122 = .ok (.lstore 8, 2) := dl_o55 kcX4_groupsHold (by decide +kernel)
theorem dX4_groupsHold_124 : decode cX4_groupsHold 124 = .ok (.iconst 0, 1) := dl_o3 kcX4_groupsHold (by decide +kernel)
theorem dX4_groupsHold_125 : decode cX4_groupsHold 125 = .ok (.istore 10, 2) := dl_o54 kcX4_groupsHold (by decide +kernel)
theorem dX4_groupsHold_127 : decode cX4_groupsHold 127 = .ok (.iload 10, 2) := dl_o21 kcX4_groupsHold (by decide +kernel)
theorem dX4_groupsHold_129 : decode cX4_groupsHold 129 = .ok (.i2l, 1) := dl_o133 kcX4_groupsHold (by decide +kernel)
theorem dX4_groupsHold_130 : decode cX4_groupsHold 130 = .ok (.lload 6, 2) := dl_o22 kcX4_groupsHold (by decide +kernel)
theorem dX4_groupsHold_132 : decode cX4_groupsHold 132 = .ok (.lcmp, 1) := dl_o148 kcX4_groupsHold (by decide +kernel)
theorem dX4_groupsHold_133 : decode cX4_groupsHold 133 = .ok (.ifCond .ge 69, 3) := dl_o156 kcX4_groupsHold 69 (by decide +kernel) (by decide +kernel)
theorem dX4_groupsHold_136 : decode cX4_groupsHold 136 = .ok (.aload_n 0, 1) := dl_o42 kcX4_groupsHold (by decide +kernel)
theorem dX4_groupsHold_137 : decode cX4_groupsHold 137 = .ok (.getfield 9, 3) := dl_o180 kcX4_groupsHold (by decide +kernel)
theorem dX4_groupsHold_140 : decode cX4_groupsHold 140 = .ok (.iload_n 3, 1) := dl_o29 kcX4_groupsHold (by decide +kernel)
theorem dX4_groupsHold_141 : decode cX4_groupsHold 141 = .ok (.bipush 16, 2) := dl_o16 kcX4_groupsHold 16 (by decide +kernel) (by decide +kernel)
theorem dX4_groupsHold_143 : decode cX4_groupsHold 143 = .ok (.iadd, 1) := dl_o96 kcX4_groupsHold (by decide +kernel)
theorem dX4_groupsHold_144 : decode cX4_groupsHold 144 = .ok (.bipush 12, 2) := dl_o16 kcX4_groupsHold 12 (by decide +kernel) (by decide +kernel)
theorem dX4_groupsHold_146 : decode cX4_groupsHold 146 = .ok (.iload 10, 2) := dl_o21 kcX4_groupsHold (by decide +kernel)
theorem dX4_groupsHold_148 : decode cX4_groupsHold 148 = .ok (.imul, 1) := dl_o104 kcX4_groupsHold (by decide +kernel)
theorem dX4_groupsHold_149 : decode cX4_groupsHold 149 = .ok (.iadd, 1) := dl_o96 kcX4_groupsHold (by decide +kernel)
theorem dX4_groupsHold_150 : decode cX4_groupsHold 150 = .ok (.invokevirtual 74, 3) := dl_o182 kcX4_groupsHold (by decide +kernel)
theorem dX4_groupsHold_153 : decode cX4_groupsHold 153 = .ok (.lstore 11, 2) := dl_o55 kcX4_groupsHold (by decide +kernel)
theorem dX4_groupsHold_155 : decode cX4_groupsHold 155 = .ok (.aload_n 0, 1) := dl_o42 kcX4_groupsHold (by decide +kernel)
theorem dX4_groupsHold_156 : decode cX4_groupsHold 156 = .ok (.getfield 9, 3) := dl_o180 kcX4_groupsHold (by decide +kernel)
theorem dX4_groupsHold_159 : decode cX4_groupsHold 159 = .ok (.iload_n 3, 1) := dl_o29 kcX4_groupsHold (by decide +kernel)
theorem dX4_groupsHold_160 : decode cX4_groupsHold 160 = .ok (.bipush 20, 2) := dl_o16 kcX4_groupsHold 20 (by decide +kernel) (by decide +kernel)
theorem dX4_groupsHold_162 : decode cX4_groupsHold 162 = .ok (.iadd, 1) := dl_o96 kcX4_groupsHold (by decide +kernel)
theorem dX4_groupsHold_163 : decode cX4_groupsHold 163 = .ok (.bipush 12, 2) := dl_o16 kcX4_groupsHold 12 (by decide +kernel) (by decide +kernel)
theorem dX4_groupsHold_165 : decode cX4_groupsHold 165 = .ok (.iload 10, 2) := dl_o21 kcX4_groupsHold (by decide +kernel)
theorem dX4_groupsHold_167 : decode cX4_groupsHold 167 = .ok (.imul, 1) := dl_o104 kcX4_groupsHold (by decide +kernel)
theorem dX4_groupsHold_168 : decode cX4_groupsHold 168 = .ok (.iadd, 1) := dl_o96 kcX4_groupsHold (by decide +kernel)
theorem dX4_groupsHold_169 : decode cX4_groupsHold 169 = .ok (.invokevirtual 74, 3) := dl_o182 kcX4_groupsHold (by decide +kernel)
theorem dX4_groupsHold_172 : decode cX4_groupsHold 172 = .ok (.lstore 13, 2) := dl_o55 kcX4_groupsHold (by decide +kernel)
theorem dX4_groupsHold_174 : decode cX4_groupsHold 174 = .ok (.lload 11, 2) := dl_o22 kcX4_groupsHold (by decide +kernel)
theorem dX4_groupsHold_176 : decode cX4_groupsHold 176 = .ok (.lload 8, 2) := dl_o22 kcX4_groupsHold (by decide +kernel)
theorem dX4_groupsHold_178 : decode cX4_groupsHold 178 = .ok (.lcmp, 1) := dl_o148 kcX4_groupsHold (by decide +kernel)
theorem dX4_groupsHold_179 : decode cX4_groupsHold 179 = .ok (.ifCond .le 11, 3) := dl_o158 kcX4_groupsHold 11 (by decide +kernel) (by decide +kernel)
theorem dX4_groupsHold_182 : decode cX4_groupsHold 182 = .ok (.lload 11, 2) := dl_o22 kcX4_groupsHold (by decide +kernel)
theorem dX4_groupsHold_184 : decode cX4_groupsHold 184 = .ok (.lload 13, 2) := dl_o22 kcX4_groupsHold (by decide +kernel)
theorem dX4_groupsHold_186 : decode cX4_groupsHold 186 = .ok (.lcmp, 1) := dl_o148 kcX4_groupsHold (by decide +kernel)
theorem dX4_groupsHold_187 : decode cX4_groupsHold 187 = .ok (.ifCond .le 5, 3) := dl_o158 kcX4_groupsHold 5 (by decide +kernel) (by decide +kernel)
theorem dX4_groupsHold_190 : decode cX4_groupsHold 190 = .ok (.iconst 0, 1) := dl_o3 kcX4_groupsHold (by decide +kernel)
theorem dX4_groupsHold_191 : decode cX4_groupsHold 191 = .ok (.ireturn, 1) := dl_o172 kcX4_groupsHold (by decide +kernel)
theorem dX4_groupsHold_192 : decode cX4_groupsHold 192 = .ok (.lload 13, 2) := dl_o22 kcX4_groupsHold (by decide +kernel)
theorem dX4_groupsHold_194 : decode cX4_groupsHold 194 = .ok (.lstore 8, 2) := dl_o55 kcX4_groupsHold (by decide +kernel)
theorem dX4_groupsHold_196 : decode cX4_groupsHold 196 = .ok (.iinc 10 1, 3) := by decide +kernel
theorem dX4_groupsHold_199 : decode cX4_groupsHold 199 = .ok (.goto (-72), 3) := dl_o167 kcX4_groupsHold 65464 (by decide +kernel) (by decide +kernel)
theorem dX4_groupsHold_202 : decode cX4_groupsHold 202 = .ok (.iconst 1, 1) := dl_o4 kcX4_groupsHold (by decide +kernel)
theorem dX4_groupsHold_203 : decode cX4_groupsHold 203 = .ok (.ireturn, 1) := dl_o172 kcX4_groupsHold (by decide +kernel)
def B_X4_groupsHold_127 (N : Nat) (k127 : Int32 → Int64 → Int64 → Int32 → sv_V → Option (Int32 × sv_V)) (l3 : Int32) (l6 : Int64) (l8 : Int64) (l10 : Int32) (V : sv_V) : Option (Int32 × sv_V) := if 0 ≤ (lg_cmp l10.toInt64 l6) then (some ((1 : Int32), V)) else ((F_X2_u4 ((l3 + (16 : Int32)) + ((12 : Int32) * l10)) V).bind (fun (x4, V2) => (F_X2_u4 ((l3 + (20 : Int32)) + ((12 : Int32) * l10)) V2).bind (fun (x7, V5) => if (lg_cmp x4 l8) ≤ 0 then (some ((0 : Int32), V5)) else (if (lg_cmp x4 x7) ≤ 0 then (sx_let (l10 + 1) (fun x10 => k127 l3 l6 x7 x10 V5)) else (some ((0 : Int32), V5))))))
set_option maxRecDepth 20000 in
theorem tB_X4_groupsHold_127 {g : sx_G} (hG : sx_Go g) {P : Option Value → sv_V → Prop} {r : Int32} {Vr : sv_V} (hP : P (some (.int r)) Vr) {N : Nat} {k127 : Int32 → Int64 → Int64 → Int32 → sv_V → Option (Int32 × sv_V)} (hk127 : ∀ (l3 : Int32) (l6 : Int64) (l8 : Int64) (l10 : Int32) (V : sv_V), k127 l3 l6 l8 l10 V = some (r, Vr) → sv_N g qX4_groupsHold 2 127 [(0, .ref 29), (3, .int l3), (6, .long l6), (8, .long l8), (10, .int l10)] [] V P) {l3 : Int32} {l6 : Int64} {l8 : Int64} {l10 : Int32} {V : sv_V} (h : B_X4_groupsHold_127 N k127 l3 l6 l8 l10 V = some (r, Vr)) : sv_N g qX4_groupsHold 2 127 [(0, .ref 29), (3, .int l3), (6, .long l6), (8, .long l8), (10, .int l10)] [] V P := by
  unfold B_X4_groupsHold_127 at h
  refine sx_iload (pc := 127) dX4_groupsHold_127 sx_m4 ?_
  refine sx_i2l (pc := 129) dX4_groupsHold_129 ?_
  refine sx_lload (pc := 130) dX4_groupsHold_130 sx_m2 ?_
  refine sx_lcmp (pc := 132) dX4_groupsHold_132 ?_
  refine sx_if_ge (pc := 133) (tgt := 202) dX4_groupsHold_133 (by decide) (fun c1 => ?_) (fun c1 => ?_)
  · have h := sx_pos c1 h
    refine sx_iconst (pc := 202) (v := 1) dX4_groupsHold_202 (by decide) ?_
    exact sv_zret (pc := 203) dX4_groupsHold_203 rfl rfl h hP
  · have h := sx_neg c1 h
    refine sx_aload_n (pc := 136) dX4_groupsHold_136 sx_m0 ?_
    refine sv_getO (pc := 137) hG dX4_groupsHold_137 f_4_9 lay_29 rfl cr_29_0 ?_
    refine sx_iload_n (pc := 140) dX4_groupsHold_140 sx_m1 ?_
    refine sx_bipush (pc := 141) (v := 16) dX4_groupsHold_141 (by decide) ?_
    refine sx_iadd (pc := 143) dX4_groupsHold_143 ?_
    refine sx_bipush (pc := 144) (v := 12) dX4_groupsHold_144 (by decide) ?_
    refine sx_iload (pc := 146) dX4_groupsHold_146 sx_m4 ?_
    refine sx_imul (pc := 148) dX4_groupsHold_148 ?_
    refine sx_iadd (pc := 149) dX4_groupsHold_149 ?_
    obtain ⟨⟨x4, V2⟩, g3, h⟩ := sx_bnd h
    refine sv_cV (pc := 150) (y := qX2_u4) (o := (some (.long x4))) (as := [.int ((l3 + (16 : Int32)) + ((12 : Int32) * l10))]) (V1 := V2) hG dX4_groupsHold_150 l_X4_74 y0X2_u4 yvX2_u4 rfl (Nat.le_of_ble_eq_true rfl) lay_2 kr_2 (by decide) (Nat.le_of_ble_eq_true rfl) rfl rfl rfl (t_X2_u4 hG ⟨rfl, rfl⟩ g3) ?_
    refine sx_lstore (pc := 153) (lo' := [(11, .long x4), (0, .ref 29), (3, .int l3), (6, .long l6), (8, .long l8), (10, .int l10)]) dX4_groupsHold_153 (by decide) rfl ?_
    refine sx_aload_n (pc := 155) dX4_groupsHold_155 sx_m1 ?_
    refine sv_getO (pc := 156) hG dX4_groupsHold_156 f_4_9 lay_29 rfl cr_29_0 ?_
    refine sx_iload_n (pc := 159) dX4_groupsHold_159 sx_m2 ?_
    refine sx_bipush (pc := 160) (v := 20) dX4_groupsHold_160 (by decide) ?_
    refine sx_iadd (pc := 162) dX4_groupsHold_162 ?_
    refine sx_bipush (pc := 163) (v := 12) dX4_groupsHold_163 (by decide) ?_
    refine sx_iload (pc := 165) dX4_groupsHold_165 sx_m5 ?_
    refine sx_imul (pc := 167) dX4_groupsHold_167 ?_
    refine sx_iadd (pc := 168) dX4_groupsHold_168 ?_
    obtain ⟨⟨x7, V5⟩, g6, h⟩ := sx_bnd h
    refine sv_cV (pc := 169) (y := qX2_u4) (o := (some (.long x7))) (as := [.int ((l3 + (20 : Int32)) + ((12 : Int32) * l10))]) (V1 := V5) hG dX4_groupsHold_169 l_X4_74 y0X2_u4 yvX2_u4 rfl (Nat.le_of_ble_eq_true rfl) lay_2 kr_2 (by decide) (Nat.le_of_ble_eq_true rfl) rfl rfl rfl (t_X2_u4 hG ⟨rfl, rfl⟩ g6) ?_
    refine sx_lstore (pc := 172) (lo' := [(13, .long x7), (11, .long x4), (0, .ref 29), (3, .int l3), (6, .long l6), (8, .long l8), (10, .int l10)]) dX4_groupsHold_172 (by decide) rfl ?_
    refine sx_lload (pc := 174) dX4_groupsHold_174 sx_m1 ?_
    refine sx_lload (pc := 176) dX4_groupsHold_176 sx_m5 ?_
    refine sx_lcmp (pc := 178) dX4_groupsHold_178 ?_
    refine sx_if_le (pc := 179) (tgt := 190) dX4_groupsHold_179 (by decide) (fun c8 => ?_) (fun c8 => ?_)
    · have h := sx_pos c8 h
      refine sx_iconst (pc := 190) (v := 0) dX4_groupsHold_190 (by decide) ?_
      exact sv_zret (pc := 191) dX4_groupsHold_191 rfl rfl h hP
    · have h := sx_neg c8 h
      refine sx_lload (pc := 182) dX4_groupsHold_182 sx_m1 ?_
      refine sx_lload (pc := 184) dX4_groupsHold_184 sx_m0 ?_
      refine sx_lcmp (pc := 186) dX4_groupsHold_186 ?_
      refine sx_if_le (pc := 187) (tgt := 192) dX4_groupsHold_187 (by decide) (fun c9 => ?_) (fun c9 => ?_)
      · have h := sx_pos c9 h
        refine sx_lload (pc := 192) dX4_groupsHold_192 sx_m0 ?_
        refine sx_lstore (pc := 194) (lo' := [(8, .long x7), (13, .long x7), (11, .long x4), (0, .ref 29), (3, .int l3), (6, .long l6), (10, .int l10)]) dX4_groupsHold_194 (by decide) rfl ?_
        obtain ⟨x10, hx10⟩ : ∃ z : Int32, z = l10 + 1 := ⟨_, rfl⟩
        have h := sx_letE hx10 h
        refine sx_iinc (pc := 196) (v := x10) (lo' := [(10, .int x10), (8, .long x7), (13, .long x7), (11, .long x4), (0, .ref 29), (3, .int l3), (6, .long l6)]) dX4_groupsHold_196 sx_m6 (by rw [hx10]; rfl) (by decide) rfl ?_
        refine sx_goto (pc := 199) (tgt := 127) dX4_groupsHold_199 (by decide) ?_
        refine sx_wk (sx_s1 sx_m4 (sx_s1 sx_m5 (sx_s1 sx_m6 (sx_s1 sx_m1 (sx_s1 sx_m0 sx_s0))))) ?_
        exact hk127 _ _ _ _ _ h
      · have h := sx_neg c9 h
        refine sx_iconst (pc := 190) (v := 0) dX4_groupsHold_190 (by decide) ?_
        exact sv_zret (pc := 191) dX4_groupsHold_191 rfl rfl h hP
theorem tL_X4_groupsHold_127 {g : sx_G} (hG : sx_Go g) {P : Option Value → sv_V → Prop} {r : Int32} {Vr : sv_V} (hP : P (some (.int r)) Vr) {N : Nat}   : ∀ (n : Nat) (l3 : Int32) (l6 : Int64) (l8 : Int64) (l10 : Int32) (V : sv_V), sx_lp5 (B_X4_groupsHold_127 N ) n l3 l6 l8 l10 V = some (r, Vr) → sv_N g qX4_groupsHold 2 127 [(0, .ref 29), (3, .int l3), (6, .long l6), (8, .long l8), (10, .int l10)] [] V P :=
  sx_lp5_ind (fun k0 ih _ _ _ _ V h => tB_X4_groupsHold_127 hG hP ih h)
def F_X4_groupsHold (N : Nat) (l1 : Int64) (V : sv_V) : Option (Int32 × sv_V) := (F_X4_noteMap l1 (16 : Int32) (12 : Int32) V).bind (fun (x13, V11) => if x13 = 0 then (some ((0 : Int32), V11)) else (sx_let (V11.1 2 12) (fun x15 => (F_X2_u4 (x15 + (4 : Int32)) V11).bind (fun (x18, V16) => (F_X2_u4 (x15 + (12 : Int32)) V16).bind (fun (x21, V19) => if 0 < (lg_cmp (l1 + x18) ((V19.1 5 (0 : Int32).toNatClampNeg).toInt64)) then (some ((0 : Int32), V19)) else (if (lg_cmp x21 (1 : Int64)) < 0 then (some ((0 : Int32), V19)) else (if 0 < (lg_cmp x21 (40 : Int64)) then (some ((0 : Int32), V19)) else (if (lg_cmp ((16 : Int64) + ((12 : Int64) * x21)) x18) ≤ 0 then (sx_let (sv_I V19 2 13 x18.toInt32) (fun V26 => sx_let (sv_I V26 2 14 x21.toInt32) (fun V27 => sx_lp5 (B_X4_groupsHold_127 N ) N x15 x21 (-1 : Int64) (0 : Int32) V27))) else (some ((0 : Int32), V19))))))))))
set_option maxRecDepth 20000 in
theorem t_X4_groupsHold {g : sx_G} (hG : sx_Go g) {P : Option Value → sv_V → Prop} {r : Int32} {Vr : sv_V} (hP : P (some (.int r)) Vr) {N : Nat} {l1 : Int64} {V : sv_V} (h : F_X4_groupsHold N l1 V = some (r, Vr)) : sv_N g qX4_groupsHold 2 0 [(0, .ref 29), (1, .long l1)] [] V P := by
  unfold F_X4_groupsHold at h
  refine sx_aload_n (pc := 0) dX4_groupsHold_0 sx_m0 ?_
  refine sx_lload_n (pc := 1) dX4_groupsHold_1 sx_m1 ?_
  refine sx_bipush (pc := 2) (v := 16) dX4_groupsHold_2 (by decide) ?_
  refine sx_bipush (pc := 4) (v := 12) dX4_groupsHold_4 (by decide) ?_
  obtain ⟨⟨x13, V11⟩, g12, h⟩ := sx_bnd h
  refine sv_cV (pc := 6) (y := qX4_noteMap) (o := (some (.int x13))) (as := [.long l1, .int (16 : Int32), .int (12 : Int32)]) (V1 := V11) hG dX4_groupsHold_6 l_X4_193 y0X4_noteMap yvX4_noteMap rfl (Nat.le_of_ble_eq_true rfl) lay_29 kr_4 (by decide) (Nat.le_of_ble_eq_true rfl) rfl rfl rfl (t_X4_noteMap hG ⟨rfl, rfl⟩ g12) ?_
  refine sx_if_ne (pc := 9) (tgt := 14) dX4_groupsHold_9 (by decide) (fun c14 => ?_) (fun c14 => ?_)
  · have h := sx_neg c14 h
    refine sx_aload_n (pc := 14) dX4_groupsHold_14 sx_m0 ?_
    refine sv_getO (pc := 15) hG dX4_groupsHold_15 f_4_9 lay_29 rfl cr_29_0 ?_
    refine sv_getI (pc := 18) hG dX4_groupsHold_18 f_4_181 lay_2 rfl ?_
    refine sv_tI (fun x15 hx15 => ?_)
    have h := sx_letE hx15 h
    refine sx_istore_n (pc := 21) (lo' := [(3, .int x15), (0, .ref 29), (1, .long l1)]) dX4_groupsHold_21 (by decide) rfl ?_
    refine sx_aload_n (pc := 22) dX4_groupsHold_22 sx_m1 ?_
    refine sv_getO (pc := 23) hG dX4_groupsHold_23 f_4_9 lay_29 rfl cr_29_0 ?_
    refine sx_iload_n (pc := 26) dX4_groupsHold_26 sx_m0 ?_
    refine sx_iconst (pc := 27) (v := 4) dX4_groupsHold_27 (by decide) ?_
    refine sx_iadd (pc := 28) dX4_groupsHold_28 ?_
    obtain ⟨⟨x18, V16⟩, g17, h⟩ := sx_bnd h
    refine sv_cV (pc := 29) (y := qX2_u4) (o := (some (.long x18))) (as := [.int (x15 + (4 : Int32))]) (V1 := V16) hG dX4_groupsHold_29 l_X4_74 y0X2_u4 yvX2_u4 rfl (Nat.le_of_ble_eq_true rfl) lay_2 kr_2 (by decide) (Nat.le_of_ble_eq_true rfl) rfl rfl rfl (t_X2_u4 hG ⟨rfl, rfl⟩ g17) ?_
    refine sx_lstore (pc := 32) (lo' := [(4, .long x18), (3, .int x15), (0, .ref 29), (1, .long l1)]) dX4_groupsHold_32 (by decide) rfl ?_
    refine sx_aload_n (pc := 34) dX4_groupsHold_34 sx_m2 ?_
    refine sv_getO (pc := 35) hG dX4_groupsHold_35 f_4_9 lay_29 rfl cr_29_0 ?_
    refine sx_iload_n (pc := 38) dX4_groupsHold_38 sx_m1 ?_
    refine sx_bipush (pc := 39) (v := 12) dX4_groupsHold_39 (by decide) ?_
    refine sx_iadd (pc := 41) dX4_groupsHold_41 ?_
    obtain ⟨⟨x21, V19⟩, g20, h⟩ := sx_bnd h
    refine sv_cV (pc := 42) (y := qX2_u4) (o := (some (.long x21))) (as := [.int (x15 + (12 : Int32))]) (V1 := V19) hG dX4_groupsHold_42 l_X4_74 y0X2_u4 yvX2_u4 rfl (Nat.le_of_ble_eq_true rfl) lay_2 kr_2 (by decide) (Nat.le_of_ble_eq_true rfl) rfl rfl rfl (t_X2_u4 hG ⟨rfl, rfl⟩ g20) ?_
    refine sx_lstore (pc := 45) (lo' := [(6, .long x21), (4, .long x18), (3, .int x15), (0, .ref 29), (1, .long l1)]) dX4_groupsHold_45 (by decide) rfl ?_
    refine sx_lload_n (pc := 47) dX4_groupsHold_47 sx_m4 ?_
    refine sx_lload (pc := 48) dX4_groupsHold_48 sx_m1 ?_
    refine sx_ladd (pc := 50) dX4_groupsHold_50 ?_
    refine sx_aload_n (pc := 51) dX4_groupsHold_51 sx_m3 ?_
    refine sv_getO (pc := 52) hG dX4_groupsHold_52 f_4_9 lay_29 rfl cr_29_0 ?_
    refine sv_getA (pc := 55) hG dX4_groupsHold_55 f_4_118 lay_2 rfl cr_2_4 ?_
    refine sx_iconst (pc := 58) (v := 0) dX4_groupsHold_58 (by decide) ?_
    refine sv_iald (pc := 59) hG dX4_groupsHold_59 lay_5 (by decide) ?_
    refine sx_i2l (pc := 60) dX4_groupsHold_60 ?_
    refine sx_lcmp (pc := 61) dX4_groupsHold_61 ?_
    refine sx_if_gt (pc := 62) (tgt := 97) dX4_groupsHold_62 (by decide) (fun c22 => ?_) (fun c22 => ?_)
    · have h := sx_pos c22 h
      refine sx_iconst (pc := 97) (v := 0) dX4_groupsHold_97 (by decide) ?_
      exact sv_zret (pc := 98) dX4_groupsHold_98 rfl rfl h hP
    · have h := sx_neg c22 h
      refine sx_lload (pc := 65) dX4_groupsHold_65 sx_m0 ?_
      refine sx_lconst (pc := 67) (v := 1) dX4_groupsHold_67 rfl ?_
      refine sx_lcmp (pc := 68) dX4_groupsHold_68 ?_
      refine sx_if_lt (pc := 69) (tgt := 97) dX4_groupsHold_69 (by decide) (fun c23 => ?_) (fun c23 => ?_)
      · have h := sx_pos c23 h
        refine sx_iconst (pc := 97) (v := 0) dX4_groupsHold_97 (by decide) ?_
        exact sv_zret (pc := 98) dX4_groupsHold_98 rfl rfl h hP
      · have h := sx_neg c23 h
        refine sx_lload (pc := 72) dX4_groupsHold_72 sx_m0 ?_
        refine sx_ldc2 (pc := 74) dX4_groupsHold_74 k_X4_198 ?_
        refine sx_lcmp (pc := 77) dX4_groupsHold_77 ?_
        refine sx_if_gt (pc := 78) (tgt := 97) dX4_groupsHold_78 (by decide) (fun c24 => ?_) (fun c24 => ?_)
        · have h := sx_pos c24 h
          refine sx_iconst (pc := 97) (v := 0) dX4_groupsHold_97 (by decide) ?_
          exact sv_zret (pc := 98) dX4_groupsHold_98 rfl rfl h hP
        · have h := sx_neg c24 h
          refine sx_ldc2 (pc := 81) dX4_groupsHold_81 k_X4_200 ?_
          refine sx_ldc2 (pc := 84) dX4_groupsHold_84 k_X4_202 ?_
          refine sx_lload (pc := 87) dX4_groupsHold_87 sx_m0 ?_
          refine sx_lmul (pc := 89) dX4_groupsHold_89 ?_
          refine sx_ladd (pc := 90) dX4_groupsHold_90 ?_
          refine sx_lload (pc := 91) dX4_groupsHold_91 sx_m1 ?_
          refine sx_lcmp (pc := 93) dX4_groupsHold_93 ?_
          refine sx_if_le (pc := 94) (tgt := 99) dX4_groupsHold_94 (by decide) (fun c25 => ?_) (fun c25 => ?_)
          · have h := sx_pos c25 h
            refine sx_aload_n (pc := 99) dX4_groupsHold_99 sx_m3 ?_
            refine sv_getO (pc := 100) hG dX4_groupsHold_100 f_4_9 lay_29 rfl cr_29_0 ?_
            refine sx_lload (pc := 103) dX4_groupsHold_103 sx_m1 ?_
            refine sx_l2i (pc := 105) dX4_groupsHold_105 ?_
            obtain ⟨V26, hV26⟩ : ∃ z : sv_V, z = sv_I V19 2 13 x18.toInt32 := ⟨_, rfl⟩
            have h := sx_letE hV26 h
            refine sv_putI (pc := 106) hG dX4_groupsHold_106 f_4_187 lay_2 rfl hV26 ?_
            refine sx_aload_n (pc := 109) dX4_groupsHold_109 sx_m3 ?_
            refine sv_getO (pc := 110) hG dX4_groupsHold_110 f_4_9 lay_29 rfl cr_29_0 ?_
            refine sx_lload (pc := 113) dX4_groupsHold_113 sx_m0 ?_
            refine sx_l2i (pc := 115) dX4_groupsHold_115 ?_
            obtain ⟨V27, hV27⟩ : ∃ z : sv_V, z = sv_I V26 2 14 x21.toInt32 := ⟨_, rfl⟩
            have h := sx_letE hV27 h
            refine sv_putI (pc := 116) hG dX4_groupsHold_116 f_4_190 lay_2 rfl hV27 ?_
            refine sx_ldc2 (pc := 119) dX4_groupsHold_119 k_X4_169 ?_
            refine sx_lstore (pc := 122) (lo' := [(8, .long (-1 : Int64)), (6, .long x21), (4, .long x18), (3, .int x15), (0, .ref 29), (1, .long l1)]) dX4_groupsHold_122 (by decide) rfl ?_
            refine sx_iconst (pc := 124) (v := 0) dX4_groupsHold_124 (by decide) ?_
            refine sx_istore (pc := 125) (lo' := [(10, .int (0 : Int32)), (8, .long (-1 : Int64)), (6, .long x21), (4, .long x18), (3, .int x15), (0, .ref 29), (1, .long l1)]) dX4_groupsHold_125 (by decide) rfl ?_
            refine sx_wk (sx_s1 sx_m5 (sx_s1 sx_m4 (sx_s1 sx_m2 (sx_s1 sx_m1 (sx_s1 sx_m0 sx_s0))))) ?_
            exact tL_X4_groupsHold_127 hG hP  N _ _ _ _ _ h
          · have h := sx_neg c25 h
            refine sx_iconst (pc := 97) (v := 0) dX4_groupsHold_97 (by decide) ?_
            exact sv_zret (pc := 98) dX4_groupsHold_98 rfl rfl h hP
  · have h := sx_pos c14 h
    refine sx_iconst (pc := 12) (v := 0) dX4_groupsHold_12 (by decide) ?_
    exact sv_zret (pc := 13) dX4_groupsHold_13 rfl rfl h hP
end
section
/-! methods: X4_kernHolds, X4_programsHold, X5_beginCount, X5_failOutside, X5_isAtEnd, X5_beginStep, X5_pop, X5_push, X5_zone, X5_touchBits, X5_isZone, X5_setZones, X5_setLoop, X5_setShift, X5_jump, X5_passCode, X5_passBranch, X5_passDefinition, X5_isDefining, X5_noteRoutine, X5_enter, X5_endRoutine, X5_doubleTop, X5_rollTop, X5_reachBelow, X5_pushBehind -/
def ncX4_kernHolds : Nat := 22476535686220167688395370650509158086263287352037668135143179938716122997508891897881367234091143951481342881350249515364511569438543630920644863073700309601857811415611917521743270343633740986915427566827010533428597241862916336100910356476448085183559688344604734372808587795878385916200227388374073074132601283416287994184789761952380471111156517015298691029038047505316807595158802324974267317198612955409366102882688844583338778625203811370
theorem kcX4_kernHolds : CK cX4_kernHolds ncX4_kernHolds 185 := ⟨by decide +kernel, by decide +kernel⟩
theorem dX4_kernHolds_0 : decode cX4_kernHolds 0 = .ok (.aload_n 0, 1) := dl_o42 kcX4_kernHolds (by decide +kernel)
theorem dX4_kernHolds_1 : decode cX4_kernHolds 1 = .ok (.getfield 9, 3) := dl_o180 kcX4_kernHolds (by decide +kernel)
theorem dX4_kernHolds_4 : decode cX4_kernHolds 4 = .ok (.iconst 0, 1) := dl_o3 kcX4_kernHolds (by decide +kernel)
theorem dX4_kernHolds_5 : decode cX4_kernHolds 5 = .ok (.putfield 204, 3) := dl_o181 kcX4_kernHolds (by decide +kernel)
theorem dX4_kernHolds_8 : decode cX4_kernHolds 8 = .ok (.aload_n 0, 1) := dl_o42 kcX4_kernHolds (by decide +kernel)
theorem dX4_kernHolds_9 : decode cX4_kernHolds 9 = .ok (.getfield 9, 3) := dl_o180 kcX4_kernHolds (by decide +kernel)
theorem dX4_kernHolds_12 : decode cX4_kernHolds 12 = .ok (.bipush 7, 2) := dl_o16 kcX4_kernHolds 7 (by decide +kernel) (by decide +kernel)
theorem dX4_kernHolds_14 : decode cX4_kernHolds 14 = .ok (.invokevirtual 121, 3) := dl_o182 kcX4_kernHolds (by decide +kernel)
theorem dX4_kernHolds_17 : decode cX4_kernHolds 17 = .ok (.ifCond .ne 5, 3) := dl_o154 kcX4_kernHolds 5 (by decide +kernel) (by decide +kernel)
theorem dX4_kernHolds_20 : decode cX4_kernHolds 20 = .ok (.iconst 1, 1) := dl_o4 kcX4_kernHolds (by decide +kernel)
theorem dX4_kernHolds_21 : decode cX4_kernHolds 21 = .ok (.ireturn, 1) := dl_o172 kcX4_kernHolds (by decide +kernel)
theorem dX4_kernHolds_22 : decode cX4_kernHolds 22 = .ok (.aload_n 0, 1) := dl_o42 kcX4_kernHolds (by decide +kernel)
theorem dX4_kernHolds_23 : decode cX4_kernHolds 23 = .ok (.getfield 9, 3) := dl_o180 kcX4_kernHolds (by decide +kernel)
theorem dX4_kernHolds_26 : decode cX4_kernHolds 26 = .ok (.getfield 115, 3) := dl_o180 kcX4_kernHolds (by decide +kernel)
theorem dX4_kernHolds_29 : decode cX4_kernHolds 29 = .ok (.bipush 7, 2) := dl_o16 kcX4_kernHolds 7 (by decide +kernel) (by decide +kernel)
theorem dX4_kernHolds_31 : decode cX4_kernHolds 31 = .ok (.iaload, 1) := dl_o46 kcX4_kernHolds (by decide +kernel)
theorem dX4_kernHolds_32 : decode cX4_kernHolds 32 = .ok (.istore_n 1, 1) := dl_o60 kcX4_kernHolds (by decide +kernel)
theorem dX4_kernHolds_33 : decode cX4_kernHolds 33 = .ok (.aload_n 0, 1) := dl_o42 kcX4_kernHolds (by decide +kernel)
theorem dX4_kernHolds_34 : decode cX4_kernHolds 34 = .ok (.getfield 9, 3) := dl_o180 kcX4_kernHolds (by decide +kernel)
theorem dX4_kernHolds_37 : decode cX4_kernHolds 37 = .ok (.getfield 118, 3) := dl_o180 kcX4_kernHolds (by decide +kernel)
theorem dX4_kernHolds_40 : decode cX4_kernHolds 40 = .ok (.bipush 7, 2) := dl_o16 kcX4_kernHolds 7 (by decide +kernel) (by decide +kernel)
theorem dX4_kernHolds_42 : decode cX4_kernHolds 42 = .ok (.iaload, 1) := dl_o46 kcX4_kernHolds (by decide +kernel)
theorem dX4_kernHolds_43 : decode cX4_kernHolds 43 = .ok (.istore_n 2, 1) := dl_o61 kcX4_kernHolds (by decide +kernel)
theorem dX4_kernHolds_44 : decode cX4_kernHolds 44 = .ok (.aload_n 0, 1) := dl_o42 kcX4_kernHolds (by decide +kernel)
theorem dX4_kernHolds_45 : decode cX4_kernHolds 45 = .ok (.getfield 9, 3) := dl_o180 kcX4_kernHolds (by decide +kernel)
theorem dX4_kernHolds_48 : decode cX4_kernHolds 48 = .ok (.iload_n 1, 1) := dl_o27 kcX4_kernHolds (by decide +kernel)
theorem dX4_kernHolds_49 : decode cX4_kernHolds 49 = .ok (.bipush 10, 2) := dl_o16 kcX4_kernHolds 10 (by decide +kernel) (by decide +kernel)
theorem dX4_kernHolds_51 : decode cX4_kernHolds 51 = .ok (.iadd, 1) := dl_o96 kcX4_kernHolds (by decide +kernel)
theorem dX4_kernHolds_52 : decode cX4_kernHolds 52 = .ok (.invokevirtual 64, 3) := dl_o182 kcX4_kernHolds (by decide +kernel)
theorem dX4_kernHolds_55 : decode cX4_kernHolds 55 = .ok (.istore_n 3, 1) := dl_o62 kcX4_kernHolds (by decide +kernel)
theorem dX4_kernHolds_56 : decode cX4_kernHolds 56 = .ok (.iload_n 2, 1) := dl_o28 kcX4_kernHolds (by decide +kernel)
theorem dX4_kernHolds_57 : decode cX4_kernHolds 57 = .ok (.bipush 18, 2) := dl_o16 kcX4_kernHolds 18 (by decide +kernel) (by decide +kernel)
theorem dX4_kernHolds_59 : decode cX4_kernHolds 59 = .ok (.if_icmp .lt 61, 3) := dl_o161 kcX4_kernHolds 61 (by decide +kernel) (by decide +kernel)
theorem dX4_kernHolds_62 : decode cX4_kernHolds 62 = .ok (.aload_n 0, 1) := dl_o42 kcX4_kernHolds (by decide +kernel)
theorem dX4_kernHolds_63 : decode cX4_kernHolds 63 = .ok (.getfield 9, 3) := dl_o180 kcX4_kernHolds (by decide +kernel)
theorem dX4_kernHolds_66 : decode cX4_kernHolds 66 = .ok (.iload_n 1, 1) := dl_o27 kcX4_kernHolds (by decide +kernel)
theorem dX4_kernHolds_67 : decode cX4_kernHolds 67 = .ok (.invokevirtual 64, 3) := dl_o182 kcX4_kernHolds (by decide +kernel)
theorem dX4_kernHolds_70 : decode cX4_kernHolds 70 = .ok (.ifCond .ne 50, 3) := dl_o154 kcX4_kernHolds 50 (by decide +kernel) (by decide +kernel)
theorem dX4_kernHolds_73 : decode cX4_kernHolds 73 = .ok (.aload_n 0, 1) := dl_o42 kcX4_kernHolds (by decide +kernel)
theorem dX4_kernHolds_74 : decode cX4_kernHolds 74 = .ok (.getfield 9, 3) := dl_o180 kcX4_kernHolds (by decide +kernel)
theorem dX4_kernHolds_77 : decode cX4_kernHolds 77 = .ok (.iload_n 1, 1) := dl_o27 kcX4_kernHolds (by decide +kernel)
theorem dX4_kernHolds_78 : decode cX4_kernHolds 78 = .ok (.iconst 2, 1) := dl_o5 kcX4_kernHolds (by decide +kernel)
theorem dX4_kernHolds_79 : decode cX4_kernHolds 79 = .ok (.iadd, 1) := dl_o96 kcX4_kernHolds (by decide +kernel)
theorem dX4_kernHolds_80 : decode cX4_kernHolds 80 = .ok (.invokevirtual 64, 3) := dl_o182 kcX4_kernHolds (by decide +kernel)
theorem dX4_kernHolds_83 : decode cX4_kernHolds 83 = .ok (.iconst 1, 1) := dl_o4 kcX4_kernHolds (by decide +kernel)
theorem dX4_kernHolds_84 : decode cX4_kernHolds 84 = .ok (.if_icmp .lt 36, 3) := dl_o161 kcX4_kernHolds 36 (by decide +kernel) (by decide +kernel)
theorem dX4_kernHolds_87 : decode cX4_kernHolds 87 = .ok (.aload_n 0, 1) := dl_o42 kcX4_kernHolds (by decide +kernel)
theorem dX4_kernHolds_88 : decode cX4_kernHolds 88 = .ok (.getfield 9, 3) := dl_o180 kcX4_kernHolds (by decide +kernel)
theorem dX4_kernHolds_91 : decode cX4_kernHolds 91 = .ok (.iload_n 1, 1) := dl_o27 kcX4_kernHolds (by decide +kernel)
theorem dX4_kernHolds_92 : decode cX4_kernHolds 92 = .ok (.bipush 8, 2) := dl_o16 kcX4_kernHolds 8 (by decide +kernel) (by decide +kernel)
theorem dX4_kernHolds_94 : decode cX4_kernHolds 94 = .ok (.iadd, 1) := dl_o96 kcX4_kernHolds (by decide +kernel)
theorem dX4_kernHolds_95 : decode cX4_kernHolds 95 = .ok (.invokevirtual 64, 3) := dl_o182 kcX4_kernHolds (by decide +kernel)
theorem dX4_kernHolds_98 : decode cX4_kernHolds 98 = .ok (.iconst 1, 1) := dl_o4 kcX4_kernHolds (by decide +kernel)
theorem dX4_kernHolds_99 : decode cX4_kernHolds 99 = .ok (.if_icmp .ne 21, 3) := dl_o160 kcX4_kernHolds 21 (by decide +kernel) (by decide +kernel)
theorem dX4_kernHolds_102 : decode cX4_kernHolds 102 = .ok (.iload_n 3, 1) := dl_o29 kcX4_kernHolds (by decide +kernel)
theorem dX4_kernHolds_103 : decode cX4_kernHolds 103 = .ok (.sipush 500, 3) := dl_o17 kcX4_kernHolds 500 (by decide +kernel) (by decide +kernel)
theorem dX4_kernHolds_106 : decode cX4_kernHolds 106 = .ok (.if_icmp .gt 14, 3) := dl_o163 kcX4_kernHolds 14 (by decide +kernel) (by decide +kernel)
theorem dX4_kernHolds_109 : decode cX4_kernHolds 109 = .ok (.bipush 18, 2) := dl_o16 kcX4_kernHolds 18 (by decide +kernel) (by decide +kernel)
theorem dX4_kernHolds_111 : decode cX4_kernHolds 111 = .ok (.bipush 6, 2) := dl_o16 kcX4_kernHolds 6 (by decide +kernel) (by decide +kernel)
theorem dX4_kernHolds_113 : decode cX4_kernHolds 113 = .ok (.iload_n 3, 1) := dl_o29 kcX4_kernHolds (by decide +kernel)
theorem dX4_kernHolds_114 : decode cX4_kernHolds 114 = .ok (.imul, 1) := dl_o104 kcX4_kernHolds (by decide +kernel)
theorem dX4_kernHolds_115 : decode cX4_kernHolds 115 = .ok (.iadd, 1) := dl_o96 kcX4_kernHolds (by decide +kernel)
theorem dX4_kernHolds_116 : decode cX4_kernHolds 116 = .ok (.iload_n 2, 1) := dl_o28 kcX4_kernHolds (by decide +kernel)
theorem dX4_kernHolds_117 : decode cX4_kernHolds 117 = .ok (.if_icmp .le 5, 3) := dl_o164 kcX4_kernHolds 5 (by decide +kernel) (by decide +kernel)
theorem dX4_kernHolds_120 : decode cX4_kernHolds 120 = .ok (.iconst 0, 1) := dl_o3 kcX4_kernHolds (by decide +kernel)
theorem dX4_kernHolds_121 : decode cX4_kernHolds 121 = .ok (.ireturn, 1) := dl_o172 kcX4_kernHolds (by decide +kernel)
theorem dX4_kernHolds_122 : decode cX4_kernHolds 122 = .ok (.ldc2_w 169, 3) := dl_o20 kcX4_kernHolds (by decide +kernel)
theorem dX4_kernHolds_125 : decode cX4_kernHolds 125 = .ok (.lstore 4, 2) := dl_o55 kcX4_kernHolds (by decide +kernel)
theorem dX4_kernHolds_127 : decode cX4_kernHolds 127 = .ok (.iconst 0, 1) := dl_o3 kcX4_kernHolds (by decide +kernel)
theorem dX4_kernHolds_128 : decode cX4_kernHolds 128 = .ok (.istore 6, 2) := dl_o54 kcX4_kernHolds (by decide +kernel)
theorem dX4_kernHolds_130 : decode cX4_kernHolds 130 = .ok (.iload 6, 2) := dl_o21 kcX4_kernHolds (by decide +kernel)
theorem dX4_kernHolds_132 : decode cX4_kernHolds 132 = .ok (.iload_n 3, 1) := dl_o29 kcX4_kernHolds (by decide +kernel)
theorem dX4_kernHolds_133 : decode cX4_kernHolds 133 = .ok (.if_icmp .ge 42, 3) := dl_o162 kcX4_kernHolds 42 (by decide +kernel) (by decide +kernel)
theorem dX4_kernHolds_136 : decode cX4_kernHolds 136 = .ok (.aload_n 0, 1) := dl_o42 kcX4_kernHolds (by decide +kernel)
theorem dX4_kernHolds_137 : decode cX4_kernHolds 137 = .ok (.getfield 9, 3) := dl_o180 kcX4_kernHolds (by decide +kernel)
theorem dX4_kernHolds_140 : decode cX4_kernHolds 140 = .ok (.iload_n 1, 1) := dl_o27 kcX4_kernHolds (by decide +kernel)
theorem dX4_kernHolds_141 : decode cX4_kernHolds 141 = .ok (.bipush 18, 2) := dl_o16 kcX4_kernHolds 18 (by decide +kernel) (by decide +kernel)
theorem dX4_kernHolds_143 : decode cX4_kernHolds 143 = .ok (.iadd, 1) := dl_o96 kcX4_kernHolds (by decide +kernel)
theorem dX4_kernHolds_144 : decode cX4_kernHolds 144 = .ok (.bipush 6, 2) := dl_o16 kcX4_kernHolds 6 (by decide +kernel) (by decide +kernel)
theorem dX4_kernHolds_146 : decode cX4_kernHolds 146 = .ok (.iload 6, 2) := dl_o21 kcX4_kernHolds (by decide +kernel)
theorem dX4_kernHolds_148 : decode cX4_kernHolds 148 = .ok (.imul, 1) := dl_o104 kcX4_kernHolds (by decide +kernel)
theorem dX4_kernHolds_149 : decode cX4_kernHolds 149 = .ok (.iadd, 1) := dl_o96 kcX4_kernHolds (by decide +kernel)
theorem dX4_kernHolds_150 : decode cX4_kernHolds 150 = .ok (.invokevirtual 74, 3) := dl_o182 kcX4_kernHolds (by decide +kernel)
theorem dX4_kernHolds_153 : decode cX4_kernHolds 153 = .ok (.lstore 7, 2) := dl_o55 kcX4_kernHolds (by decide +kernel)
theorem dX4_kernHolds_155 : decode cX4_kernHolds 155 = .ok (.lload 7, 2) := dl_o22 kcX4_kernHolds (by decide +kernel)
theorem dX4_kernHolds_157 : decode cX4_kernHolds 157 = .ok (.lload 4, 2) := dl_o22 kcX4_kernHolds (by decide +kernel)
theorem dX4_kernHolds_159 : decode cX4_kernHolds 159 = .ok (.lcmp, 1) := dl_o148 kcX4_kernHolds (by decide +kernel)
theorem dX4_kernHolds_160 : decode cX4_kernHolds 160 = .ok (.ifCond .gt 5, 3) := dl_o157 kcX4_kernHolds 5 (by decide +kernel) (by decide +kernel)
theorem dX4_kernHolds_163 : decode cX4_kernHolds 163 = .ok (.iconst 0, 1) := dl_o3 kcX4_kernHolds (by decide +kernel)
theorem dX4_kernHolds_164 : decode cX4_kernHolds 164 = .ok (.ireturn, 1) := dl_o172 kcX4_kernHolds (by decide +kernel)
theorem dX4_kernHolds_165 : decode cX4_kernHolds 165 = .ok (.lload 7, 2) := dl_o22 kcX4_kernHolds (by decide +kernel)
theorem dX4_kernHolds_167 : decode cX4_kernHolds 167 = .ok (.lstore 4, 2) := dl_o55 kcX4_kernHolds (by decide +kernel)
theorem dX4_kernHolds_169 : decode cX4_kernHolds 169 = .ok (.iinc 6 1, 3) := by decide +kernel
theorem dX4_kernHolds_172 : decode cX4_kernHolds 172 = .ok (.goto (-42), 3) := dl_o167 kcX4_kernHolds 65494 (by decide +kernel) (by decide +kernel)
theorem dX4_kernHolds_175 : decode cX4_kernHolds 175 = .ok (.aload_n 0, 1) := dl_o42 kcX4_kernHolds (by decide +kernel)
theorem dX4_kernHolds_176 : decode cX4_kernHolds 176 = .ok (.getfield 9, 3) := dl_o180 kcX4_kernHolds (by decide +kernel)
theorem dX4_kernHolds_179 : decode cX4_kernHolds 179 = .ok (.iload_n 3, 1) := dl_o29 kcX4_kernHolds (by decide +kernel)
theorem dX4_kernHolds_180 : decode cX4_kernHolds 180 = .ok (.putfield 204, 3) := dl_o181 kcX4_kernHolds (by decide +kernel)
theorem dX4_kernHolds_183 : decode cX4_kernHolds 183 = .ok (.iconst 1, 1) := dl_o4 kcX4_kernHolds (by decide +kernel)
theorem dX4_kernHolds_184 : decode cX4_kernHolds 184 = .ok (.ireturn, 1) := dl_o172 kcX4_kernHolds (by decide +kernel)
def B_X4_kernHolds_130 (N : Nat) (k130 : Int32 → Int32 → Int64 → Int32 → sv_V → Option (Int32 × sv_V)) (l1 : Int32) (l3 : Int32) (l4 : Int64) (l6 : Int32) (V : sv_V) : Option (Int32 × sv_V) := if l3 ≤ l6 then (sx_let (sv_I V 2 15 l3) (fun V2 => some ((1 : Int32), V2))) else ((F_X2_u4 ((l1 + (18 : Int32)) + ((6 : Int32) * l6)) V).bind (fun (x5, V3) => if 0 < (lg_cmp x5 l4) then (sx_let (l6 + 1) (fun x7 => k130 l1 l3 x5 x7 V3)) else (some ((0 : Int32), V3))))
set_option maxRecDepth 20000 in
theorem tB_X4_kernHolds_130 {g : sx_G} (hG : sx_Go g) {P : Option Value → sv_V → Prop} {r : Int32} {Vr : sv_V} (hP : P (some (.int r)) Vr) {N : Nat} {k130 : Int32 → Int32 → Int64 → Int32 → sv_V → Option (Int32 × sv_V)} (hk130 : ∀ (l1 : Int32) (l3 : Int32) (l4 : Int64) (l6 : Int32) (V : sv_V), k130 l1 l3 l4 l6 V = some (r, Vr) → sv_N g qX4_kernHolds 2 130 [(0, .ref 29), (1, .int l1), (3, .int l3), (4, .long l4), (6, .int l6)] [] V P) {l1 : Int32} {l3 : Int32} {l4 : Int64} {l6 : Int32} {V : sv_V} (h : B_X4_kernHolds_130 N k130 l1 l3 l4 l6 V = some (r, Vr)) : sv_N g qX4_kernHolds 2 130 [(0, .ref 29), (1, .int l1), (3, .int l3), (4, .long l4), (6, .int l6)] [] V P := by
  unfold B_X4_kernHolds_130 at h
  refine sx_iload (pc := 130) dX4_kernHolds_130 sx_m4 ?_
  refine sx_iload_n (pc := 132) dX4_kernHolds_132 sx_m2 ?_
  refine sx_icmp_ge (pc := 133) (tgt := 175) dX4_kernHolds_133 (by decide) (fun c1 => ?_) (fun c1 => ?_)
  · have h := sx_pos c1 h
    refine sx_aload_n (pc := 175) dX4_kernHolds_175 sx_m0 ?_
    refine sv_getO (pc := 176) hG dX4_kernHolds_176 f_4_9 lay_29 rfl cr_29_0 ?_
    refine sx_iload_n (pc := 179) dX4_kernHolds_179 sx_m2 ?_
    obtain ⟨V2, hV2⟩ : ∃ z : sv_V, z = sv_I V 2 15 l3 := ⟨_, rfl⟩
    have h := sx_letE hV2 h
    refine sv_putI (pc := 180) hG dX4_kernHolds_180 f_4_204 lay_2 rfl hV2 ?_
    refine sx_iconst (pc := 183) (v := 1) dX4_kernHolds_183 (by decide) ?_
    exact sv_zret (pc := 184) dX4_kernHolds_184 rfl rfl h hP
  · have h := sx_neg c1 h
    refine sx_aload_n (pc := 136) dX4_kernHolds_136 sx_m0 ?_
    refine sv_getO (pc := 137) hG dX4_kernHolds_137 f_4_9 lay_29 rfl cr_29_0 ?_
    refine sx_iload_n (pc := 140) dX4_kernHolds_140 sx_m1 ?_
    refine sx_bipush (pc := 141) (v := 18) dX4_kernHolds_141 (by decide) ?_
    refine sx_iadd (pc := 143) dX4_kernHolds_143 ?_
    refine sx_bipush (pc := 144) (v := 6) dX4_kernHolds_144 (by decide) ?_
    refine sx_iload (pc := 146) dX4_kernHolds_146 sx_m4 ?_
    refine sx_imul (pc := 148) dX4_kernHolds_148 ?_
    refine sx_iadd (pc := 149) dX4_kernHolds_149 ?_
    obtain ⟨⟨x5, V3⟩, g4, h⟩ := sx_bnd h
    refine sv_cV (pc := 150) (y := qX2_u4) (o := (some (.long x5))) (as := [.int ((l1 + (18 : Int32)) + ((6 : Int32) * l6))]) (V1 := V3) hG dX4_kernHolds_150 l_X4_74 y0X2_u4 yvX2_u4 rfl (Nat.le_of_ble_eq_true rfl) lay_2 kr_2 (by decide) (Nat.le_of_ble_eq_true rfl) rfl rfl rfl (t_X2_u4 hG ⟨rfl, rfl⟩ g4) ?_
    refine sx_lstore (pc := 153) (lo' := [(7, .long x5), (0, .ref 29), (1, .int l1), (3, .int l3), (4, .long l4), (6, .int l6)]) dX4_kernHolds_153 (by decide) rfl ?_
    refine sx_lload (pc := 155) dX4_kernHolds_155 sx_m0 ?_
    refine sx_lload (pc := 157) dX4_kernHolds_157 sx_m4 ?_
    refine sx_lcmp (pc := 159) dX4_kernHolds_159 ?_
    refine sx_if_gt (pc := 160) (tgt := 165) dX4_kernHolds_160 (by decide) (fun c6 => ?_) (fun c6 => ?_)
    · have h := sx_pos c6 h
      refine sx_lload (pc := 165) dX4_kernHolds_165 sx_m0 ?_
      refine sx_lstore (pc := 167) (lo' := [(4, .long x5), (7, .long x5), (0, .ref 29), (1, .int l1), (3, .int l3), (6, .int l6)]) dX4_kernHolds_167 (by decide) rfl ?_
      obtain ⟨x7, hx7⟩ : ∃ z : Int32, z = l6 + 1 := ⟨_, rfl⟩
      have h := sx_letE hx7 h
      refine sx_iinc (pc := 169) (v := x7) (lo' := [(6, .int x7), (4, .long x5), (7, .long x5), (0, .ref 29), (1, .int l1), (3, .int l3)]) dX4_kernHolds_169 sx_m5 (by rw [hx7]; rfl) (by decide) rfl ?_
      refine sx_goto (pc := 172) (tgt := 130) dX4_kernHolds_172 (by decide) ?_
      refine sx_wk (sx_s1 sx_m3 (sx_s1 sx_m4 (sx_s1 sx_m5 (sx_s1 sx_m1 (sx_s1 sx_m0 sx_s0))))) ?_
      exact hk130 _ _ _ _ _ h
    · have h := sx_neg c6 h
      refine sx_iconst (pc := 163) (v := 0) dX4_kernHolds_163 (by decide) ?_
      exact sv_zret (pc := 164) dX4_kernHolds_164 rfl rfl h hP
theorem tL_X4_kernHolds_130 {g : sx_G} (hG : sx_Go g) {P : Option Value → sv_V → Prop} {r : Int32} {Vr : sv_V} (hP : P (some (.int r)) Vr) {N : Nat}   : ∀ (n : Nat) (l1 : Int32) (l3 : Int32) (l4 : Int64) (l6 : Int32) (V : sv_V), sx_lp5 (B_X4_kernHolds_130 N ) n l1 l3 l4 l6 V = some (r, Vr) → sv_N g qX4_kernHolds 2 130 [(0, .ref 29), (1, .int l1), (3, .int l3), (4, .long l4), (6, .int l6)] [] V P :=
  sx_lp5_ind (fun k0 ih _ _ _ _ V h => tB_X4_kernHolds_130 hG hP ih h)
def F_X4_kernHolds (N : Nat)  (V : sv_V) : Option (Int32 × sv_V) := sx_let (sv_I V 2 15 (0 : Int32)) (fun V8 => (F_X2_hasTable (7 : Int32) V8).bind (fun (x11, V9) => if x11 = 0 then (some ((1 : Int32), V9)) else (sx_let (V9.1 4 (7 : Int32).toNatClampNeg) (fun x13 => sx_let (V9.1 5 (7 : Int32).toNatClampNeg) (fun x14 => (F_X2_u2 (x13 + (10 : Int32)) V9).bind (fun (x17, V15) => if x14 < (18 : Int32) then (some ((0 : Int32), V15)) else ((F_X2_u2 x13 V15).bind (fun (x21, V19) => if x21 = 0 then ((F_X2_u2 (x13 + (2 : Int32)) V19).bind (fun (x25, V23) => if x25 < (1 : Int32) then (some ((0 : Int32), V23)) else ((F_X2_u2 (x13 + (8 : Int32)) V23).bind (fun (x29, V27) => if x29 = (1 : Int32) then (if (500 : Int32) < x17 then (some ((0 : Int32), V27)) else (if ((18 : Int32) + ((6 : Int32) * x17)) ≤ x14 then (sx_lp5 (B_X4_kernHolds_130 N ) N x13 x17 (-1 : Int64) (0 : Int32) V27) else (some ((0 : Int32), V27)))) else (some ((0 : Int32), V27)))))) else (some ((0 : Int32), V19))))))))))
set_option maxRecDepth 20000 in
theorem t_X4_kernHolds {g : sx_G} (hG : sx_Go g) {P : Option Value → sv_V → Prop} {r : Int32} {Vr : sv_V} (hP : P (some (.int r)) Vr) {N : Nat}  {V : sv_V} (h : F_X4_kernHolds N  V = some (r, Vr)) : sv_N g qX4_kernHolds 2 0 [(0, .ref 29)] [] V P := by
  unfold F_X4_kernHolds at h
  refine sx_aload_n (pc := 0) dX4_kernHolds_0 sx_m0 ?_
  refine sv_getO (pc := 1) hG dX4_kernHolds_1 f_4_9 lay_29 rfl cr_29_0 ?_
  refine sx_iconst (pc := 4) (v := 0) dX4_kernHolds_4 (by decide) ?_
  obtain ⟨V8, hV8⟩ : ∃ z : sv_V, z = sv_I V 2 15 (0 : Int32) := ⟨_, rfl⟩
  have h := sx_letE hV8 h
  refine sv_putI (pc := 5) hG dX4_kernHolds_5 f_4_204 lay_2 rfl hV8 ?_
  refine sx_aload_n (pc := 8) dX4_kernHolds_8 sx_m0 ?_
  refine sv_getO (pc := 9) hG dX4_kernHolds_9 f_4_9 lay_29 rfl cr_29_0 ?_
  refine sx_bipush (pc := 12) (v := 7) dX4_kernHolds_12 (by decide) ?_
  obtain ⟨⟨x11, V9⟩, g10, h⟩ := sx_bnd h
  refine sv_cV (pc := 14) (y := qX2_hasTable) (o := (some (.int x11))) (as := [.int (7 : Int32)]) (V1 := V9) hG dX4_kernHolds_14 l_X4_121 y0X2_hasTable yvX2_hasTable rfl (Nat.le_of_ble_eq_true rfl) lay_2 kr_2 (by decide) (Nat.le_of_ble_eq_true rfl) rfl rfl rfl (t_X2_hasTable hG ⟨rfl, rfl⟩ g10) ?_
  refine sx_if_ne (pc := 17) (tgt := 22) dX4_kernHolds_17 (by decide) (fun c12 => ?_) (fun c12 => ?_)
  · have h := sx_neg c12 h
    refine sx_aload_n (pc := 22) dX4_kernHolds_22 sx_m0 ?_
    refine sv_getO (pc := 23) hG dX4_kernHolds_23 f_4_9 lay_29 rfl cr_29_0 ?_
    refine sv_getA (pc := 26) hG dX4_kernHolds_26 f_4_115 lay_2 rfl cr_2_3 ?_
    refine sx_bipush (pc := 29) (v := 7) dX4_kernHolds_29 (by decide) ?_
    refine sv_iald (pc := 31) hG dX4_kernHolds_31 lay_4 (by decide) ?_
    refine sv_tI (fun x13 hx13 => ?_)
    have h := sx_letE hx13 h
    refine sx_istore_n (pc := 32) (lo' := [(1, .int x13), (0, .ref 29)]) dX4_kernHolds_32 (by decide) rfl ?_
    refine sx_aload_n (pc := 33) dX4_kernHolds_33 sx_m1 ?_
    refine sv_getO (pc := 34) hG dX4_kernHolds_34 f_4_9 lay_29 rfl cr_29_0 ?_
    refine sv_getA (pc := 37) hG dX4_kernHolds_37 f_4_118 lay_2 rfl cr_2_4 ?_
    refine sx_bipush (pc := 40) (v := 7) dX4_kernHolds_40 (by decide) ?_
    refine sv_iald (pc := 42) hG dX4_kernHolds_42 lay_5 (by decide) ?_
    refine sv_tI (fun x14 hx14 => ?_)
    have h := sx_letE hx14 h
    refine sx_istore_n (pc := 43) (lo' := [(2, .int x14), (1, .int x13), (0, .ref 29)]) dX4_kernHolds_43 (by decide) rfl ?_
    refine sx_aload_n (pc := 44) dX4_kernHolds_44 sx_m2 ?_
    refine sv_getO (pc := 45) hG dX4_kernHolds_45 f_4_9 lay_29 rfl cr_29_0 ?_
    refine sx_iload_n (pc := 48) dX4_kernHolds_48 sx_m1 ?_
    refine sx_bipush (pc := 49) (v := 10) dX4_kernHolds_49 (by decide) ?_
    refine sx_iadd (pc := 51) dX4_kernHolds_51 ?_
    obtain ⟨⟨x17, V15⟩, g16, h⟩ := sx_bnd h
    refine sv_cV (pc := 52) (y := qX2_u2) (o := (some (.int x17))) (as := [.int (x13 + (10 : Int32))]) (V1 := V15) hG dX4_kernHolds_52 l_X4_64 y0X2_u2 yvX2_u2 rfl (Nat.le_of_ble_eq_true rfl) lay_2 kr_2 (by decide) (Nat.le_of_ble_eq_true rfl) rfl rfl rfl (t_X2_u2 hG ⟨rfl, rfl⟩ g16) ?_
    refine sx_istore_n (pc := 55) (lo' := [(3, .int x17), (2, .int x14), (1, .int x13), (0, .ref 29)]) dX4_kernHolds_55 (by decide) rfl ?_
    refine sx_iload_n (pc := 56) dX4_kernHolds_56 sx_m1 ?_
    refine sx_bipush (pc := 57) (v := 18) dX4_kernHolds_57 (by decide) ?_
    refine sx_icmp_lt (pc := 59) (tgt := 120) dX4_kernHolds_59 (by decide) (fun c18 => ?_) (fun c18 => ?_)
    · have h := sx_pos c18 h
      refine sx_iconst (pc := 120) (v := 0) dX4_kernHolds_120 (by decide) ?_
      exact sv_zret (pc := 121) dX4_kernHolds_121 rfl rfl h hP
    · have h := sx_neg c18 h
      refine sx_aload_n (pc := 62) dX4_kernHolds_62 sx_m3 ?_
      refine sv_getO (pc := 63) hG dX4_kernHolds_63 f_4_9 lay_29 rfl cr_29_0 ?_
      refine sx_iload_n (pc := 66) dX4_kernHolds_66 sx_m2 ?_
      obtain ⟨⟨x21, V19⟩, g20, h⟩ := sx_bnd h
      refine sv_cV (pc := 67) (y := qX2_u2) (o := (some (.int x21))) (as := [.int x13]) (V1 := V19) hG dX4_kernHolds_67 l_X4_64 y0X2_u2 yvX2_u2 rfl (Nat.le_of_ble_eq_true rfl) lay_2 kr_2 (by decide) (Nat.le_of_ble_eq_true rfl) rfl rfl rfl (t_X2_u2 hG ⟨rfl, rfl⟩ g20) ?_
      refine sx_if_ne (pc := 70) (tgt := 120) dX4_kernHolds_70 (by decide) (fun c22 => ?_) (fun c22 => ?_)
      · have h := sx_neg c22 h
        refine sx_iconst (pc := 120) (v := 0) dX4_kernHolds_120 (by decide) ?_
        exact sv_zret (pc := 121) dX4_kernHolds_121 rfl rfl h hP
      · have h := sx_pos c22 h
        refine sx_aload_n (pc := 73) dX4_kernHolds_73 sx_m3 ?_
        refine sv_getO (pc := 74) hG dX4_kernHolds_74 f_4_9 lay_29 rfl cr_29_0 ?_
        refine sx_iload_n (pc := 77) dX4_kernHolds_77 sx_m2 ?_
        refine sx_iconst (pc := 78) (v := 2) dX4_kernHolds_78 (by decide) ?_
        refine sx_iadd (pc := 79) dX4_kernHolds_79 ?_
        obtain ⟨⟨x25, V23⟩, g24, h⟩ := sx_bnd h
        refine sv_cV (pc := 80) (y := qX2_u2) (o := (some (.int x25))) (as := [.int (x13 + (2 : Int32))]) (V1 := V23) hG dX4_kernHolds_80 l_X4_64 y0X2_u2 yvX2_u2 rfl (Nat.le_of_ble_eq_true rfl) lay_2 kr_2 (by decide) (Nat.le_of_ble_eq_true rfl) rfl rfl rfl (t_X2_u2 hG ⟨rfl, rfl⟩ g24) ?_
        refine sx_iconst (pc := 83) (v := 1) dX4_kernHolds_83 (by decide) ?_
        refine sx_icmp_lt (pc := 84) (tgt := 120) dX4_kernHolds_84 (by decide) (fun c26 => ?_) (fun c26 => ?_)
        · have h := sx_pos c26 h
          refine sx_iconst (pc := 120) (v := 0) dX4_kernHolds_120 (by decide) ?_
          exact sv_zret (pc := 121) dX4_kernHolds_121 rfl rfl h hP
        · have h := sx_neg c26 h
          refine sx_aload_n (pc := 87) dX4_kernHolds_87 sx_m3 ?_
          refine sv_getO (pc := 88) hG dX4_kernHolds_88 f_4_9 lay_29 rfl cr_29_0 ?_
          refine sx_iload_n (pc := 91) dX4_kernHolds_91 sx_m2 ?_
          refine sx_bipush (pc := 92) (v := 8) dX4_kernHolds_92 (by decide) ?_
          refine sx_iadd (pc := 94) dX4_kernHolds_94 ?_
          obtain ⟨⟨x29, V27⟩, g28, h⟩ := sx_bnd h
          refine sv_cV (pc := 95) (y := qX2_u2) (o := (some (.int x29))) (as := [.int (x13 + (8 : Int32))]) (V1 := V27) hG dX4_kernHolds_95 l_X4_64 y0X2_u2 yvX2_u2 rfl (Nat.le_of_ble_eq_true rfl) lay_2 kr_2 (by decide) (Nat.le_of_ble_eq_true rfl) rfl rfl rfl (t_X2_u2 hG ⟨rfl, rfl⟩ g28) ?_
          refine sx_iconst (pc := 98) (v := 1) dX4_kernHolds_98 (by decide) ?_
          refine sx_icmp_ne (pc := 99) (tgt := 120) dX4_kernHolds_99 (by decide) (fun c30 => ?_) (fun c30 => ?_)
          · have h := sx_neg c30 h
            refine sx_iconst (pc := 120) (v := 0) dX4_kernHolds_120 (by decide) ?_
            exact sv_zret (pc := 121) dX4_kernHolds_121 rfl rfl h hP
          · have h := sx_pos c30 h
            refine sx_iload_n (pc := 102) dX4_kernHolds_102 sx_m0 ?_
            refine sx_sipush (pc := 103) (v := 500) dX4_kernHolds_103 (by decide) ?_
            refine sx_icmp_gt (pc := 106) (tgt := 120) dX4_kernHolds_106 (by decide) (fun c31 => ?_) (fun c31 => ?_)
            · have h := sx_pos c31 h
              refine sx_iconst (pc := 120) (v := 0) dX4_kernHolds_120 (by decide) ?_
              exact sv_zret (pc := 121) dX4_kernHolds_121 rfl rfl h hP
            · have h := sx_neg c31 h
              refine sx_bipush (pc := 109) (v := 18) dX4_kernHolds_109 (by decide) ?_
              refine sx_bipush (pc := 111) (v := 6) dX4_kernHolds_111 (by decide) ?_
              refine sx_iload_n (pc := 113) dX4_kernHolds_113 sx_m0 ?_
              refine sx_imul (pc := 114) dX4_kernHolds_114 ?_
              refine sx_iadd (pc := 115) dX4_kernHolds_115 ?_
              refine sx_iload_n (pc := 116) dX4_kernHolds_116 sx_m1 ?_
              refine sx_icmp_le (pc := 117) (tgt := 122) dX4_kernHolds_117 (by decide) (fun c32 => ?_) (fun c32 => ?_)
              · have h := sx_pos c32 h
                refine sx_ldc2 (pc := 122) dX4_kernHolds_122 k_X4_169 ?_
                refine sx_lstore (pc := 125) (lo' := [(4, .long (-1 : Int64)), (3, .int x17), (2, .int x14), (1, .int x13), (0, .ref 29)]) dX4_kernHolds_125 (by decide) rfl ?_
                refine sx_iconst (pc := 127) (v := 0) dX4_kernHolds_127 (by decide) ?_
                refine sx_istore (pc := 128) (lo' := [(6, .int (0 : Int32)), (4, .long (-1 : Int64)), (3, .int x17), (2, .int x14), (1, .int x13), (0, .ref 29)]) dX4_kernHolds_128 (by decide) rfl ?_
                refine sx_wk (sx_s1 sx_m5 (sx_s1 sx_m4 (sx_s1 sx_m2 (sx_s1 sx_m1 (sx_s1 sx_m0 sx_s0))))) ?_
                exact tL_X4_kernHolds_130 hG hP  N _ _ _ _ _ h
              · have h := sx_neg c32 h
                refine sx_iconst (pc := 120) (v := 0) dX4_kernHolds_120 (by decide) ?_
                exact sv_zret (pc := 121) dX4_kernHolds_121 rfl rfl h hP
  · have h := sx_pos c12 h
    refine sx_iconst (pc := 20) (v := 1) dX4_kernHolds_20 (by decide) ?_
    exact sv_zret (pc := 21) dX4_kernHolds_21 rfl rfl h hP
def ncX4_programsHold : Nat := 9905486964151199476644369024335453046665434740739653831196629464729118613220786847343270154893876170815298614249396498906547484689785620852702530575093366299205612586
theorem kcX4_programsHold : CK cX4_programsHold ncX4_programsHold 69 := ⟨by decide +kernel, by decide +kernel⟩
theorem dX4_programsHold_0 : decode cX4_programsHold 0 = .ok (.aload_n 0, 1) := dl_o42 kcX4_programsHold (by decide +kernel)
theorem dX4_programsHold_1 : decode cX4_programsHold 1 = .ok (.getfield 9, 3) := dl_o180 kcX4_programsHold (by decide +kernel)
theorem dX4_programsHold_4 : decode cX4_programsHold 4 = .ok (.getfield 118, 3) := dl_o180 kcX4_programsHold (by decide +kernel)
theorem dX4_programsHold_7 : decode cX4_programsHold 7 = .ok (.bipush 8, 2) := dl_o16 kcX4_programsHold 8 (by decide +kernel) (by decide +kernel)
theorem dX4_programsHold_9 : decode cX4_programsHold 9 = .ok (.iaload, 1) := dl_o46 kcX4_programsHold (by decide +kernel)
theorem dX4_programsHold_10 : decode cX4_programsHold 10 = .ok (.iconst 2, 1) := dl_o5 kcX4_programsHold (by decide +kernel)
theorem dX4_programsHold_11 : decode cX4_programsHold 11 = .ok (.irem, 1) := dl_o112 kcX4_programsHold (by decide +kernel)
theorem dX4_programsHold_12 : decode cX4_programsHold 12 = .ok (.ifCond .ne 55, 3) := dl_o154 kcX4_programsHold 55 (by decide +kernel) (by decide +kernel)
theorem dX4_programsHold_15 : decode cX4_programsHold 15 = .ok (.aload_n 0, 1) := dl_o42 kcX4_programsHold (by decide +kernel)
theorem dX4_programsHold_16 : decode cX4_programsHold 16 = .ok (.getfield 9, 3) := dl_o180 kcX4_programsHold (by decide +kernel)
theorem dX4_programsHold_19 : decode cX4_programsHold 19 = .ok (.getfield 118, 3) := dl_o180 kcX4_programsHold (by decide +kernel)
theorem dX4_programsHold_22 : decode cX4_programsHold 22 = .ok (.bipush 8, 2) := dl_o16 kcX4_programsHold 8 (by decide +kernel) (by decide +kernel)
theorem dX4_programsHold_24 : decode cX4_programsHold 24 = .ok (.iaload, 1) := dl_o46 kcX4_programsHold (by decide +kernel)
theorem dX4_programsHold_25 : decode cX4_programsHold 25 = .ok (.sipush 512, 3) := dl_o17 kcX4_programsHold 512 (by decide +kernel) (by decide +kernel)
theorem dX4_programsHold_28 : decode cX4_programsHold 28 = .ok (.if_icmp .gt 39, 3) := dl_o163 kcX4_programsHold 39 (by decide +kernel) (by decide +kernel)
theorem dX4_programsHold_31 : decode cX4_programsHold 31 = .ok (.aload_n 0, 1) := dl_o42 kcX4_programsHold (by decide +kernel)
theorem dX4_programsHold_32 : decode cX4_programsHold 32 = .ok (.getfield 9, 3) := dl_o180 kcX4_programsHold (by decide +kernel)
theorem dX4_programsHold_35 : decode cX4_programsHold 35 = .ok (.getfield 118, 3) := dl_o180 kcX4_programsHold (by decide +kernel)
theorem dX4_programsHold_38 : decode cX4_programsHold 38 = .ok (.bipush 9, 2) := dl_o16 kcX4_programsHold 9 (by decide +kernel) (by decide +kernel)
theorem dX4_programsHold_40 : decode cX4_programsHold 40 = .ok (.iaload, 1) := dl_o46 kcX4_programsHold (by decide +kernel)
theorem dX4_programsHold_41 : decode cX4_programsHold 41 = .ok (.sipush 2000, 3) := dl_o17 kcX4_programsHold 2000 (by decide +kernel) (by decide +kernel)
theorem dX4_programsHold_44 : decode cX4_programsHold 44 = .ok (.if_icmp .gt 23, 3) := dl_o163 kcX4_programsHold 23 (by decide +kernel) (by decide +kernel)
theorem dX4_programsHold_47 : decode cX4_programsHold 47 = .ok (.aload_n 0, 1) := dl_o42 kcX4_programsHold (by decide +kernel)
theorem dX4_programsHold_48 : decode cX4_programsHold 48 = .ok (.getfield 9, 3) := dl_o180 kcX4_programsHold (by decide +kernel)
theorem dX4_programsHold_51 : decode cX4_programsHold 51 = .ok (.getfield 118, 3) := dl_o180 kcX4_programsHold (by decide +kernel)
theorem dX4_programsHold_54 : decode cX4_programsHold 54 = .ok (.bipush 10, 2) := dl_o16 kcX4_programsHold 10 (by decide +kernel) (by decide +kernel)
theorem dX4_programsHold_56 : decode cX4_programsHold 56 = .ok (.iaload, 1) := dl_o46 kcX4_programsHold (by decide +kernel)
theorem dX4_programsHold_57 : decode cX4_programsHold 57 = .ok (.sipush 2000, 3) := dl_o17 kcX4_programsHold 2000 (by decide +kernel) (by decide +kernel)
theorem dX4_programsHold_60 : decode cX4_programsHold 60 = .ok (.if_icmp .gt 7, 3) := dl_o163 kcX4_programsHold 7 (by decide +kernel) (by decide +kernel)
theorem dX4_programsHold_63 : decode cX4_programsHold 63 = .ok (.iconst 1, 1) := dl_o4 kcX4_programsHold (by decide +kernel)
theorem dX4_programsHold_64 : decode cX4_programsHold 64 = .ok (.goto 4, 3) := dl_o167 kcX4_programsHold 4 (by decide +kernel) (by decide +kernel)
theorem dX4_programsHold_67 : decode cX4_programsHold 67 = .ok (.iconst 0, 1) := dl_o3 kcX4_programsHold (by decide +kernel)
theorem dX4_programsHold_68 : decode cX4_programsHold 68 = .ok (.ireturn, 1) := dl_o172 kcX4_programsHold (by decide +kernel)
def F_X4_programsHold  (V : sv_V) : Option (Int32 × sv_V) := if ((V.1 5 (8 : Int32).toNatClampNeg) - (V.1 5 (8 : Int32).toNatClampNeg) / (2 : Int32) * (2 : Int32)) = 0 then (if (512 : Int32) < (V.1 5 (8 : Int32).toNatClampNeg) then (some ((0 : Int32), V)) else (if (2000 : Int32) < (V.1 5 (9 : Int32).toNatClampNeg) then (some ((0 : Int32), V)) else (if (2000 : Int32) < (V.1 5 (10 : Int32).toNatClampNeg) then (some ((0 : Int32), V)) else (some ((1 : Int32), V))))) else (some ((0 : Int32), V))
set_option maxRecDepth 20000 in
theorem t_X4_programsHold {g : sx_G} (hG : sx_Go g) {P : Option Value → sv_V → Prop} {r : Int32} {Vr : sv_V} (hP : P (some (.int r)) Vr)  {V : sv_V} (h : F_X4_programsHold  V = some (r, Vr)) : sv_N g qX4_programsHold 0 0 [(0, .ref 29)] [] V P := by
  unfold F_X4_programsHold at h
  refine sx_aload_n (pc := 0) dX4_programsHold_0 sx_m0 ?_
  refine sv_getO (pc := 1) hG dX4_programsHold_1 f_4_9 lay_29 rfl cr_29_0 ?_
  refine sv_getA (pc := 4) hG dX4_programsHold_4 f_4_118 lay_2 rfl cr_2_4 ?_
  refine sx_bipush (pc := 7) (v := 8) dX4_programsHold_7 (by decide) ?_
  refine sv_iald (pc := 9) hG dX4_programsHold_9 lay_5 (by decide) ?_
  refine sx_iconst (pc := 10) (v := 2) dX4_programsHold_10 (by decide) ?_
  refine sx_irem (pc := 11) dX4_programsHold_11 (by decide) ?_
  refine sx_if_ne (pc := 12) (tgt := 67) dX4_programsHold_12 (by decide) (fun c1 => ?_) (fun c1 => ?_)
  · have h := sx_neg c1 h
    refine sx_iconst (pc := 67) (v := 0) dX4_programsHold_67 (by decide) ?_
    exact sv_zret (pc := 68) dX4_programsHold_68 rfl rfl h hP
  · have h := sx_pos c1 h
    refine sx_aload_n (pc := 15) dX4_programsHold_15 sx_m0 ?_
    refine sv_getO (pc := 16) hG dX4_programsHold_16 f_4_9 lay_29 rfl cr_29_0 ?_
    refine sv_getA (pc := 19) hG dX4_programsHold_19 f_4_118 lay_2 rfl cr_2_4 ?_
    refine sx_bipush (pc := 22) (v := 8) dX4_programsHold_22 (by decide) ?_
    refine sv_iald (pc := 24) hG dX4_programsHold_24 lay_5 (by decide) ?_
    refine sx_sipush (pc := 25) (v := 512) dX4_programsHold_25 (by decide) ?_
    refine sx_icmp_gt (pc := 28) (tgt := 67) dX4_programsHold_28 (by decide) (fun c2 => ?_) (fun c2 => ?_)
    · have h := sx_pos c2 h
      refine sx_iconst (pc := 67) (v := 0) dX4_programsHold_67 (by decide) ?_
      exact sv_zret (pc := 68) dX4_programsHold_68 rfl rfl h hP
    · have h := sx_neg c2 h
      refine sx_aload_n (pc := 31) dX4_programsHold_31 sx_m0 ?_
      refine sv_getO (pc := 32) hG dX4_programsHold_32 f_4_9 lay_29 rfl cr_29_0 ?_
      refine sv_getA (pc := 35) hG dX4_programsHold_35 f_4_118 lay_2 rfl cr_2_4 ?_
      refine sx_bipush (pc := 38) (v := 9) dX4_programsHold_38 (by decide) ?_
      refine sv_iald (pc := 40) hG dX4_programsHold_40 lay_5 (by decide) ?_
      refine sx_sipush (pc := 41) (v := 2000) dX4_programsHold_41 (by decide) ?_
      refine sx_icmp_gt (pc := 44) (tgt := 67) dX4_programsHold_44 (by decide) (fun c3 => ?_) (fun c3 => ?_)
      · have h := sx_pos c3 h
        refine sx_iconst (pc := 67) (v := 0) dX4_programsHold_67 (by decide) ?_
        exact sv_zret (pc := 68) dX4_programsHold_68 rfl rfl h hP
      · have h := sx_neg c3 h
        refine sx_aload_n (pc := 47) dX4_programsHold_47 sx_m0 ?_
        refine sv_getO (pc := 48) hG dX4_programsHold_48 f_4_9 lay_29 rfl cr_29_0 ?_
        refine sv_getA (pc := 51) hG dX4_programsHold_51 f_4_118 lay_2 rfl cr_2_4 ?_
        refine sx_bipush (pc := 54) (v := 10) dX4_programsHold_54 (by decide) ?_
        refine sv_iald (pc := 56) hG dX4_programsHold_56 lay_5 (by decide) ?_
        refine sx_sipush (pc := 57) (v := 2000) dX4_programsHold_57 (by decide) ?_
        refine sx_icmp_gt (pc := 60) (tgt := 67) dX4_programsHold_60 (by decide) (fun c4 => ?_) (fun c4 => ?_)
        · have h := sx_pos c4 h
          refine sx_iconst (pc := 67) (v := 0) dX4_programsHold_67 (by decide) ?_
          exact sv_zret (pc := 68) dX4_programsHold_68 rfl rfl h hP
        · have h := sx_neg c4 h
          refine sx_iconst (pc := 63) (v := 1) dX4_programsHold_63 (by decide) ?_
          refine sx_goto (pc := 64) (tgt := 68) dX4_programsHold_64 (by decide) ?_
          exact sv_zret (pc := 68) dX4_programsHold_68 rfl rfl h hP
def ncX5_beginCount : Nat := 235486253766097461888221565066421797674
theorem kcX5_beginCount : CK cX5_beginCount ncX5_beginCount 16 := ⟨by decide +kernel, by decide +kernel⟩
theorem dX5_beginCount_0 : decode cX5_beginCount 0 = .ok (.aload_n 0, 1) := dl_o42 kcX5_beginCount (by decide +kernel)
theorem dX5_beginCount_1 : decode cX5_beginCount 1 = .ok (.iconst 0, 1) := dl_o3 kcX5_beginCount (by decide +kernel)
theorem dX5_beginCount_2 : decode cX5_beginCount 2 = .ok (.putfield 53, 3) := dl_o181 kcX5_beginCount (by decide +kernel)
theorem dX5_beginCount_5 : decode cX5_beginCount 5 = .ok (.aload_n 0, 1) := dl_o42 kcX5_beginCount (by decide +kernel)
theorem dX5_beginCount_6 : decode cX5_beginCount 6 = .ok (.iconst 0, 1) := dl_o3 kcX5_beginCount (by decide +kernel)
theorem dX5_beginCount_7 : decode cX5_beginCount 7 = .ok (.putfield 56, 3) := dl_o181 kcX5_beginCount (by decide +kernel)
theorem dX5_beginCount_10 : decode cX5_beginCount 10 = .ok (.aload_n 0, 1) := dl_o42 kcX5_beginCount (by decide +kernel)
theorem dX5_beginCount_11 : decode cX5_beginCount 11 = .ok (.iconst (-1), 1) := dl_o2 kcX5_beginCount (by decide +kernel)
theorem dX5_beginCount_12 : decode cX5_beginCount 12 = .ok (.putfield 41, 3) := dl_o181 kcX5_beginCount (by decide +kernel)
theorem dX5_beginCount_15 : decode cX5_beginCount 15 = .ok (.return_, 1) := dl_o177 kcX5_beginCount (by decide +kernel)
def F_X5_beginCount  (V : sv_V) : Option sv_V := sx_let (sv_I V 69 13 (0 : Int32)) (fun V1 => sx_let (sv_I V1 69 14 (0 : Int32)) (fun V2 => sx_let (sv_I V2 69 15 (-1 : Int32)) (fun V3 => some V3)))
set_option maxRecDepth 20000 in
theorem t_X5_beginCount {g : sx_G} (hG : sx_Go g) {P : Option Value → sv_V → Prop} {Vr : sv_V} (hP : P none Vr)  {V : sv_V} (h : F_X5_beginCount  V = some Vr) : sv_N g qX5_beginCount 0 0 [(0, .ref 69)] [] V P := by
  unfold F_X5_beginCount at h
  refine sx_aload_n (pc := 0) dX5_beginCount_0 sx_m0 ?_
  refine sx_iconst (pc := 1) (v := 0) dX5_beginCount_1 (by decide) ?_
  obtain ⟨V1, hV1⟩ : ∃ z : sv_V, z = sv_I V 69 13 (0 : Int32) := ⟨_, rfl⟩
  have h := sx_letE hV1 h
  refine sv_putI (pc := 2) hG dX5_beginCount_2 f_5_53 lay_69 rfl hV1 ?_
  refine sx_aload_n (pc := 5) dX5_beginCount_5 sx_m0 ?_
  refine sx_iconst (pc := 6) (v := 0) dX5_beginCount_6 (by decide) ?_
  obtain ⟨V2, hV2⟩ : ∃ z : sv_V, z = sv_I V1 69 14 (0 : Int32) := ⟨_, rfl⟩
  have h := sx_letE hV2 h
  refine sv_putI (pc := 7) hG dX5_beginCount_7 f_5_56 lay_69 rfl hV2 ?_
  refine sx_aload_n (pc := 10) dX5_beginCount_10 sx_m0 ?_
  refine sx_iconst (pc := 11) (v := (-1)) dX5_beginCount_11 (by decide) ?_
  obtain ⟨V3, hV3⟩ : ∃ z : sv_V, z = sv_I V2 69 15 (-1 : Int32) := ⟨_, rfl⟩
  have h := sx_letE hV3 h
  refine sv_putI (pc := 12) hG dX5_beginCount_12 f_5_41 lay_69 rfl hV3 ?_
  exact sv_vret (pc := 15) dX5_beginCount_15 rfl h hP
def ncX5_failOutside : Nat := 214173500140620910213536554
theorem kcX5_failOutside : CK cX5_failOutside ncX5_failOutside 11 := ⟨by decide +kernel, by decide +kernel⟩
theorem dX5_failOutside_0 : decode cX5_failOutside 0 = .ok (.aload_n 0, 1) := dl_o42 kcX5_failOutside (by decide +kernel)
theorem dX5_failOutside_1 : decode cX5_failOutside 1 = .ok (.iload_n 1, 1) := dl_o27 kcX5_failOutside (by decide +kernel)
theorem dX5_failOutside_2 : decode cX5_failOutside 2 = .ok (.putfield 56, 3) := dl_o181 kcX5_failOutside (by decide +kernel)
theorem dX5_failOutside_5 : decode cX5_failOutside 5 = .ok (.aload_n 0, 1) := dl_o42 kcX5_failOutside (by decide +kernel)
theorem dX5_failOutside_6 : decode cX5_failOutside 6 = .ok (.iconst (-1), 1) := dl_o2 kcX5_failOutside (by decide +kernel)
theorem dX5_failOutside_7 : decode cX5_failOutside 7 = .ok (.putfield 41, 3) := dl_o181 kcX5_failOutside (by decide +kernel)
theorem dX5_failOutside_10 : decode cX5_failOutside 10 = .ok (.return_, 1) := dl_o177 kcX5_failOutside (by decide +kernel)
def F_X5_failOutside (l1 : Int32) (V : sv_V) : Option sv_V := sx_let (sv_I V 69 14 l1) (fun V1 => sx_let (sv_I V1 69 15 (-1 : Int32)) (fun V2 => some V2))
set_option maxRecDepth 20000 in
theorem t_X5_failOutside {g : sx_G} (hG : sx_Go g) {P : Option Value → sv_V → Prop} {Vr : sv_V} (hP : P none Vr) {l1 : Int32} {V : sv_V} (h : F_X5_failOutside l1 V = some Vr) : sv_N g qX5_failOutside 0 0 [(0, .ref 69), (1, .int l1)] [] V P := by
  unfold F_X5_failOutside at h
  refine sx_aload_n (pc := 0) dX5_failOutside_0 sx_m0 ?_
  refine sx_iload_n (pc := 1) dX5_failOutside_1 sx_m1 ?_
  obtain ⟨V1, hV1⟩ : ∃ z : sv_V, z = sv_I V 69 14 l1 := ⟨_, rfl⟩
  have h := sx_letE hV1 h
  refine sv_putI (pc := 2) hG dX5_failOutside_2 f_5_56 lay_69 rfl hV1 ?_
  refine sx_aload_n (pc := 5) dX5_failOutside_5 sx_m0 ?_
  refine sx_iconst (pc := 6) (v := (-1)) dX5_failOutside_6 (by decide) ?_
  obtain ⟨V2, hV2⟩ : ∃ z : sv_V, z = sv_I V1 69 15 (-1 : Int32) := ⟨_, rfl⟩
  have h := sx_letE hV2 h
  refine sv_putI (pc := 7) hG dX5_failOutside_7 f_5_41 lay_69 rfl hV2 ?_
  exact sv_vret (pc := 10) dX5_failOutside_10 rfl h hP
def ncX5_isAtEnd : Nat := 1187214109213879769526919421194717929670673982527712080166747897302397994
theorem kcX5_isAtEnd : CK cX5_isAtEnd ncX5_isAtEnd 30 := ⟨by decide +kernel, by decide +kernel⟩
theorem dX5_isAtEnd_0 : decode cX5_isAtEnd 0 = .ok (.aload_n 0, 1) := dl_o42 kcX5_isAtEnd (by decide +kernel)
theorem dX5_isAtEnd_1 : decode cX5_isAtEnd 1 = .ok (.getfield 93, 3) := dl_o180 kcX5_isAtEnd (by decide +kernel)
theorem dX5_isAtEnd_4 : decode cX5_isAtEnd 4 = .ok (.aload_n 0, 1) := dl_o42 kcX5_isAtEnd (by decide +kernel)
theorem dX5_isAtEnd_5 : decode cX5_isAtEnd 5 = .ok (.getfield 90, 3) := dl_o180 kcX5_isAtEnd (by decide +kernel)
theorem dX5_isAtEnd_8 : decode cX5_isAtEnd 8 = .ok (.if_icmp .ge 5, 3) := dl_o162 kcX5_isAtEnd 5 (by decide +kernel) (by decide +kernel)
theorem dX5_isAtEnd_11 : decode cX5_isAtEnd 11 = .ok (.iconst 0, 1) := dl_o3 kcX5_isAtEnd (by decide +kernel)
theorem dX5_isAtEnd_12 : decode cX5_isAtEnd 12 = .ok (.ireturn, 1) := dl_o172 kcX5_isAtEnd (by decide +kernel)
theorem dX5_isAtEnd_13 : decode cX5_isAtEnd 13 = .ok (.aload_n 0, 1) := dl_o42 kcX5_isAtEnd (by decide +kernel)
theorem dX5_isAtEnd_14 : decode cX5_isAtEnd 14 = .ok (.getfield 21, 3) := dl_o180 kcX5_isAtEnd (by decide +kernel)
theorem dX5_isAtEnd_17 : decode cX5_isAtEnd 17 = .ok (.getfield 99, 3) := dl_o180 kcX5_isAtEnd (by decide +kernel)
theorem dX5_isAtEnd_20 : decode cX5_isAtEnd 20 = .ok (.ifCond .le 8, 3) := dl_o158 kcX5_isAtEnd 8 (by decide +kernel) (by decide +kernel)
theorem dX5_isAtEnd_23 : decode cX5_isAtEnd 23 = .ok (.aload_n 0, 1) := dl_o42 kcX5_isAtEnd (by decide +kernel)
theorem dX5_isAtEnd_24 : decode cX5_isAtEnd 24 = .ok (.iconst 4, 1) := dl_o7 kcX5_isAtEnd (by decide +kernel)
theorem dX5_isAtEnd_25 : decode cX5_isAtEnd 25 = .ok (.putfield 56, 3) := dl_o181 kcX5_isAtEnd (by decide +kernel)
theorem dX5_isAtEnd_28 : decode cX5_isAtEnd 28 = .ok (.iconst 1, 1) := dl_o4 kcX5_isAtEnd (by decide +kernel)
theorem dX5_isAtEnd_29 : decode cX5_isAtEnd 29 = .ok (.ireturn, 1) := dl_o172 kcX5_isAtEnd (by decide +kernel)
def F_X5_isAtEnd  (V : sv_V) : Option (Int32 × sv_V) := if (V.1 69 10) ≤ (V.1 69 11) then (if (V.1 73 9) ≤ 0 then (some ((1 : Int32), V)) else (sx_let (sv_I V 69 14 (4 : Int32)) (fun V3 => some ((1 : Int32), V3)))) else (some ((0 : Int32), V))
set_option maxRecDepth 20000 in
theorem t_X5_isAtEnd {g : sx_G} (hG : sx_Go g) {P : Option Value → sv_V → Prop} {r : Int32} {Vr : sv_V} (hP : P (some (.int r)) Vr)  {V : sv_V} (h : F_X5_isAtEnd  V = some (r, Vr)) : sv_N g qX5_isAtEnd 0 0 [(0, .ref 69)] [] V P := by
  unfold F_X5_isAtEnd at h
  refine sx_aload_n (pc := 0) dX5_isAtEnd_0 sx_m0 ?_
  refine sv_getI (pc := 1) hG dX5_isAtEnd_1 f_5_93 lay_69 rfl ?_
  refine sx_aload_n (pc := 4) dX5_isAtEnd_4 sx_m0 ?_
  refine sv_getI (pc := 5) hG dX5_isAtEnd_5 f_5_90 lay_69 rfl ?_
  refine sx_icmp_ge (pc := 8) (tgt := 13) dX5_isAtEnd_8 (by decide) (fun c1 => ?_) (fun c1 => ?_)
  · have h := sx_pos c1 h
    refine sx_aload_n (pc := 13) dX5_isAtEnd_13 sx_m0 ?_
    refine sv_getO (pc := 14) hG dX5_isAtEnd_14 f_5_21 lay_69 rfl cr_69_2 ?_
    refine sv_getI (pc := 17) hG dX5_isAtEnd_17 f_5_99 lay_73 rfl ?_
    refine sx_if_le (pc := 20) (tgt := 28) dX5_isAtEnd_20 (by decide) (fun c2 => ?_) (fun c2 => ?_)
    · have h := sx_pos c2 h
      refine sx_iconst (pc := 28) (v := 1) dX5_isAtEnd_28 (by decide) ?_
      exact sv_zret (pc := 29) dX5_isAtEnd_29 rfl rfl h hP
    · have h := sx_neg c2 h
      refine sx_aload_n (pc := 23) dX5_isAtEnd_23 sx_m0 ?_
      refine sx_iconst (pc := 24) (v := 4) dX5_isAtEnd_24 (by decide) ?_
      obtain ⟨V3, hV3⟩ : ∃ z : sv_V, z = sv_I V 69 14 (4 : Int32) := ⟨_, rfl⟩
      have h := sx_letE hV3 h
      refine sv_putI (pc := 25) hG dX5_isAtEnd_25 f_5_56 lay_69 rfl hV3 ?_
      refine sx_iconst (pc := 28) (v := 1) dX5_isAtEnd_28 (by decide) ?_
      exact sv_zret (pc := 29) dX5_isAtEnd_29 rfl rfl h hP
  · have h := sx_neg c1 h
    refine sx_iconst (pc := 11) (v := 0) dX5_isAtEnd_11 (by decide) ?_
    exact sv_zret (pc := 12) dX5_isAtEnd_12 rfl rfl h hP
def ncX5_beginStep : Nat := 19253658032429769374210194319805176838124091339842255896555364797524030629110575618123865776258908325624181030486260262934954051533450998841277020917635620255508131453573816136988979285205371084397697350248026981002265671769884865342867646606026519594
theorem kcX5_beginStep : CK cX5_beginStep ncX5_beginStep 104 := ⟨by decide +kernel, by decide +kernel⟩
theorem dX5_beginStep_0 : decode cX5_beginStep 0 = .ok (.aload_n 0, 1) := dl_o42 kcX5_beginStep (by decide +kernel)
theorem dX5_beginStep_1 : decode cX5_beginStep 1 = .ok (.getfield 53, 3) := dl_o180 kcX5_beginStep (by decide +kernel)
theorem dX5_beginStep_4 : decode cX5_beginStep 4 = .ok (.sipush 20000, 3) := dl_o17 kcX5_beginStep 20000 (by decide +kernel) (by decide +kernel)
theorem dX5_beginStep_7 : decode cX5_beginStep 7 = .ok (.if_icmp .lt 11, 3) := dl_o161 kcX5_beginStep 11 (by decide +kernel) (by decide +kernel)
theorem dX5_beginStep_10 : decode cX5_beginStep 10 = .ok (.aload_n 0, 1) := dl_o42 kcX5_beginStep (by decide +kernel)
theorem dX5_beginStep_11 : decode cX5_beginStep 11 = .ok (.bipush 10, 2) := dl_o16 kcX5_beginStep 10 (by decide +kernel) (by decide +kernel)
theorem dX5_beginStep_13 : decode cX5_beginStep 13 = .ok (.putfield 56, 3) := dl_o181 kcX5_beginStep (by decide +kernel)
theorem dX5_beginStep_16 : decode cX5_beginStep 16 = .ok (.iconst 0, 1) := dl_o3 kcX5_beginStep (by decide +kernel)
theorem dX5_beginStep_17 : decode cX5_beginStep 17 = .ok (.ireturn, 1) := dl_o172 kcX5_beginStep (by decide +kernel)
theorem dX5_beginStep_18 : decode cX5_beginStep 18 = .ok (.aload_n 0, 1) := dl_o42 kcX5_beginStep (by decide +kernel)
theorem dX5_beginStep_19 : decode cX5_beginStep 19 = .ok (.dup, 1) := dl_o89 kcX5_beginStep (by decide +kernel)
theorem dX5_beginStep_20 : decode cX5_beginStep 20 = .ok (.getfield 53, 3) := dl_o180 kcX5_beginStep (by decide +kernel)
theorem dX5_beginStep_23 : decode cX5_beginStep 23 = .ok (.iconst 1, 1) := dl_o4 kcX5_beginStep (by decide +kernel)
theorem dX5_beginStep_24 : decode cX5_beginStep 24 = .ok (.iadd, 1) := dl_o96 kcX5_beginStep (by decide +kernel)
theorem dX5_beginStep_25 : decode cX5_beginStep 25 = .ok (.putfield 53, 3) := dl_o181 kcX5_beginStep (by decide +kernel)
theorem dX5_beginStep_28 : decode cX5_beginStep 28 = .ok (.aload_n 0, 1) := dl_o42 kcX5_beginStep (by decide +kernel)
theorem dX5_beginStep_29 : decode cX5_beginStep 29 = .ok (.getfield 45, 3) := dl_o180 kcX5_beginStep (by decide +kernel)
theorem dX5_beginStep_32 : decode cX5_beginStep 32 = .ok (.aload_n 0, 1) := dl_o42 kcX5_beginStep (by decide +kernel)
theorem dX5_beginStep_33 : decode cX5_beginStep 33 = .ok (.getfield 93, 3) := dl_o180 kcX5_beginStep (by decide +kernel)
theorem dX5_beginStep_36 : decode cX5_beginStep 36 = .ok (.invokevirtual 156, 3) := dl_o182 kcX5_beginStep (by decide +kernel)
theorem dX5_beginStep_39 : decode cX5_beginStep 39 = .ok (.istore_n 1, 1) := dl_o60 kcX5_beginStep (by decide +kernel)
theorem dX5_beginStep_40 : decode cX5_beginStep 40 = .ok (.aload_n 0, 1) := dl_o42 kcX5_beginStep (by decide +kernel)
theorem dX5_beginStep_41 : decode cX5_beginStep 41 = .ok (.dup, 1) := dl_o89 kcX5_beginStep (by decide +kernel)
theorem dX5_beginStep_42 : decode cX5_beginStep 42 = .ok (.getfield 93, 3) := dl_o180 kcX5_beginStep (by decide +kernel)
theorem dX5_beginStep_45 : decode cX5_beginStep 45 = .ok (.iconst 1, 1) := dl_o4 kcX5_beginStep (by decide +kernel)
theorem dX5_beginStep_46 : decode cX5_beginStep 46 = .ok (.iadd, 1) := dl_o96 kcX5_beginStep (by decide +kernel)
theorem dX5_beginStep_47 : decode cX5_beginStep 47 = .ok (.putfield 93, 3) := dl_o181 kcX5_beginStep (by decide +kernel)
theorem dX5_beginStep_50 : decode cX5_beginStep 50 = .ok (.getstatic 160, 3) := dl_o178 kcX5_beginStep (by decide +kernel)
theorem dX5_beginStep_53 : decode cX5_beginStep 53 = .ok (.iload_n 1, 1) := dl_o27 kcX5_beginStep (by decide +kernel)
theorem dX5_beginStep_54 : decode cX5_beginStep 54 = .ok (.iaload, 1) := dl_o46 kcX5_beginStep (by decide +kernel)
theorem dX5_beginStep_55 : decode cX5_beginStep 55 = .ok (.istore_n 2, 1) := dl_o61 kcX5_beginStep (by decide +kernel)
theorem dX5_beginStep_56 : decode cX5_beginStep 56 = .ok (.iload_n 2, 1) := dl_o28 kcX5_beginStep (by decide +kernel)
theorem dX5_beginStep_57 : decode cX5_beginStep 57 = .ok (.bipush (-2), 2) := dl_o16 kcX5_beginStep 254 (by decide +kernel) (by decide +kernel)
theorem dX5_beginStep_59 : decode cX5_beginStep 59 = .ok (.if_icmp .ne 14, 3) := dl_o160 kcX5_beginStep 14 (by decide +kernel) (by decide +kernel)
theorem dX5_beginStep_62 : decode cX5_beginStep 62 = .ok (.aload_n 0, 1) := dl_o42 kcX5_beginStep (by decide +kernel)
theorem dX5_beginStep_63 : decode cX5_beginStep 63 = .ok (.getfield 12, 3) := dl_o180 kcX5_beginStep (by decide +kernel)
theorem dX5_beginStep_66 : decode cX5_beginStep 66 = .ok (.getfield 163, 3) := dl_o180 kcX5_beginStep (by decide +kernel)
theorem dX5_beginStep_69 : decode cX5_beginStep 69 = .ok (.istore_n 2, 1) := dl_o61 kcX5_beginStep (by decide +kernel)
theorem dX5_beginStep_70 : decode cX5_beginStep 70 = .ok (.goto 19, 3) := dl_o167 kcX5_beginStep 19 (by decide +kernel) (by decide +kernel)
theorem dX5_beginStep_73 : decode cX5_beginStep 73 = .ok (.iload_n 2, 1) := dl_o28 kcX5_beginStep (by decide +kernel)
theorem dX5_beginStep_74 : decode cX5_beginStep 74 = .ok (.bipush (-3), 2) := dl_o16 kcX5_beginStep 253 (by decide +kernel) (by decide +kernel)
theorem dX5_beginStep_76 : decode cX5_beginStep 76 = .ok (.if_icmp .ne 13, 3) := dl_o160 kcX5_beginStep 13 (by decide +kernel) (by decide +kernel)
theorem dX5_beginStep_79 : decode cX5_beginStep 79 = .ok (.aload_n 0, 1) := dl_o42 kcX5_beginStep (by decide +kernel)
theorem dX5_beginStep_80 : decode cX5_beginStep 80 = .ok (.getfield 12, 3) := dl_o180 kcX5_beginStep (by decide +kernel)
theorem dX5_beginStep_83 : decode cX5_beginStep 83 = .ok (.getfield 163, 3) := dl_o180 kcX5_beginStep (by decide +kernel)
theorem dX5_beginStep_86 : decode cX5_beginStep 86 = .ok (.iconst 1, 1) := dl_o4 kcX5_beginStep (by decide +kernel)
theorem dX5_beginStep_87 : decode cX5_beginStep 87 = .ok (.iadd, 1) := dl_o96 kcX5_beginStep (by decide +kernel)
theorem dX5_beginStep_88 : decode cX5_beginStep 88 = .ok (.istore_n 2, 1) := dl_o61 kcX5_beginStep (by decide +kernel)
theorem dX5_beginStep_89 : decode cX5_beginStep 89 = .ok (.aload_n 0, 1) := dl_o42 kcX5_beginStep (by decide +kernel)
theorem dX5_beginStep_90 : decode cX5_beginStep 90 = .ok (.getfield 96, 3) := dl_o180 kcX5_beginStep (by decide +kernel)
theorem dX5_beginStep_93 : decode cX5_beginStep 93 = .ok (.iload_n 2, 1) := dl_o28 kcX5_beginStep (by decide +kernel)
theorem dX5_beginStep_94 : decode cX5_beginStep 94 = .ok (.if_icmp .ge 8, 3) := dl_o162 kcX5_beginStep 8 (by decide +kernel) (by decide +kernel)
theorem dX5_beginStep_97 : decode cX5_beginStep 97 = .ok (.aload_n 0, 1) := dl_o42 kcX5_beginStep (by decide +kernel)
theorem dX5_beginStep_98 : decode cX5_beginStep 98 = .ok (.iconst 1, 1) := dl_o4 kcX5_beginStep (by decide +kernel)
theorem dX5_beginStep_99 : decode cX5_beginStep 99 = .ok (.putfield 56, 3) := dl_o181 kcX5_beginStep (by decide +kernel)
theorem dX5_beginStep_102 : decode cX5_beginStep 102 = .ok (.iload_n 1, 1) := dl_o27 kcX5_beginStep (by decide +kernel)
theorem dX5_beginStep_103 : decode cX5_beginStep 103 = .ok (.ireturn, 1) := dl_o172 kcX5_beginStep (by decide +kernel)
def B_X5_beginStep_89  (l1 : Int32) (l2 : Int32) (V : sv_V) : Option (Int32 × sv_V) := if l2 ≤ (V.1 69 5) then (some (l1, V)) else (sx_let (sv_I V 69 14 (1 : Int32)) (fun V2 => some (l1, V2)))
set_option maxRecDepth 20000 in
theorem tB_X5_beginStep_89 {g : sx_G} (hG : sx_Go g) {P : Option Value → sv_V → Prop} {r : Int32} {Vr : sv_V} (hP : P (some (.int r)) Vr)   {l1 : Int32} {l2 : Int32} {V : sv_V} (h : B_X5_beginStep_89  l1 l2 V = some (r, Vr)) : sv_N g qX5_beginStep 1 89 [(0, .ref 69), (1, .int l1), (2, .int l2)] [] V P := by
  unfold B_X5_beginStep_89 at h
  refine sx_aload_n (pc := 89) dX5_beginStep_89 sx_m0 ?_
  refine sv_getI (pc := 90) hG dX5_beginStep_90 f_5_96 lay_69 rfl ?_
  refine sx_iload_n (pc := 93) dX5_beginStep_93 sx_m2 ?_
  refine sx_icmp_ge (pc := 94) (tgt := 102) dX5_beginStep_94 (by decide) (fun c1 => ?_) (fun c1 => ?_)
  · have h := sx_pos c1 h
    refine sx_iload_n (pc := 102) dX5_beginStep_102 sx_m1 ?_
    exact sv_iret (pc := 103) dX5_beginStep_103 rfl h hP
  · have h := sx_neg c1 h
    refine sx_aload_n (pc := 97) dX5_beginStep_97 sx_m0 ?_
    refine sx_iconst (pc := 98) (v := 1) dX5_beginStep_98 (by decide) ?_
    obtain ⟨V2, hV2⟩ : ∃ z : sv_V, z = sv_I V 69 14 (1 : Int32) := ⟨_, rfl⟩
    have h := sx_letE hV2 h
    refine sv_putI (pc := 99) hG dX5_beginStep_99 f_5_56 lay_69 rfl hV2 ?_
    refine sx_iload_n (pc := 102) dX5_beginStep_102 sx_m1 ?_
    exact sv_iret (pc := 103) dX5_beginStep_103 rfl h hP
def F_X5_beginStep  (V : sv_V) : Option (Int32 × sv_V) := if (V.1 69 13) < (20000 : Int32) then (sx_let (sv_I V 69 13 ((V.1 69 13) + (1 : Int32))) (fun V4 => (F_X2_u1 (V4.1 69 11) V4).bind (fun (x7, V5) => sx_let (sv_I V5 69 11 ((V5.1 69 11) + (1 : Int32))) (fun V8 => if sx_in x7 256 = true then sx_let (V8.1 1006 x7.toNatClampNeg) (fun x10 => if x10 = (-2 : Int32) then (sx_let (V8.1 70 8) (fun x14 => B_X5_beginStep_89  x7 x14 V8)) else (if x10 = (-3 : Int32) then (sx_let ((V8.1 70 8) + (1 : Int32)) (fun x13 => B_X5_beginStep_89  x7 x13 V8)) else (B_X5_beginStep_89  x7 x10 V8))) else none)))) else (sx_let (sv_I V 69 14 (10 : Int32)) (fun V15 => some ((0 : Int32), V15)))
set_option maxRecDepth 20000 in
theorem t_X5_beginStep {g : sx_G} (hG : sx_Go g) {P : Option Value → sv_V → Prop} {r : Int32} {Vr : sv_V} (hP : P (some (.int r)) Vr)  {V : sv_V} (h : F_X5_beginStep  V = some (r, Vr)) : sv_N g qX5_beginStep 1 0 [(0, .ref 69)] [] V P := by
  unfold F_X5_beginStep at h
  refine sx_aload_n (pc := 0) dX5_beginStep_0 sx_m0 ?_
  refine sv_getI (pc := 1) hG dX5_beginStep_1 f_5_53 lay_69 rfl ?_
  refine sx_sipush (pc := 4) (v := 20000) dX5_beginStep_4 (by decide) ?_
  refine sx_icmp_lt (pc := 7) (tgt := 18) dX5_beginStep_7 (by decide) (fun c3 => ?_) (fun c3 => ?_)
  · have h := sx_pos c3 h
    refine sx_aload_n (pc := 18) dX5_beginStep_18 sx_m0 ?_
    refine sx_dup (pc := 19) dX5_beginStep_19 rfl ?_
    refine sv_getI (pc := 20) hG dX5_beginStep_20 f_5_53 lay_69 rfl ?_
    refine sx_iconst (pc := 23) (v := 1) dX5_beginStep_23 (by decide) ?_
    refine sx_iadd (pc := 24) dX5_beginStep_24 ?_
    obtain ⟨V4, hV4⟩ : ∃ z : sv_V, z = sv_I V 69 13 ((V.1 69 13) + (1 : Int32)) := ⟨_, rfl⟩
    have h := sx_letE hV4 h
    refine sv_putI (pc := 25) hG dX5_beginStep_25 f_5_53 lay_69 rfl hV4 ?_
    refine sx_aload_n (pc := 28) dX5_beginStep_28 sx_m0 ?_
    refine sv_getO (pc := 29) hG dX5_beginStep_29 f_5_45 lay_69 rfl cr_69_0 ?_
    refine sx_aload_n (pc := 32) dX5_beginStep_32 sx_m0 ?_
    refine sv_getI (pc := 33) hG dX5_beginStep_33 f_5_93 lay_69 rfl ?_
    obtain ⟨⟨x7, V5⟩, g6, h⟩ := sx_bnd h
    refine sv_cV (pc := 36) (y := qX2_u1) (o := (some (.int x7))) (as := [.int (V4.1 69 11)]) (V1 := V5) hG dX5_beginStep_36 l_X5_156 y0X2_u1 yvX2_u1 rfl (Nat.le_of_ble_eq_true rfl) lay_2 kr_2 (by decide) (Nat.le_of_ble_eq_true rfl) rfl rfl rfl (t_X2_u1 hG ⟨rfl, rfl⟩ g6) ?_
    refine sx_istore_n (pc := 39) (lo' := [(1, .int x7), (0, .ref 69)]) dX5_beginStep_39 (by decide) rfl ?_
    refine sx_aload_n (pc := 40) dX5_beginStep_40 sx_m1 ?_
    refine sx_dup (pc := 41) dX5_beginStep_41 rfl ?_
    refine sv_getI (pc := 42) hG dX5_beginStep_42 f_5_93 lay_69 rfl ?_
    refine sx_iconst (pc := 45) (v := 1) dX5_beginStep_45 (by decide) ?_
    refine sx_iadd (pc := 46) dX5_beginStep_46 ?_
    obtain ⟨V8, hV8⟩ : ∃ z : sv_V, z = sv_I V5 69 11 ((V5.1 69 11) + (1 : Int32)) := ⟨_, rfl⟩
    have h := sx_letE hV8 h
    refine sv_putI (pc := 47) hG dX5_beginStep_47 f_5_93 lay_69 rfl hV8 ?_
    refine sv_getS (pc := 50) (j := 5) dX5_beginStep_50 rfl n_X5_160 ?_
    refine sx_iload_n (pc := 53) dX5_beginStep_53 sx_m0 ?_
    obtain ⟨g9, h⟩ := sx_grd h
    refine sv_xld (pc := 54) hG dX5_beginStep_54 lay_1006 g9 ?_
    refine sv_tI (fun x10 hx10 => ?_)
    have h := sx_letE hx10 h
    refine sx_istore_n (pc := 55) (lo' := [(2, .int x10), (1, .int x7), (0, .ref 69)]) dX5_beginStep_55 (by decide) rfl ?_
    refine sx_iload_n (pc := 56) dX5_beginStep_56 sx_m0 ?_
    refine sx_bipush (pc := 57) (v := (-2)) dX5_beginStep_57 (by decide) ?_
    refine sx_icmp_ne (pc := 59) (tgt := 73) dX5_beginStep_59 (by decide) (fun c11 => ?_) (fun c11 => ?_)
    · have h := sx_neg c11 h
      refine sx_iload_n (pc := 73) dX5_beginStep_73 sx_m0 ?_
      refine sx_bipush (pc := 74) (v := (-3)) dX5_beginStep_74 (by decide) ?_
      refine sx_icmp_ne (pc := 76) (tgt := 89) dX5_beginStep_76 (by decide) (fun c12 => ?_) (fun c12 => ?_)
      · have h := sx_neg c12 h
        refine sx_wk (sx_s1 sx_m2 (sx_s1 sx_m1 (sx_s1 sx_m0 sx_s0))) ?_
        exact tB_X5_beginStep_89 hG hP  h
      · have h := sx_pos c12 h
        refine sx_aload_n (pc := 79) dX5_beginStep_79 sx_m2 ?_
        refine sv_getO (pc := 80) hG dX5_beginStep_80 f_5_12 lay_69 rfl cr_69_1 ?_
        refine sv_getI (pc := 83) hG dX5_beginStep_83 f_5_163 lay_70 rfl ?_
        refine sx_iconst (pc := 86) (v := 1) dX5_beginStep_86 (by decide) ?_
        refine sx_iadd (pc := 87) dX5_beginStep_87 ?_
        refine sv_tI (fun x13 hx13 => ?_)
        have h := sx_letE hx13 h
        refine sx_istore_n (pc := 88) (lo' := [(2, .int x13), (1, .int x7), (0, .ref 69)]) dX5_beginStep_88 (by decide) rfl ?_
        refine sx_wk (sx_s1 sx_m2 (sx_s1 sx_m1 (sx_s1 sx_m0 sx_s0))) ?_
        exact tB_X5_beginStep_89 hG hP  h
    · have h := sx_pos c11 h
      refine sx_aload_n (pc := 62) dX5_beginStep_62 sx_m2 ?_
      refine sv_getO (pc := 63) hG dX5_beginStep_63 f_5_12 lay_69 rfl cr_69_1 ?_
      refine sv_getI (pc := 66) hG dX5_beginStep_66 f_5_163 lay_70 rfl ?_
      refine sv_tI (fun x14 hx14 => ?_)
      have h := sx_letE hx14 h
      refine sx_istore_n (pc := 69) (lo' := [(2, .int x14), (1, .int x7), (0, .ref 69)]) dX5_beginStep_69 (by decide) rfl ?_
      refine sx_goto (pc := 70) (tgt := 89) dX5_beginStep_70 (by decide) ?_
      refine sx_wk (sx_s1 sx_m2 (sx_s1 sx_m1 (sx_s1 sx_m0 sx_s0))) ?_
      exact tB_X5_beginStep_89 hG hP  h
  · have h := sx_neg c3 h
    refine sx_aload_n (pc := 10) dX5_beginStep_10 sx_m0 ?_
    refine sx_bipush (pc := 11) (v := 10) dX5_beginStep_11 (by decide) ?_
    obtain ⟨V15, hV15⟩ : ∃ z : sv_V, z = sv_I V 69 14 (10 : Int32) := ⟨_, rfl⟩
    have h := sx_letE hV15 h
    refine sv_putI (pc := 13) hG dX5_beginStep_13 f_5_56 lay_69 rfl hV15 ?_
    refine sx_iconst (pc := 16) (v := 0) dX5_beginStep_16 (by decide) ?_
    exact sv_iret (pc := 17) dX5_beginStep_17 rfl h hP
def ncX5_pop : Nat := 5103927132679337496543199096106825234581254528871670226470512608515123459659969578
theorem kcX5_pop : CK cX5_pop ncX5_pop 34 := ⟨by decide +kernel, by decide +kernel⟩
theorem dX5_pop_0 : decode cX5_pop 0 = .ok (.aload_n 0, 1) := dl_o42 kcX5_pop (by decide +kernel)
theorem dX5_pop_1 : decode cX5_pop 1 = .ok (.getfield 96, 3) := dl_o180 kcX5_pop (by decide +kernel)
theorem dX5_pop_4 : decode cX5_pop 4 = .ok (.ifCond .gt 10, 3) := dl_o157 kcX5_pop 10 (by decide +kernel) (by decide +kernel)
theorem dX5_pop_7 : decode cX5_pop 7 = .ok (.aload_n 0, 1) := dl_o42 kcX5_pop (by decide +kernel)
theorem dX5_pop_8 : decode cX5_pop 8 = .ok (.iconst 1, 1) := dl_o4 kcX5_pop (by decide +kernel)
theorem dX5_pop_9 : decode cX5_pop 9 = .ok (.putfield 56, 3) := dl_o181 kcX5_pop (by decide +kernel)
theorem dX5_pop_12 : decode cX5_pop 12 = .ok (.iconst 0, 1) := dl_o3 kcX5_pop (by decide +kernel)
theorem dX5_pop_13 : decode cX5_pop 13 = .ok (.ireturn, 1) := dl_o172 kcX5_pop (by decide +kernel)
theorem dX5_pop_14 : decode cX5_pop 14 = .ok (.aload_n 0, 1) := dl_o42 kcX5_pop (by decide +kernel)
theorem dX5_pop_15 : decode cX5_pop 15 = .ok (.dup, 1) := dl_o89 kcX5_pop (by decide +kernel)
theorem dX5_pop_16 : decode cX5_pop 16 = .ok (.getfield 96, 3) := dl_o180 kcX5_pop (by decide +kernel)
theorem dX5_pop_19 : decode cX5_pop 19 = .ok (.iconst 1, 1) := dl_o4 kcX5_pop (by decide +kernel)
theorem dX5_pop_20 : decode cX5_pop 20 = .ok (.isub, 1) := dl_o100 kcX5_pop (by decide +kernel)
theorem dX5_pop_21 : decode cX5_pop 21 = .ok (.putfield 96, 3) := dl_o181 kcX5_pop (by decide +kernel)
theorem dX5_pop_24 : decode cX5_pop 24 = .ok (.aload_n 0, 1) := dl_o42 kcX5_pop (by decide +kernel)
theorem dX5_pop_25 : decode cX5_pop 25 = .ok (.getfield 34, 3) := dl_o180 kcX5_pop (by decide +kernel)
theorem dX5_pop_28 : decode cX5_pop 28 = .ok (.aload_n 0, 1) := dl_o42 kcX5_pop (by decide +kernel)
theorem dX5_pop_29 : decode cX5_pop 29 = .ok (.getfield 96, 3) := dl_o180 kcX5_pop (by decide +kernel)
theorem dX5_pop_32 : decode cX5_pop 32 = .ok (.iaload, 1) := dl_o46 kcX5_pop (by decide +kernel)
theorem dX5_pop_33 : decode cX5_pop 33 = .ok (.ireturn, 1) := dl_o172 kcX5_pop (by decide +kernel)
def F_X5_pop  (V : sv_V) : Option (Int32 × sv_V) := if 0 < (V.1 69 5) then (sx_let (sv_I V 69 5 ((V.1 69 5) - (1 : Int32))) (fun V2 => if sx_in (V2.1 69 5) 256 = true then some (V2.1 92 (V2.1 69 5).toNatClampNeg, V2) else none)) else (sx_let (sv_I V 69 14 (1 : Int32)) (fun V4 => some ((0 : Int32), V4)))
set_option maxRecDepth 20000 in
theorem t_X5_pop {g : sx_G} (hG : sx_Go g) {P : Option Value → sv_V → Prop} {r : Int32} {Vr : sv_V} (hP : P (some (.int r)) Vr)  {V : sv_V} (h : F_X5_pop  V = some (r, Vr)) : sv_N g qX5_pop 0 0 [(0, .ref 69)] [] V P := by
  unfold F_X5_pop at h
  refine sx_aload_n (pc := 0) dX5_pop_0 sx_m0 ?_
  refine sv_getI (pc := 1) hG dX5_pop_1 f_5_96 lay_69 rfl ?_
  refine sx_if_gt (pc := 4) (tgt := 14) dX5_pop_4 (by decide) (fun c1 => ?_) (fun c1 => ?_)
  · have h := sx_pos c1 h
    refine sx_aload_n (pc := 14) dX5_pop_14 sx_m0 ?_
    refine sx_dup (pc := 15) dX5_pop_15 rfl ?_
    refine sv_getI (pc := 16) hG dX5_pop_16 f_5_96 lay_69 rfl ?_
    refine sx_iconst (pc := 19) (v := 1) dX5_pop_19 (by decide) ?_
    refine sx_isub (pc := 20) dX5_pop_20 ?_
    obtain ⟨V2, hV2⟩ : ∃ z : sv_V, z = sv_I V 69 5 ((V.1 69 5) - (1 : Int32)) := ⟨_, rfl⟩
    have h := sx_letE hV2 h
    refine sv_putI (pc := 21) hG dX5_pop_21 f_5_96 lay_69 rfl hV2 ?_
    refine sx_aload_n (pc := 24) dX5_pop_24 sx_m0 ?_
    refine sv_getA (pc := 25) hG dX5_pop_25 f_5_34 lay_69 rfl cr_69_4 ?_
    refine sx_aload_n (pc := 28) dX5_pop_28 sx_m0 ?_
    refine sv_getI (pc := 29) hG dX5_pop_29 f_5_96 lay_69 rfl ?_
    obtain ⟨g3, h⟩ := sx_grd h
    refine sv_iald (pc := 32) hG dX5_pop_32 lay_92 g3 ?_
    exact sv_iret (pc := 33) dX5_pop_33 rfl h hP
  · have h := sx_neg c1 h
    refine sx_aload_n (pc := 7) dX5_pop_7 sx_m0 ?_
    refine sx_iconst (pc := 8) (v := 1) dX5_pop_8 (by decide) ?_
    obtain ⟨V4, hV4⟩ : ∃ z : sv_V, z = sv_I V 69 14 (1 : Int32) := ⟨_, rfl⟩
    have h := sx_letE hV4 h
    refine sv_putI (pc := 9) hG dX5_pop_9 f_5_56 lay_69 rfl hV4 ?_
    refine sx_iconst (pc := 12) (v := 0) dX5_pop_12 (by decide) ?_
    exact sv_iret (pc := 13) dX5_pop_13 rfl h hP
def ncX5_push : Nat := 43940760444924775948774958206663724477498408406099723190882633397994938872099801014238400257528311188459471219353218075869352132578302311779596805754091146079646622727995962410
theorem kcX5_push : CK cX5_push ncX5_push 73 := ⟨by decide +kernel, by decide +kernel⟩
theorem dX5_push_0 : decode cX5_push 0 = .ok (.aload_n 0, 1) := dl_o42 kcX5_push (by decide +kernel)
theorem dX5_push_1 : decode cX5_push 1 = .ok (.getfield 96, 3) := dl_o180 kcX5_push (by decide +kernel)
theorem dX5_push_4 : decode cX5_push 4 = .ok (.aload_n 0, 1) := dl_o42 kcX5_push (by decide +kernel)
theorem dX5_push_5 : decode cX5_push 5 = .ok (.getfield 45, 3) := dl_o180 kcX5_push (by decide +kernel)
theorem dX5_push_8 : decode cX5_push 8 = .ok (.getfield 166, 3) := dl_o180 kcX5_push (by decide +kernel)
theorem dX5_push_11 : decode cX5_push 11 = .ok (.iconst 5, 1) := dl_o8 kcX5_push (by decide +kernel)
theorem dX5_push_12 : decode cX5_push 12 = .ok (.iaload, 1) := dl_o46 kcX5_push (by decide +kernel)
theorem dX5_push_13 : decode cX5_push 13 = .ok (.if_icmp .ge 13, 3) := dl_o162 kcX5_push 13 (by decide +kernel) (by decide +kernel)
theorem dX5_push_16 : decode cX5_push 16 = .ok (.aload_n 0, 1) := dl_o42 kcX5_push (by decide +kernel)
theorem dX5_push_17 : decode cX5_push 17 = .ok (.getfield 96, 3) := dl_o180 kcX5_push (by decide +kernel)
theorem dX5_push_20 : decode cX5_push 20 = .ok (.sipush 256, 3) := dl_o17 kcX5_push 256 (by decide +kernel) (by decide +kernel)
theorem dX5_push_23 : decode cX5_push 23 = .ok (.if_icmp .lt 9, 3) := dl_o161 kcX5_push 9 (by decide +kernel) (by decide +kernel)
theorem dX5_push_26 : decode cX5_push 26 = .ok (.aload_n 0, 1) := dl_o42 kcX5_push (by decide +kernel)
theorem dX5_push_27 : decode cX5_push 27 = .ok (.iconst 2, 1) := dl_o5 kcX5_push (by decide +kernel)
theorem dX5_push_28 : decode cX5_push 28 = .ok (.putfield 56, 3) := dl_o181 kcX5_push (by decide +kernel)
theorem dX5_push_31 : decode cX5_push 31 = .ok (.return_, 1) := dl_o177 kcX5_push (by decide +kernel)
theorem dX5_push_32 : decode cX5_push 32 = .ok (.aload_n 0, 1) := dl_o42 kcX5_push (by decide +kernel)
theorem dX5_push_33 : decode cX5_push 33 = .ok (.getfield 34, 3) := dl_o180 kcX5_push (by decide +kernel)
theorem dX5_push_36 : decode cX5_push 36 = .ok (.aload_n 0, 1) := dl_o42 kcX5_push (by decide +kernel)
theorem dX5_push_37 : decode cX5_push 37 = .ok (.getfield 96, 3) := dl_o180 kcX5_push (by decide +kernel)
theorem dX5_push_40 : decode cX5_push 40 = .ok (.lload_n 1, 1) := dl_o31 kcX5_push (by decide +kernel)
theorem dX5_push_41 : decode cX5_push 41 = .ok (.l2i, 1) := dl_o136 kcX5_push (by decide +kernel)
theorem dX5_push_42 : decode cX5_push 42 = .ok (.iastore, 1) := dl_o79 kcX5_push (by decide +kernel)
theorem dX5_push_43 : decode cX5_push 43 = .ok (.aload_n 0, 1) := dl_o42 kcX5_push (by decide +kernel)
theorem dX5_push_44 : decode cX5_push 44 = .ok (.dup, 1) := dl_o89 kcX5_push (by decide +kernel)
theorem dX5_push_45 : decode cX5_push 45 = .ok (.getfield 96, 3) := dl_o180 kcX5_push (by decide +kernel)
theorem dX5_push_48 : decode cX5_push 48 = .ok (.iconst 1, 1) := dl_o4 kcX5_push (by decide +kernel)
theorem dX5_push_49 : decode cX5_push 49 = .ok (.iadd, 1) := dl_o96 kcX5_push (by decide +kernel)
theorem dX5_push_50 : decode cX5_push 50 = .ok (.putfield 96, 3) := dl_o181 kcX5_push (by decide +kernel)
theorem dX5_push_53 : decode cX5_push 53 = .ok (.aload_n 0, 1) := dl_o42 kcX5_push (by decide +kernel)
theorem dX5_push_54 : decode cX5_push 54 = .ok (.getfield 169, 3) := dl_o180 kcX5_push (by decide +kernel)
theorem dX5_push_57 : decode cX5_push 57 = .ok (.aload_n 0, 1) := dl_o42 kcX5_push (by decide +kernel)
theorem dX5_push_58 : decode cX5_push 58 = .ok (.getfield 96, 3) := dl_o180 kcX5_push (by decide +kernel)
theorem dX5_push_61 : decode cX5_push 61 = .ok (.if_icmp .ge 11, 3) := dl_o162 kcX5_push 11 (by decide +kernel) (by decide +kernel)
theorem dX5_push_64 : decode cX5_push 64 = .ok (.aload_n 0, 1) := dl_o42 kcX5_push (by decide +kernel)
theorem dX5_push_65 : decode cX5_push 65 = .ok (.aload_n 0, 1) := dl_o42 kcX5_push (by decide +kernel)
theorem dX5_push_66 : decode cX5_push 66 = .ok (.getfield 96, 3) := dl_o180 kcX5_push (by decide +kernel)
theorem dX5_push_69 : decode cX5_push 69 = .ok (.putfield 169, 3) := dl_o181 kcX5_push (by decide +kernel)
theorem dX5_push_72 : decode cX5_push 72 = .ok (.return_, 1) := dl_o177 kcX5_push (by decide +kernel)
def F_X5_push (l1 : Int64) (V : sv_V) : Option sv_V := if (V.1 6 (5 : Int32).toNatClampNeg) ≤ (V.1 69 5) then (sx_let (sv_I V 69 14 (2 : Int32)) (fun V2 => some V2)) else (if (V.1 69 5) < (256 : Int32) then (if sx_in (V.1 69 5) 256 = true then sx_let (sv_I V 92 (V.1 69 5).toNatClampNeg l1.toInt32) (fun V5 => sx_let (sv_I V5 69 5 ((V5.1 69 5) + (1 : Int32))) (fun V6 => if (V6.1 69 5) ≤ (V6.1 69 16) then (some V6) else (sx_let (sv_I V6 69 16 (V6.1 69 5)) (fun V8 => some V8)))) else none) else (sx_let (sv_I V 69 14 (2 : Int32)) (fun V9 => some V9)))
set_option maxRecDepth 20000 in
theorem t_X5_push {g : sx_G} (hG : sx_Go g) {P : Option Value → sv_V → Prop} {Vr : sv_V} (hP : P none Vr) {l1 : Int64} {V : sv_V} (h : F_X5_push l1 V = some Vr) : sv_N g qX5_push 0 0 [(0, .ref 69), (1, .long l1)] [] V P := by
  unfold F_X5_push at h
  refine sx_aload_n (pc := 0) dX5_push_0 sx_m0 ?_
  refine sv_getI (pc := 1) hG dX5_push_1 f_5_96 lay_69 rfl ?_
  refine sx_aload_n (pc := 4) dX5_push_4 sx_m0 ?_
  refine sv_getO (pc := 5) hG dX5_push_5 f_5_45 lay_69 rfl cr_69_0 ?_
  refine sv_getA (pc := 8) hG dX5_push_8 f_5_166 lay_2 rfl cr_2_10 ?_
  refine sx_iconst (pc := 11) (v := 5) dX5_push_11 (by decide) ?_
  refine sv_iald (pc := 12) hG dX5_push_12 lay_6 (by decide) ?_
  refine sx_icmp_ge (pc := 13) (tgt := 26) dX5_push_13 (by decide) (fun c1 => ?_) (fun c1 => ?_)
  · have h := sx_pos c1 h
    refine sx_aload_n (pc := 26) dX5_push_26 sx_m0 ?_
    refine sx_iconst (pc := 27) (v := 2) dX5_push_27 (by decide) ?_
    obtain ⟨V2, hV2⟩ : ∃ z : sv_V, z = sv_I V 69 14 (2 : Int32) := ⟨_, rfl⟩
    have h := sx_letE hV2 h
    refine sv_putI (pc := 28) hG dX5_push_28 f_5_56 lay_69 rfl hV2 ?_
    exact sv_vret (pc := 31) dX5_push_31 rfl h hP
  · have h := sx_neg c1 h
    refine sx_aload_n (pc := 16) dX5_push_16 sx_m0 ?_
    refine sv_getI (pc := 17) hG dX5_push_17 f_5_96 lay_69 rfl ?_
    refine sx_sipush (pc := 20) (v := 256) dX5_push_20 (by decide) ?_
    refine sx_icmp_lt (pc := 23) (tgt := 32) dX5_push_23 (by decide) (fun c3 => ?_) (fun c3 => ?_)
    · have h := sx_pos c3 h
      refine sx_aload_n (pc := 32) dX5_push_32 sx_m0 ?_
      refine sv_getA (pc := 33) hG dX5_push_33 f_5_34 lay_69 rfl cr_69_4 ?_
      refine sx_aload_n (pc := 36) dX5_push_36 sx_m0 ?_
      refine sv_getI (pc := 37) hG dX5_push_37 f_5_96 lay_69 rfl ?_
      refine sx_lload_n (pc := 40) dX5_push_40 sx_m1 ?_
      refine sx_l2i (pc := 41) dX5_push_41 ?_
      obtain ⟨g4, h⟩ := sx_grd h
      obtain ⟨V5, hV5⟩ : ∃ z : sv_V, z = sv_I V 92 (V.1 69 5).toNatClampNeg l1.toInt32 := ⟨_, rfl⟩
      have h := sx_letE hV5 h
      refine sv_iast (pc := 42) hG dX5_push_42 lay_92 g4 hV5 ?_
      refine sx_aload_n (pc := 43) dX5_push_43 sx_m0 ?_
      refine sx_dup (pc := 44) dX5_push_44 rfl ?_
      refine sv_getI (pc := 45) hG dX5_push_45 f_5_96 lay_69 rfl ?_
      refine sx_iconst (pc := 48) (v := 1) dX5_push_48 (by decide) ?_
      refine sx_iadd (pc := 49) dX5_push_49 ?_
      obtain ⟨V6, hV6⟩ : ∃ z : sv_V, z = sv_I V5 69 5 ((V5.1 69 5) + (1 : Int32)) := ⟨_, rfl⟩
      have h := sx_letE hV6 h
      refine sv_putI (pc := 50) hG dX5_push_50 f_5_96 lay_69 rfl hV6 ?_
      refine sx_aload_n (pc := 53) dX5_push_53 sx_m0 ?_
      refine sv_getI (pc := 54) hG dX5_push_54 f_5_169 lay_69 rfl ?_
      refine sx_aload_n (pc := 57) dX5_push_57 sx_m0 ?_
      refine sv_getI (pc := 58) hG dX5_push_58 f_5_96 lay_69 rfl ?_
      refine sx_icmp_ge (pc := 61) (tgt := 72) dX5_push_61 (by decide) (fun c7 => ?_) (fun c7 => ?_)
      · have h := sx_pos c7 h
        exact sv_vret (pc := 72) dX5_push_72 rfl h hP
      · have h := sx_neg c7 h
        refine sx_aload_n (pc := 64) dX5_push_64 sx_m0 ?_
        refine sx_aload_n (pc := 65) dX5_push_65 sx_m0 ?_
        refine sv_getI (pc := 66) hG dX5_push_66 f_5_96 lay_69 rfl ?_
        obtain ⟨V8, hV8⟩ : ∃ z : sv_V, z = sv_I V6 69 16 (V6.1 69 5) := ⟨_, rfl⟩
        have h := sx_letE hV8 h
        refine sv_putI (pc := 69) hG dX5_push_69 f_5_169 lay_69 rfl hV8 ?_
        exact sv_vret (pc := 72) dX5_push_72 rfl h hP
    · have h := sx_neg c3 h
      refine sx_aload_n (pc := 26) dX5_push_26 sx_m0 ?_
      refine sx_iconst (pc := 27) (v := 2) dX5_push_27 (by decide) ?_
      obtain ⟨V9, hV9⟩ : ∃ z : sv_V, z = sv_I V 69 14 (2 : Int32) := ⟨_, rfl⟩
      have h := sx_letE hV9 h
      refine sv_putI (pc := 28) hG dX5_push_28 f_5_56 lay_69 rfl hV9 ?_
      exact sv_vret (pc := 31) dX5_push_31 rfl h hP
def ncX5_zone : Nat := 72463268585427485942060356348577837864940055401910977821755356202
theorem kcX5_zone : CK cX5_zone ncX5_zone 27 := ⟨by decide +kernel, by decide +kernel⟩
theorem dX5_zone_0 : decode cX5_zone 0 = .ok (.aload_n 0, 1) := dl_o42 kcX5_zone (by decide +kernel)
theorem dX5_zone_1 : decode cX5_zone 1 = .ok (.getfield 12, 3) := dl_o180 kcX5_zone (by decide +kernel)
theorem dX5_zone_4 : decode cX5_zone 4 = .ok (.getfield 172, 3) := dl_o180 kcX5_zone (by decide +kernel)
theorem dX5_zone_7 : decode cX5_zone 7 = .ok (.iload_n 1, 1) := dl_o27 kcX5_zone (by decide +kernel)
theorem dX5_zone_8 : decode cX5_zone 8 = .ok (.iaload, 1) := dl_o46 kcX5_zone (by decide +kernel)
theorem dX5_zone_9 : decode cX5_zone 9 = .ok (.ifCond .ne 13, 3) := dl_o154 kcX5_zone 13 (by decide +kernel) (by decide +kernel)
theorem dX5_zone_12 : decode cX5_zone 12 = .ok (.aload_n 0, 1) := dl_o42 kcX5_zone (by decide +kernel)
theorem dX5_zone_13 : decode cX5_zone 13 = .ok (.getfield 49, 3) := dl_o180 kcX5_zone (by decide +kernel)
theorem dX5_zone_16 : decode cX5_zone 16 = .ok (.getfield 175, 3) := dl_o180 kcX5_zone (by decide +kernel)
theorem dX5_zone_19 : decode cX5_zone 19 = .ok (.goto 7, 3) := dl_o167 kcX5_zone 7 (by decide +kernel) (by decide +kernel)
theorem dX5_zone_22 : decode cX5_zone 22 = .ok (.aload_n 0, 1) := dl_o42 kcX5_zone (by decide +kernel)
theorem dX5_zone_23 : decode cX5_zone 23 = .ok (.getfield 38, 3) := dl_o180 kcX5_zone (by decide +kernel)
theorem dX5_zone_26 : decode cX5_zone 26 = .ok (.areturn, 1) := by decide +kernel
def F_X5_zone (l1 : Int32) (V : sv_V) : Option (Nat × sv_V) := if sx_in l1 3 = true then if (V.1 72 l1.toNatClampNeg) = 0 then ((V.2.2 69 6).bind (fun b5 => if lay b5 = .inl 7 then (cr b5 4).bind (fun b8 => some (b8, V)) else none)) else ((V.2.2 69 7).bind (fun b3 => some (b3, V))) else none
set_option maxRecDepth 20000 in
theorem t_X5_zone {g : sx_G} (hG : sx_Go g) {P : Option Value → sv_V → Prop} {r : Nat} {Vr : sv_V} (hP : P (some (.ref r)) Vr) {l1 : Int32} {V : sv_V} (h : F_X5_zone l1 V = some (r, Vr)) : sv_N g qX5_zone 0 0 [(0, .ref 69), (1, .int l1)] [] V P := by
  unfold F_X5_zone at h
  refine sx_aload_n (pc := 0) dX5_zone_0 sx_m0 ?_
  refine sv_getO (pc := 1) hG dX5_zone_1 f_5_12 lay_69 rfl cr_69_1 ?_
  refine sv_getA (pc := 4) hG dX5_zone_4 f_5_172 lay_70 rfl cr_70_7 ?_
  refine sx_iload_n (pc := 7) dX5_zone_7 sx_m1 ?_
  obtain ⟨g1, h⟩ := sx_grd h
  refine sv_iald (pc := 8) hG dX5_zone_8 lay_72 g1 ?_
  refine sx_if_ne (pc := 9) (tgt := 22) dX5_zone_9 (by decide) (fun c2 => ?_) (fun c2 => ?_)
  · have h := sx_neg c2 h
    refine sx_aload_n (pc := 22) dX5_zone_22 sx_m0 ?_
    obtain ⟨b3, g4, h⟩ := sx_bnd h
    refine sv_getV (pc := 23) hG dX5_zone_23 f_5_38 lay_69 rfl rfl g4 ?_
    exact sv_aret (pc := 26) dX5_zone_26 rfl h hP
  · have h := sx_pos c2 h
    refine sx_aload_n (pc := 12) dX5_zone_12 sx_m0 ?_
    obtain ⟨b5, g6, h⟩ := sx_bnd h
    refine sv_getV (pc := 13) hG dX5_zone_13 f_5_49 lay_69 rfl rfl g6 ?_
    obtain ⟨g7, h⟩ := sx_grd h
    obtain ⟨b8, g9, h⟩ := sx_bnd h
    refine sv_getO (pc := 16) hG dX5_zone_16 f_5_175 g7 rfl g9 ?_
    refine sx_goto (pc := 19) (tgt := 26) dX5_zone_19 (by decide) ?_
    exact sv_aret (pc := 26) dX5_zone_26 rfl h hP
def ncX5_touchBits : Nat := 78023987193760986928605167093059738308809044251229674424335551424671164445738
theorem kcX5_touchBits : CK cX5_touchBits ncX5_touchBits 32 := ⟨by decide +kernel, by decide +kernel⟩
theorem dX5_touchBits_0 : decode cX5_touchBits 0 = .ok (.aload_n 0, 1) := dl_o42 kcX5_touchBits (by decide +kernel)
theorem dX5_touchBits_1 : decode cX5_touchBits 1 = .ok (.getfield 12, 3) := dl_o180 kcX5_touchBits (by decide +kernel)
theorem dX5_touchBits_4 : decode cX5_touchBits 4 = .ok (.getfield 210, 3) := dl_o180 kcX5_touchBits (by decide +kernel)
theorem dX5_touchBits_7 : decode cX5_touchBits 7 = .ok (.ifCond .eq 7, 3) := dl_o153 kcX5_touchBits 7 (by decide +kernel) (by decide +kernel)
theorem dX5_touchBits_10 : decode cX5_touchBits 10 = .ok (.iconst 1, 1) := dl_o4 kcX5_touchBits (by decide +kernel)
theorem dX5_touchBits_11 : decode cX5_touchBits 11 = .ok (.goto 4, 3) := dl_o167 kcX5_touchBits 4 (by decide +kernel) (by decide +kernel)
theorem dX5_touchBits_14 : decode cX5_touchBits 14 = .ok (.iconst 0, 1) := dl_o3 kcX5_touchBits (by decide +kernel)
theorem dX5_touchBits_15 : decode cX5_touchBits 15 = .ok (.aload_n 0, 1) := dl_o42 kcX5_touchBits (by decide +kernel)
theorem dX5_touchBits_16 : decode cX5_touchBits 16 = .ok (.getfield 12, 3) := dl_o180 kcX5_touchBits (by decide +kernel)
theorem dX5_touchBits_19 : decode cX5_touchBits 19 = .ok (.getfield 213, 3) := dl_o180 kcX5_touchBits (by decide +kernel)
theorem dX5_touchBits_22 : decode cX5_touchBits 22 = .ok (.ifCond .eq 7, 3) := dl_o153 kcX5_touchBits 7 (by decide +kernel) (by decide +kernel)
theorem dX5_touchBits_25 : decode cX5_touchBits 25 = .ok (.iconst 2, 1) := dl_o5 kcX5_touchBits (by decide +kernel)
theorem dX5_touchBits_26 : decode cX5_touchBits 26 = .ok (.goto 4, 3) := dl_o167 kcX5_touchBits 4 (by decide +kernel) (by decide +kernel)
theorem dX5_touchBits_29 : decode cX5_touchBits 29 = .ok (.iconst 0, 1) := dl_o3 kcX5_touchBits (by decide +kernel)
theorem dX5_touchBits_30 : decode cX5_touchBits 30 = .ok (.ior, 1) := dl_o128 kcX5_touchBits (by decide +kernel)
theorem dX5_touchBits_31 : decode cX5_touchBits 31 = .ok (.ireturn, 1) := dl_o172 kcX5_touchBits (by decide +kernel)
def B_X5_touchBits_15  (s0 : Int32) (V : sv_V) : Option (Int32 × sv_V) := if (V.1 70 1) = 0 then (some (s0 ||| (0 : Int32), V)) else (some (s0 ||| (2 : Int32), V))
set_option maxRecDepth 20000 in
theorem tB_X5_touchBits_15 {g : sx_G} (hG : sx_Go g) {P : Option Value → sv_V → Prop} {r : Int32} {Vr : sv_V} (hP : P (some (.int r)) Vr)   {s0 : Int32} {V : sv_V} (h : B_X5_touchBits_15  s0 V = some (r, Vr)) : sv_N g qX5_touchBits 0 15 [(0, .ref 69)] [.int s0] V P := by
  unfold B_X5_touchBits_15 at h
  refine sx_aload_n (pc := 15) dX5_touchBits_15 sx_m0 ?_
  refine sv_getO (pc := 16) hG dX5_touchBits_16 f_5_12 lay_69 rfl cr_69_1 ?_
  refine sv_getI (pc := 19) hG dX5_touchBits_19 f_5_213 lay_70 rfl ?_
  refine sx_if_eq (pc := 22) (tgt := 29) dX5_touchBits_22 (by decide) (fun c1 => ?_) (fun c1 => ?_)
  · have h := sx_pos c1 h
    refine sx_iconst (pc := 29) (v := 0) dX5_touchBits_29 (by decide) ?_
    refine sx_ior (pc := 30) dX5_touchBits_30 ?_
    exact sv_iret (pc := 31) dX5_touchBits_31 rfl h hP
  · have h := sx_neg c1 h
    refine sx_iconst (pc := 25) (v := 2) dX5_touchBits_25 (by decide) ?_
    refine sx_goto (pc := 26) (tgt := 30) dX5_touchBits_26 (by decide) ?_
    refine sx_ior (pc := 30) dX5_touchBits_30 ?_
    exact sv_iret (pc := 31) dX5_touchBits_31 rfl h hP
def F_X5_touchBits  (V : sv_V) : Option (Int32 × sv_V) := if (V.1 70 0) = 0 then (B_X5_touchBits_15  (0 : Int32) V) else (B_X5_touchBits_15  (1 : Int32) V)
set_option maxRecDepth 20000 in
theorem t_X5_touchBits {g : sx_G} (hG : sx_Go g) {P : Option Value → sv_V → Prop} {r : Int32} {Vr : sv_V} (hP : P (some (.int r)) Vr)  {V : sv_V} (h : F_X5_touchBits  V = some (r, Vr)) : sv_N g qX5_touchBits 0 0 [(0, .ref 69)] [] V P := by
  unfold F_X5_touchBits at h
  refine sx_aload_n (pc := 0) dX5_touchBits_0 sx_m0 ?_
  refine sv_getO (pc := 1) hG dX5_touchBits_1 f_5_12 lay_69 rfl cr_69_1 ?_
  refine sv_getI (pc := 4) hG dX5_touchBits_4 f_5_210 lay_70 rfl ?_
  refine sx_if_eq (pc := 7) (tgt := 14) dX5_touchBits_7 (by decide) (fun c2 => ?_) (fun c2 => ?_)
  · have h := sx_pos c2 h
    refine sx_iconst (pc := 14) (v := 0) dX5_touchBits_14 (by decide) ?_
    refine sx_wk (sx_s1 sx_m0 sx_s0) ?_
    exact tB_X5_touchBits_15 hG hP  h
  · have h := sx_neg c2 h
    refine sx_iconst (pc := 10) (v := 1) dX5_touchBits_10 (by decide) ?_
    refine sx_goto (pc := 11) (tgt := 15) dX5_touchBits_11 (by decide) ?_
    refine sx_wk (sx_s1 sx_m0 sx_s0) ?_
    exact tB_X5_touchBits_15 hG hP  h
def ncX5_isZone : Nat := 18114954727257217881537978790517186441111419137939040008777959932955
theorem kcX5_isZone : CK cX5_isZone ncX5_isZone 28 := ⟨by decide +kernel, by decide +kernel⟩
theorem dX5_isZone_0 : decode cX5_isZone 0 = .ok (.iload_n 1, 1) := dl_o27 kcX5_isZone (by decide +kernel)
theorem dX5_isZone_1 : decode cX5_isZone 1 = .ok (.iconst 1, 1) := dl_o4 kcX5_isZone (by decide +kernel)
theorem dX5_isZone_2 : decode cX5_isZone 2 = .ok (.if_icmp .eq 20, 3) := dl_o159 kcX5_isZone 20 (by decide +kernel) (by decide +kernel)
theorem dX5_isZone_5 : decode cX5_isZone 5 = .ok (.iload_n 1, 1) := dl_o27 kcX5_isZone (by decide +kernel)
theorem dX5_isZone_6 : decode cX5_isZone 6 = .ok (.ifCond .ne 20, 3) := dl_o154 kcX5_isZone 20 (by decide +kernel) (by decide +kernel)
theorem dX5_isZone_9 : decode cX5_isZone 9 = .ok (.aload_n 0, 1) := dl_o42 kcX5_isZone (by decide +kernel)
theorem dX5_isZone_10 : decode cX5_isZone 10 = .ok (.getfield 45, 3) := dl_o180 kcX5_isZone (by decide +kernel)
theorem dX5_isZone_13 : decode cX5_isZone 13 = .ok (.getfield 166, 3) := dl_o180 kcX5_isZone (by decide +kernel)
theorem dX5_isZone_16 : decode cX5_isZone 16 = .ok (.iconst 0, 1) := dl_o3 kcX5_isZone (by decide +kernel)
theorem dX5_isZone_17 : decode cX5_isZone 17 = .ok (.iaload, 1) := dl_o46 kcX5_isZone (by decide +kernel)
theorem dX5_isZone_18 : decode cX5_isZone 18 = .ok (.iconst 2, 1) := dl_o5 kcX5_isZone (by decide +kernel)
theorem dX5_isZone_19 : decode cX5_isZone 19 = .ok (.if_icmp .ne 7, 3) := dl_o160 kcX5_isZone 7 (by decide +kernel) (by decide +kernel)
theorem dX5_isZone_22 : decode cX5_isZone 22 = .ok (.iconst 1, 1) := dl_o4 kcX5_isZone (by decide +kernel)
theorem dX5_isZone_23 : decode cX5_isZone 23 = .ok (.goto 4, 3) := dl_o167 kcX5_isZone 4 (by decide +kernel) (by decide +kernel)
theorem dX5_isZone_26 : decode cX5_isZone 26 = .ok (.iconst 0, 1) := dl_o3 kcX5_isZone (by decide +kernel)
theorem dX5_isZone_27 : decode cX5_isZone 27 = .ok (.ireturn, 1) := dl_o172 kcX5_isZone (by decide +kernel)
def B_X5_isZone_22   (V : sv_V) : Option (Int32 × sv_V) := some ((1 : Int32), V)
set_option maxRecDepth 20000 in
theorem tB_X5_isZone_22 {g : sx_G} (hG : sx_Go g) {P : Option Value → sv_V → Prop} {r : Int32} {Vr : sv_V} (hP : P (some (.int r)) Vr)    {V : sv_V} (h : B_X5_isZone_22   V = some (r, Vr)) : sv_N g qX5_isZone 0 22 [] [] V P := by
  unfold B_X5_isZone_22 at h
  refine sx_iconst (pc := 22) (v := 1) dX5_isZone_22 (by decide) ?_
  refine sx_goto (pc := 23) (tgt := 27) dX5_isZone_23 (by decide) ?_
  exact sv_zret (pc := 27) dX5_isZone_27 rfl rfl h hP
def F_X5_isZone (l1 : Int32) (V : sv_V) : Option (Int32 × sv_V) := if l1 = (1 : Int32) then (B_X5_isZone_22   V) else (if l1 = 0 then (if (V.1 6 (0 : Int32).toNatClampNeg) = (2 : Int32) then (B_X5_isZone_22   V) else (some ((0 : Int32), V))) else (some ((0 : Int32), V)))
set_option maxRecDepth 20000 in
theorem t_X5_isZone {g : sx_G} (hG : sx_Go g) {P : Option Value → sv_V → Prop} {r : Int32} {Vr : sv_V} (hP : P (some (.int r)) Vr) {l1 : Int32} {V : sv_V} (h : F_X5_isZone l1 V = some (r, Vr)) : sv_N g qX5_isZone 0 0 [(0, .ref 69), (1, .int l1)] [] V P := by
  unfold F_X5_isZone at h
  refine sx_iload_n (pc := 0) dX5_isZone_0 sx_m1 ?_
  refine sx_iconst (pc := 1) (v := 1) dX5_isZone_1 (by decide) ?_
  refine sx_icmp_eq (pc := 2) (tgt := 22) dX5_isZone_2 (by decide) (fun c1 => ?_) (fun c1 => ?_)
  · have h := sx_pos c1 h
    refine sx_wk sx_s0 ?_
    exact tB_X5_isZone_22 hG hP  h
  · have h := sx_neg c1 h
    refine sx_iload_n (pc := 5) dX5_isZone_5 sx_m1 ?_
    refine sx_if_ne (pc := 6) (tgt := 26) dX5_isZone_6 (by decide) (fun c2 => ?_) (fun c2 => ?_)
    · have h := sx_neg c2 h
      refine sx_iconst (pc := 26) (v := 0) dX5_isZone_26 (by decide) ?_
      exact sv_zret (pc := 27) dX5_isZone_27 rfl rfl h hP
    · have h := sx_pos c2 h
      refine sx_aload_n (pc := 9) dX5_isZone_9 sx_m0 ?_
      refine sv_getO (pc := 10) hG dX5_isZone_10 f_5_45 lay_69 rfl cr_69_0 ?_
      refine sv_getA (pc := 13) hG dX5_isZone_13 f_5_166 lay_2 rfl cr_2_10 ?_
      refine sx_iconst (pc := 16) (v := 0) dX5_isZone_16 (by decide) ?_
      refine sv_iald (pc := 17) hG dX5_isZone_17 lay_6 (by decide) ?_
      refine sx_iconst (pc := 18) (v := 2) dX5_isZone_18 (by decide) ?_
      refine sx_icmp_ne (pc := 19) (tgt := 26) dX5_isZone_19 (by decide) (fun c3 => ?_) (fun c3 => ?_)
      · have h := sx_neg c3 h
        refine sx_iconst (pc := 26) (v := 0) dX5_isZone_26 (by decide) ?_
        exact sv_zret (pc := 27) dX5_isZone_27 rfl rfl h hP
      · have h := sx_pos c3 h
        refine sx_wk sx_s0 ?_
        exact tB_X5_isZone_22 hG hP  h
def ncX5_setZones : Nat := 117587909191821033468835225714981522321631220309574249976491390973544195733951464550293120539831057982694690101908219423497258
theorem kcX5_setZones : CK cX5_setZones ncX5_setZones 52 := ⟨by decide +kernel, by decide +kernel⟩
theorem dX5_setZones_0 : decode cX5_setZones 0 = .ok (.aload_n 0, 1) := dl_o42 kcX5_setZones (by decide +kernel)
theorem dX5_setZones_1 : decode cX5_setZones 1 = .ok (.iload_n 2, 1) := dl_o28 kcX5_setZones (by decide +kernel)
theorem dX5_setZones_2 : decode cX5_setZones 2 = .ok (.invokevirtual 298, 3) := dl_o182 kcX5_setZones (by decide +kernel)
theorem dX5_setZones_5 : decode cX5_setZones 5 = .ok (.ifCond .ne 9, 3) := dl_o154 kcX5_setZones 9 (by decide +kernel) (by decide +kernel)
theorem dX5_setZones_8 : decode cX5_setZones 8 = .ok (.aload_n 0, 1) := dl_o42 kcX5_setZones (by decide +kernel)
theorem dX5_setZones_9 : decode cX5_setZones 9 = .ok (.iconst 5, 1) := dl_o8 kcX5_setZones (by decide +kernel)
theorem dX5_setZones_10 : decode cX5_setZones 10 = .ok (.putfield 56, 3) := dl_o181 kcX5_setZones (by decide +kernel)
theorem dX5_setZones_13 : decode cX5_setZones 13 = .ok (.return_, 1) := dl_o177 kcX5_setZones (by decide +kernel)
theorem dX5_setZones_14 : decode cX5_setZones 14 = .ok (.iconst 0, 1) := dl_o3 kcX5_setZones (by decide +kernel)
theorem dX5_setZones_15 : decode cX5_setZones 15 = .ok (.istore_n 3, 1) := dl_o62 kcX5_setZones (by decide +kernel)
theorem dX5_setZones_16 : decode cX5_setZones 16 = .ok (.iload_n 3, 1) := dl_o29 kcX5_setZones (by decide +kernel)
theorem dX5_setZones_17 : decode cX5_setZones 17 = .ok (.iconst 3, 1) := dl_o6 kcX5_setZones (by decide +kernel)
theorem dX5_setZones_18 : decode cX5_setZones 18 = .ok (.if_icmp .ge 33, 3) := dl_o162 kcX5_setZones 33 (by decide +kernel) (by decide +kernel)
theorem dX5_setZones_21 : decode cX5_setZones 21 = .ok (.iload_n 1, 1) := dl_o27 kcX5_setZones (by decide +kernel)
theorem dX5_setZones_22 : decode cX5_setZones 22 = .ok (.bipush 22, 2) := dl_o16 kcX5_setZones 22 (by decide +kernel) (by decide +kernel)
theorem dX5_setZones_24 : decode cX5_setZones 24 = .ok (.if_icmp .eq 11, 3) := dl_o159 kcX5_setZones 11 (by decide +kernel) (by decide +kernel)
theorem dX5_setZones_27 : decode cX5_setZones 27 = .ok (.iload_n 1, 1) := dl_o27 kcX5_setZones (by decide +kernel)
theorem dX5_setZones_28 : decode cX5_setZones 28 = .ok (.bipush 19, 2) := dl_o16 kcX5_setZones 19 (by decide +kernel) (by decide +kernel)
theorem dX5_setZones_30 : decode cX5_setZones 30 = .ok (.iload_n 3, 1) := dl_o29 kcX5_setZones (by decide +kernel)
theorem dX5_setZones_31 : decode cX5_setZones 31 = .ok (.iadd, 1) := dl_o96 kcX5_setZones (by decide +kernel)
theorem dX5_setZones_32 : decode cX5_setZones 32 = .ok (.if_icmp .ne 13, 3) := dl_o160 kcX5_setZones 13 (by decide +kernel) (by decide +kernel)
theorem dX5_setZones_35 : decode cX5_setZones 35 = .ok (.aload_n 0, 1) := dl_o42 kcX5_setZones (by decide +kernel)
theorem dX5_setZones_36 : decode cX5_setZones 36 = .ok (.getfield 12, 3) := dl_o180 kcX5_setZones (by decide +kernel)
theorem dX5_setZones_39 : decode cX5_setZones 39 = .ok (.getfield 172, 3) := dl_o180 kcX5_setZones (by decide +kernel)
theorem dX5_setZones_42 : decode cX5_setZones 42 = .ok (.iload_n 3, 1) := dl_o29 kcX5_setZones (by decide +kernel)
theorem dX5_setZones_43 : decode cX5_setZones 43 = .ok (.iload_n 2, 1) := dl_o28 kcX5_setZones (by decide +kernel)
theorem dX5_setZones_44 : decode cX5_setZones 44 = .ok (.iastore, 1) := dl_o79 kcX5_setZones (by decide +kernel)
theorem dX5_setZones_45 : decode cX5_setZones 45 = .ok (.iinc 3 1, 3) := by decide +kernel
theorem dX5_setZones_48 : decode cX5_setZones 48 = .ok (.goto (-32), 3) := dl_o167 kcX5_setZones 65504 (by decide +kernel) (by decide +kernel)
theorem dX5_setZones_51 : decode cX5_setZones 51 = .ok (.return_, 1) := dl_o177 kcX5_setZones (by decide +kernel)
def B_X5_setZones_45 (N : Nat) (k16 : Int32 → Int32 → Int32 → sv_V → Option sv_V) (l1 : Int32) (l2 : Int32) (l3 : Int32) (V : sv_V) : Option sv_V := sx_let (l3 + 1) (fun x1 => k16 l1 l2 x1 V)
set_option maxRecDepth 20000 in
theorem tB_X5_setZones_45 {g : sx_G} (hG : sx_Go g) {P : Option Value → sv_V → Prop} {Vr : sv_V} (hP : P none Vr) {N : Nat} {k16 : Int32 → Int32 → Int32 → sv_V → Option sv_V} (hk16 : ∀ (l1 : Int32) (l2 : Int32) (l3 : Int32) (V : sv_V), k16 l1 l2 l3 V = some Vr → sv_N g qX5_setZones 1 16 [(0, .ref 69), (1, .int l1), (2, .int l2), (3, .int l3)] [] V P) {l1 : Int32} {l2 : Int32} {l3 : Int32} {V : sv_V} (h : B_X5_setZones_45 N k16 l1 l2 l3 V = some Vr) : sv_N g qX5_setZones 1 45 [(0, .ref 69), (1, .int l1), (2, .int l2), (3, .int l3)] [] V P := by
  unfold B_X5_setZones_45 at h
  obtain ⟨x1, hx1⟩ : ∃ z : Int32, z = l3 + 1 := ⟨_, rfl⟩
  have h := sx_letE hx1 h
  refine sx_iinc (pc := 45) (v := x1) (lo' := [(3, .int x1), (0, .ref 69), (1, .int l1), (2, .int l2)]) dX5_setZones_45 sx_m3 (by rw [hx1]; rfl) (by decide) rfl ?_
  refine sx_goto (pc := 48) (tgt := 16) dX5_setZones_48 (by decide) ?_
  refine sx_wk (sx_s1 sx_m1 (sx_s1 sx_m2 (sx_s1 sx_m3 (sx_s1 sx_m0 sx_s0)))) ?_
  exact hk16 _ _ _ _ h
def B_X5_setZones_35 (N : Nat) (k16 : Int32 → Int32 → Int32 → sv_V → Option sv_V) (l1 : Int32) (l2 : Int32) (l3 : Int32) (V : sv_V) : Option sv_V := if sx_in l3 3 = true then sx_let (sv_I V 72 l3.toNatClampNeg l2) (fun V3 => B_X5_setZones_45 N k16 l1 l2 l3 V3) else none
set_option maxRecDepth 20000 in
theorem tB_X5_setZones_35 {g : sx_G} (hG : sx_Go g) {P : Option Value → sv_V → Prop} {Vr : sv_V} (hP : P none Vr) {N : Nat} {k16 : Int32 → Int32 → Int32 → sv_V → Option sv_V} (hk16 : ∀ (l1 : Int32) (l2 : Int32) (l3 : Int32) (V : sv_V), k16 l1 l2 l3 V = some Vr → sv_N g qX5_setZones 1 16 [(0, .ref 69), (1, .int l1), (2, .int l2), (3, .int l3)] [] V P) {l1 : Int32} {l2 : Int32} {l3 : Int32} {V : sv_V} (h : B_X5_setZones_35 N k16 l1 l2 l3 V = some Vr) : sv_N g qX5_setZones 1 35 [(0, .ref 69), (1, .int l1), (2, .int l2), (3, .int l3)] [] V P := by
  unfold B_X5_setZones_35 at h
  refine sx_aload_n (pc := 35) dX5_setZones_35 sx_m0 ?_
  refine sv_getO (pc := 36) hG dX5_setZones_36 f_5_12 lay_69 rfl cr_69_1 ?_
  refine sv_getA (pc := 39) hG dX5_setZones_39 f_5_172 lay_70 rfl cr_70_7 ?_
  refine sx_iload_n (pc := 42) dX5_setZones_42 sx_m3 ?_
  refine sx_iload_n (pc := 43) dX5_setZones_43 sx_m2 ?_
  obtain ⟨g2, h⟩ := sx_grd h
  obtain ⟨V3, hV3⟩ : ∃ z : sv_V, z = sv_I V 72 l3.toNatClampNeg l2 := ⟨_, rfl⟩
  have h := sx_letE hV3 h
  refine sv_iast (pc := 44) hG dX5_setZones_44 lay_72 g2 hV3 ?_
  refine sx_wk (sx_s1 sx_m0 (sx_s1 sx_m1 (sx_s1 sx_m2 (sx_s1 sx_m3 sx_s0)))) ?_
  exact tB_X5_setZones_45 hG hP hk16 h
def B_X5_setZones_16 (N : Nat) (k16 : Int32 → Int32 → Int32 → sv_V → Option sv_V) (l1 : Int32) (l2 : Int32) (l3 : Int32) (V : sv_V) : Option sv_V := if (3 : Int32) ≤ l3 then (some V) else (if l1 = (22 : Int32) then (B_X5_setZones_35 N k16 l1 l2 l3 V) else (if l1 = ((19 : Int32) + l3) then (B_X5_setZones_35 N k16 l1 l2 l3 V) else (B_X5_setZones_45 N k16 l1 l2 l3 V)))
set_option maxRecDepth 20000 in
theorem tB_X5_setZones_16 {g : sx_G} (hG : sx_Go g) {P : Option Value → sv_V → Prop} {Vr : sv_V} (hP : P none Vr) {N : Nat} {k16 : Int32 → Int32 → Int32 → sv_V → Option sv_V} (hk16 : ∀ (l1 : Int32) (l2 : Int32) (l3 : Int32) (V : sv_V), k16 l1 l2 l3 V = some Vr → sv_N g qX5_setZones 1 16 [(0, .ref 69), (1, .int l1), (2, .int l2), (3, .int l3)] [] V P) {l1 : Int32} {l2 : Int32} {l3 : Int32} {V : sv_V} (h : B_X5_setZones_16 N k16 l1 l2 l3 V = some Vr) : sv_N g qX5_setZones 1 16 [(0, .ref 69), (1, .int l1), (2, .int l2), (3, .int l3)] [] V P := by
  unfold B_X5_setZones_16 at h
  refine sx_iload_n (pc := 16) dX5_setZones_16 sx_m3 ?_
  refine sx_iconst (pc := 17) (v := 3) dX5_setZones_17 (by decide) ?_
  refine sx_icmp_ge (pc := 18) (tgt := 51) dX5_setZones_18 (by decide) (fun c4 => ?_) (fun c4 => ?_)
  · have h := sx_pos c4 h
    exact sv_vret (pc := 51) dX5_setZones_51 rfl h hP
  · have h := sx_neg c4 h
    refine sx_iload_n (pc := 21) dX5_setZones_21 sx_m1 ?_
    refine sx_bipush (pc := 22) (v := 22) dX5_setZones_22 (by decide) ?_
    refine sx_icmp_eq (pc := 24) (tgt := 35) dX5_setZones_24 (by decide) (fun c5 => ?_) (fun c5 => ?_)
    · have h := sx_pos c5 h
      refine sx_wk (sx_s1 sx_m0 (sx_s1 sx_m1 (sx_s1 sx_m2 (sx_s1 sx_m3 sx_s0)))) ?_
      exact tB_X5_setZones_35 hG hP hk16 h
    · have h := sx_neg c5 h
      refine sx_iload_n (pc := 27) dX5_setZones_27 sx_m1 ?_
      refine sx_bipush (pc := 28) (v := 19) dX5_setZones_28 (by decide) ?_
      refine sx_iload_n (pc := 30) dX5_setZones_30 sx_m3 ?_
      refine sx_iadd (pc := 31) dX5_setZones_31 ?_
      refine sx_icmp_ne (pc := 32) (tgt := 45) dX5_setZones_32 (by decide) (fun c6 => ?_) (fun c6 => ?_)
      · have h := sx_neg c6 h
        refine sx_wk (sx_s1 sx_m0 (sx_s1 sx_m1 (sx_s1 sx_m2 (sx_s1 sx_m3 sx_s0)))) ?_
        exact tB_X5_setZones_45 hG hP hk16 h
      · have h := sx_pos c6 h
        refine sx_wk (sx_s1 sx_m0 (sx_s1 sx_m1 (sx_s1 sx_m2 (sx_s1 sx_m3 sx_s0)))) ?_
        exact tB_X5_setZones_35 hG hP hk16 h
theorem tL_X5_setZones_16 {g : sx_G} (hG : sx_Go g) {P : Option Value → sv_V → Prop} {Vr : sv_V} (hP : P none Vr) {N : Nat}   : ∀ (n : Nat) (l1 : Int32) (l2 : Int32) (l3 : Int32) (V : sv_V), sx_lp4 (B_X5_setZones_16 N ) n l1 l2 l3 V = some Vr → sv_N g qX5_setZones 1 16 [(0, .ref 69), (1, .int l1), (2, .int l2), (3, .int l3)] [] V P :=
  sx_lp4_ind (fun k0 ih _ _ _ V h => tB_X5_setZones_16 hG hP ih h)
def F_X5_setZones (N : Nat) (l1 : Int32) (l2 : Int32) (V : sv_V) : Option sv_V := (F_X5_isZone l2 V).bind (fun (x9, V7) => if x9 = 0 then (sx_let (sv_I V7 69 14 (5 : Int32)) (fun V11 => some V11)) else (sx_lp4 (B_X5_setZones_16 N ) N l1 l2 (0 : Int32) V7))
set_option maxRecDepth 20000 in
theorem t_X5_setZones {g : sx_G} (hG : sx_Go g) {P : Option Value → sv_V → Prop} {Vr : sv_V} (hP : P none Vr) {N : Nat} {l1 : Int32} {l2 : Int32} {V : sv_V} (h : F_X5_setZones N l1 l2 V = some Vr) : sv_N g qX5_setZones 1 0 [(0, .ref 69), (1, .int l1), (2, .int l2)] [] V P := by
  unfold F_X5_setZones at h
  refine sx_aload_n (pc := 0) dX5_setZones_0 sx_m0 ?_
  refine sx_iload_n (pc := 1) dX5_setZones_1 sx_m2 ?_
  obtain ⟨⟨x9, V7⟩, g8, h⟩ := sx_bnd h
  refine sv_cV (pc := 2) (y := qX5_isZone) (o := (some (.int x9))) (as := [.int l2]) (V1 := V7) hG dX5_setZones_2 l_X5_298 y0X5_isZone yvX5_isZone rfl (Nat.le_of_ble_eq_true rfl) lay_69 kr_5 (by decide) (Nat.le_of_ble_eq_true rfl) rfl rfl rfl (t_X5_isZone hG ⟨rfl, rfl⟩ g8) ?_
  refine sx_if_ne (pc := 5) (tgt := 14) dX5_setZones_5 (by decide) (fun c10 => ?_) (fun c10 => ?_)
  · have h := sx_neg c10 h
    refine sx_iconst (pc := 14) (v := 0) dX5_setZones_14 (by decide) ?_
    refine sx_istore_n (pc := 15) (lo' := [(3, .int (0 : Int32)), (0, .ref 69), (1, .int l1), (2, .int l2)]) dX5_setZones_15 (by decide) rfl ?_
    refine sx_wk (sx_s1 sx_m1 (sx_s1 sx_m2 (sx_s1 sx_m3 (sx_s1 sx_m0 sx_s0)))) ?_
    exact tL_X5_setZones_16 hG hP  N _ _ _ _ h
  · have h := sx_pos c10 h
    refine sx_aload_n (pc := 8) dX5_setZones_8 sx_m0 ?_
    refine sx_iconst (pc := 9) (v := 5) dX5_setZones_9 (by decide) ?_
    obtain ⟨V11, hV11⟩ : ∃ z : sv_V, z = sv_I V7 69 14 (5 : Int32) := ⟨_, rfl⟩
    have h := sx_letE hV11 h
    refine sv_putI (pc := 10) hG dX5_setZones_10 f_5_56 lay_69 rfl hV11 ?_
    exact sv_vret (pc := 13) dX5_setZones_13 rfl h hP
def ncX5_setLoop : Nat := 18707331072864063005362261994297265176012067716552024932785089217563
theorem kcX5_setLoop : CK cX5_setLoop ncX5_setLoop 28 := ⟨by decide +kernel, by decide +kernel⟩
theorem dX5_setLoop_0 : decode cX5_setLoop 0 = .ok (.iload_n 1, 1) := dl_o27 kcX5_setLoop (by decide +kernel)
theorem dX5_setLoop_1 : decode cX5_setLoop 1 = .ok (.iconst 1, 1) := dl_o4 kcX5_setLoop (by decide +kernel)
theorem dX5_setLoop_2 : decode cX5_setLoop 2 = .ok (.if_icmp .lt 10, 3) := dl_o161 kcX5_setLoop 10 (by decide +kernel) (by decide +kernel)
theorem dX5_setLoop_5 : decode cX5_setLoop 5 = .ok (.iload_n 1, 1) := dl_o27 kcX5_setLoop (by decide +kernel)
theorem dX5_setLoop_6 : decode cX5_setLoop 6 = .ok (.ldc_w 301, 3) := dl_o19 kcX5_setLoop (by decide +kernel)
theorem dX5_setLoop_9 : decode cX5_setLoop 9 = .ok (.if_icmp .le 10, 3) := dl_o164 kcX5_setLoop 10 (by decide +kernel) (by decide +kernel)
theorem dX5_setLoop_12 : decode cX5_setLoop 12 = .ok (.aload_n 0, 1) := dl_o42 kcX5_setLoop (by decide +kernel)
theorem dX5_setLoop_13 : decode cX5_setLoop 13 = .ok (.bipush 11, 2) := dl_o16 kcX5_setLoop 11 (by decide +kernel) (by decide +kernel)
theorem dX5_setLoop_15 : decode cX5_setLoop 15 = .ok (.putfield 56, 3) := dl_o181 kcX5_setLoop (by decide +kernel)
theorem dX5_setLoop_18 : decode cX5_setLoop 18 = .ok (.return_, 1) := dl_o177 kcX5_setLoop (by decide +kernel)
theorem dX5_setLoop_19 : decode cX5_setLoop 19 = .ok (.aload_n 0, 1) := dl_o42 kcX5_setLoop (by decide +kernel)
theorem dX5_setLoop_20 : decode cX5_setLoop 20 = .ok (.getfield 12, 3) := dl_o180 kcX5_setLoop (by decide +kernel)
theorem dX5_setLoop_23 : decode cX5_setLoop 23 = .ok (.iload_n 1, 1) := dl_o27 kcX5_setLoop (by decide +kernel)
theorem dX5_setLoop_24 : decode cX5_setLoop 24 = .ok (.putfield 163, 3) := dl_o181 kcX5_setLoop (by decide +kernel)
theorem dX5_setLoop_27 : decode cX5_setLoop 27 = .ok (.return_, 1) := dl_o177 kcX5_setLoop (by decide +kernel)
def F_X5_setLoop (l1 : Int32) (V : sv_V) : Option sv_V := if l1 < (1 : Int32) then (sx_let (sv_I V 69 14 (11 : Int32)) (fun V2 => some V2)) else (if l1 ≤ (65535 : Int32) then (sx_let (sv_I V 70 8 l1) (fun V4 => some V4)) else (sx_let (sv_I V 69 14 (11 : Int32)) (fun V5 => some V5)))
set_option maxRecDepth 20000 in
theorem t_X5_setLoop {g : sx_G} (hG : sx_Go g) {P : Option Value → sv_V → Prop} {Vr : sv_V} (hP : P none Vr) {l1 : Int32} {V : sv_V} (h : F_X5_setLoop l1 V = some Vr) : sv_N g qX5_setLoop 0 0 [(0, .ref 69), (1, .int l1)] [] V P := by
  unfold F_X5_setLoop at h
  refine sx_iload_n (pc := 0) dX5_setLoop_0 sx_m1 ?_
  refine sx_iconst (pc := 1) (v := 1) dX5_setLoop_1 (by decide) ?_
  refine sx_icmp_lt (pc := 2) (tgt := 12) dX5_setLoop_2 (by decide) (fun c1 => ?_) (fun c1 => ?_)
  · have h := sx_pos c1 h
    refine sx_aload_n (pc := 12) dX5_setLoop_12 sx_m0 ?_
    refine sx_bipush (pc := 13) (v := 11) dX5_setLoop_13 (by decide) ?_
    obtain ⟨V2, hV2⟩ : ∃ z : sv_V, z = sv_I V 69 14 (11 : Int32) := ⟨_, rfl⟩
    have h := sx_letE hV2 h
    refine sv_putI (pc := 15) hG dX5_setLoop_15 f_5_56 lay_69 rfl hV2 ?_
    exact sv_vret (pc := 18) dX5_setLoop_18 rfl h hP
  · have h := sx_neg c1 h
    refine sx_iload_n (pc := 5) dX5_setLoop_5 sx_m1 ?_
    refine sx_ldcw (pc := 6) dX5_setLoop_6 k_X5_301 ?_
    refine sx_icmp_le (pc := 9) (tgt := 19) dX5_setLoop_9 (by decide) (fun c3 => ?_) (fun c3 => ?_)
    · have h := sx_pos c3 h
      refine sx_aload_n (pc := 19) dX5_setLoop_19 sx_m0 ?_
      refine sv_getO (pc := 20) hG dX5_setLoop_20 f_5_12 lay_69 rfl cr_69_1 ?_
      refine sx_iload_n (pc := 23) dX5_setLoop_23 sx_m1 ?_
      obtain ⟨V4, hV4⟩ : ∃ z : sv_V, z = sv_I V 70 8 l1 := ⟨_, rfl⟩
      have h := sx_letE hV4 h
      refine sv_putI (pc := 24) hG dX5_setLoop_24 f_5_163 lay_70 rfl hV4 ?_
      exact sv_vret (pc := 27) dX5_setLoop_27 rfl h hP
    · have h := sx_neg c3 h
      refine sx_aload_n (pc := 12) dX5_setLoop_12 sx_m0 ?_
      refine sx_bipush (pc := 13) (v := 11) dX5_setLoop_13 (by decide) ?_
      obtain ⟨V5, hV5⟩ : ∃ z : sv_V, z = sv_I V 69 14 (11 : Int32) := ⟨_, rfl⟩
      have h := sx_letE hV5 h
      refine sv_putI (pc := 15) hG dX5_setLoop_15 f_5_56 lay_69 rfl hV5 ?_
      exact sv_vret (pc := 18) dX5_setLoop_18 rfl h hP
def ncX5_setShift : Nat := 4780241348025695554923156304060782302405450060539302250798099954965275
theorem kcX5_setShift : CK cX5_setShift ncX5_setShift 29 := ⟨by decide +kernel, by decide +kernel⟩
theorem dX5_setShift_0 : decode cX5_setShift 0 = .ok (.iload_n 1, 1) := dl_o27 kcX5_setShift (by decide +kernel)
theorem dX5_setShift_1 : decode cX5_setShift 1 = .ok (.ifCond .lt 9, 3) := dl_o155 kcX5_setShift 9 (by decide +kernel) (by decide +kernel)
theorem dX5_setShift_4 : decode cX5_setShift 4 = .ok (.iload_n 1, 1) := dl_o27 kcX5_setShift (by decide +kernel)
theorem dX5_setShift_5 : decode cX5_setShift 5 = .ok (.bipush 6, 2) := dl_o16 kcX5_setShift 6 (by decide +kernel) (by decide +kernel)
theorem dX5_setShift_7 : decode cX5_setShift 7 = .ok (.if_icmp .le 10, 3) := dl_o164 kcX5_setShift 10 (by decide +kernel) (by decide +kernel)
theorem dX5_setShift_10 : decode cX5_setShift 10 = .ok (.aload_n 0, 1) := dl_o42 kcX5_setShift (by decide +kernel)
theorem dX5_setShift_11 : decode cX5_setShift 11 = .ok (.bipush 11, 2) := dl_o16 kcX5_setShift 11 (by decide +kernel) (by decide +kernel)
theorem dX5_setShift_13 : decode cX5_setShift 13 = .ok (.putfield 56, 3) := dl_o181 kcX5_setShift (by decide +kernel)
theorem dX5_setShift_16 : decode cX5_setShift 16 = .ok (.return_, 1) := dl_o177 kcX5_setShift (by decide +kernel)
theorem dX5_setShift_17 : decode cX5_setShift 17 = .ok (.aload_n 0, 1) := dl_o42 kcX5_setShift (by decide +kernel)
theorem dX5_setShift_18 : decode cX5_setShift 18 = .ok (.getfield 49, 3) := dl_o180 kcX5_setShift (by decide +kernel)
theorem dX5_setShift_21 : decode cX5_setShift 21 = .ok (.getfield 272, 3) := dl_o180 kcX5_setShift (by decide +kernel)
theorem dX5_setShift_24 : decode cX5_setShift 24 = .ok (.bipush 6, 2) := dl_o16 kcX5_setShift 6 (by decide +kernel) (by decide +kernel)
theorem dX5_setShift_26 : decode cX5_setShift 26 = .ok (.iload_n 1, 1) := dl_o27 kcX5_setShift (by decide +kernel)
theorem dX5_setShift_27 : decode cX5_setShift 27 = .ok (.iastore, 1) := dl_o79 kcX5_setShift (by decide +kernel)
theorem dX5_setShift_28 : decode cX5_setShift 28 = .ok (.return_, 1) := dl_o177 kcX5_setShift (by decide +kernel)
def F_X5_setShift (l1 : Int32) (V : sv_V) : Option sv_V := if l1 < 0 then (sx_let (sv_I V 69 14 (11 : Int32)) (fun V2 => some V2)) else (if l1 ≤ (6 : Int32) then ((V.2.2 69 6).bind (fun b4 => if lay b4 = .inl 7 then (cr b4 5).bind (fun b7 => (sv_len 0 b7).bind (fun n9 => if sx_in (6 : Int32) n9 = true then sx_let (sv_I V b7 (6 : Int32).toNatClampNeg l1) (fun V12 => some V12) else none)) else none)) else (sx_let (sv_I V 69 14 (11 : Int32)) (fun V13 => some V13)))
set_option maxRecDepth 20000 in
theorem t_X5_setShift {g : sx_G} (hG : sx_Go g) {P : Option Value → sv_V → Prop} {Vr : sv_V} (hP : P none Vr) {l1 : Int32} {V : sv_V} (h : F_X5_setShift l1 V = some Vr) : sv_N g qX5_setShift 0 0 [(0, .ref 69), (1, .int l1)] [] V P := by
  unfold F_X5_setShift at h
  refine sx_iload_n (pc := 0) dX5_setShift_0 sx_m1 ?_
  refine sx_if_lt (pc := 1) (tgt := 10) dX5_setShift_1 (by decide) (fun c1 => ?_) (fun c1 => ?_)
  · have h := sx_pos c1 h
    refine sx_aload_n (pc := 10) dX5_setShift_10 sx_m0 ?_
    refine sx_bipush (pc := 11) (v := 11) dX5_setShift_11 (by decide) ?_
    obtain ⟨V2, hV2⟩ : ∃ z : sv_V, z = sv_I V 69 14 (11 : Int32) := ⟨_, rfl⟩
    have h := sx_letE hV2 h
    refine sv_putI (pc := 13) hG dX5_setShift_13 f_5_56 lay_69 rfl hV2 ?_
    exact sv_vret (pc := 16) dX5_setShift_16 rfl h hP
  · have h := sx_neg c1 h
    refine sx_iload_n (pc := 4) dX5_setShift_4 sx_m1 ?_
    refine sx_bipush (pc := 5) (v := 6) dX5_setShift_5 (by decide) ?_
    refine sx_icmp_le (pc := 7) (tgt := 17) dX5_setShift_7 (by decide) (fun c3 => ?_) (fun c3 => ?_)
    · have h := sx_pos c3 h
      refine sx_aload_n (pc := 17) dX5_setShift_17 sx_m0 ?_
      obtain ⟨b4, g5, h⟩ := sx_bnd h
      refine sv_getV (pc := 18) hG dX5_setShift_18 f_5_49 lay_69 rfl rfl g5 ?_
      obtain ⟨g6, h⟩ := sx_grd h
      obtain ⟨b7, g8, h⟩ := sx_bnd h
      refine sv_getA (pc := 21) hG dX5_setShift_21 f_5_272 g6 rfl g8 ?_
      refine sx_bipush (pc := 24) (v := 6) dX5_setShift_24 (by decide) ?_
      refine sx_iload_n (pc := 26) dX5_setShift_26 sx_m1 ?_
      obtain ⟨n9, g10, h⟩ := sx_bnd h
      obtain ⟨g11, h⟩ := sx_grd h
      obtain ⟨V12, hV12⟩ : ∃ z : sv_V, z = sv_I V b7 (6 : Int32).toNatClampNeg l1 := ⟨_, rfl⟩
      have h := sx_letE hV12 h
      refine sv_iast (pc := 27) hG dX5_setShift_27 (sv_len_e g10) g11 hV12 ?_
      exact sv_vret (pc := 28) dX5_setShift_28 rfl h hP
    · have h := sx_neg c3 h
      refine sx_aload_n (pc := 10) dX5_setShift_10 sx_m0 ?_
      refine sx_bipush (pc := 11) (v := 11) dX5_setShift_11 (by decide) ?_
      obtain ⟨V13, hV13⟩ : ∃ z : sv_V, z = sv_I V 69 14 (11 : Int32) := ⟨_, rfl⟩
      have h := sx_letE hV13 h
      refine sv_putI (pc := 13) hG dX5_setShift_13 f_5_56 lay_69 rfl hV13 ?_
      exact sv_vret (pc := 16) dX5_setShift_16 rfl h hP
def ncX5_jump : Nat := 6988469533160380207180547991508525561065904900861839315903375016610296717754679153949018271719545721162124985278444586
theorem kcX5_jump : CK cX5_jump ncX5_jump 49 := ⟨by decide +kernel, by decide +kernel⟩
theorem dX5_jump_0 : decode cX5_jump 0 = .ok (.aload_n 0, 1) := dl_o42 kcX5_jump (by decide +kernel)
theorem dX5_jump_1 : decode cX5_jump 1 = .ok (.getfield 87, 3) := dl_o180 kcX5_jump (by decide +kernel)
theorem dX5_jump_4 : decode cX5_jump 4 = .ok (.i2l, 1) := dl_o133 kcX5_jump (by decide +kernel)
theorem dX5_jump_5 : decode cX5_jump 5 = .ok (.aload_n 0, 1) := dl_o42 kcX5_jump (by decide +kernel)
theorem dX5_jump_6 : decode cX5_jump 6 = .ok (.getfield 41, 3) := dl_o180 kcX5_jump (by decide +kernel)
theorem dX5_jump_9 : decode cX5_jump 9 = .ok (.i2l, 1) := dl_o133 kcX5_jump (by decide +kernel)
theorem dX5_jump_10 : decode cX5_jump 10 = .ok (.ladd, 1) := dl_o97 kcX5_jump (by decide +kernel)
theorem dX5_jump_11 : decode cX5_jump 11 = .ok (.iload_n 1, 1) := dl_o27 kcX5_jump (by decide +kernel)
theorem dX5_jump_12 : decode cX5_jump 12 = .ok (.i2l, 1) := dl_o133 kcX5_jump (by decide +kernel)
theorem dX5_jump_13 : decode cX5_jump 13 = .ok (.ladd, 1) := dl_o97 kcX5_jump (by decide +kernel)
theorem dX5_jump_14 : decode cX5_jump 14 = .ok (.lstore_n 2, 1) := dl_o65 kcX5_jump (by decide +kernel)
theorem dX5_jump_15 : decode cX5_jump 15 = .ok (.lload_n 2, 1) := dl_o32 kcX5_jump (by decide +kernel)
theorem dX5_jump_16 : decode cX5_jump 16 = .ok (.aload_n 0, 1) := dl_o42 kcX5_jump (by decide +kernel)
theorem dX5_jump_17 : decode cX5_jump 17 = .ok (.getfield 87, 3) := dl_o180 kcX5_jump (by decide +kernel)
theorem dX5_jump_20 : decode cX5_jump 20 = .ok (.i2l, 1) := dl_o133 kcX5_jump (by decide +kernel)
theorem dX5_jump_21 : decode cX5_jump 21 = .ok (.lcmp, 1) := dl_o148 kcX5_jump (by decide +kernel)
theorem dX5_jump_22 : decode cX5_jump 22 = .ok (.ifCond .lt 13, 3) := dl_o155 kcX5_jump 13 (by decide +kernel) (by decide +kernel)
theorem dX5_jump_25 : decode cX5_jump 25 = .ok (.lload_n 2, 1) := dl_o32 kcX5_jump (by decide +kernel)
theorem dX5_jump_26 : decode cX5_jump 26 = .ok (.aload_n 0, 1) := dl_o42 kcX5_jump (by decide +kernel)
theorem dX5_jump_27 : decode cX5_jump 27 = .ok (.getfield 90, 3) := dl_o180 kcX5_jump (by decide +kernel)
theorem dX5_jump_30 : decode cX5_jump 30 = .ok (.i2l, 1) := dl_o133 kcX5_jump (by decide +kernel)
theorem dX5_jump_31 : decode cX5_jump 31 = .ok (.lcmp, 1) := dl_o148 kcX5_jump (by decide +kernel)
theorem dX5_jump_32 : decode cX5_jump 32 = .ok (.ifCond .le 10, 3) := dl_o158 kcX5_jump 10 (by decide +kernel) (by decide +kernel)
theorem dX5_jump_35 : decode cX5_jump 35 = .ok (.aload_n 0, 1) := dl_o42 kcX5_jump (by decide +kernel)
theorem dX5_jump_36 : decode cX5_jump 36 = .ok (.bipush 8, 2) := dl_o16 kcX5_jump 8 (by decide +kernel) (by decide +kernel)
theorem dX5_jump_38 : decode cX5_jump 38 = .ok (.putfield 56, 3) := dl_o181 kcX5_jump (by decide +kernel)
theorem dX5_jump_41 : decode cX5_jump 41 = .ok (.return_, 1) := dl_o177 kcX5_jump (by decide +kernel)
theorem dX5_jump_42 : decode cX5_jump 42 = .ok (.aload_n 0, 1) := dl_o42 kcX5_jump (by decide +kernel)
theorem dX5_jump_43 : decode cX5_jump 43 = .ok (.lload_n 2, 1) := dl_o32 kcX5_jump (by decide +kernel)
theorem dX5_jump_44 : decode cX5_jump 44 = .ok (.l2i, 1) := dl_o136 kcX5_jump (by decide +kernel)
theorem dX5_jump_45 : decode cX5_jump 45 = .ok (.putfield 93, 3) := dl_o181 kcX5_jump (by decide +kernel)
theorem dX5_jump_48 : decode cX5_jump 48 = .ok (.return_, 1) := dl_o177 kcX5_jump (by decide +kernel)
def F_X5_jump (l1 : Int32) (V : sv_V) : Option sv_V := sx_let ((((V.1 69 9).toInt64) + ((V.1 69 15).toInt64)) + l1.toInt64) (fun x1 => if (lg_cmp x1 ((V.1 69 9).toInt64)) < 0 then (sx_let (sv_I V 69 14 (8 : Int32)) (fun V3 => some V3)) else (if (lg_cmp x1 ((V.1 69 10).toInt64)) ≤ 0 then (sx_let (sv_I V 69 11 x1.toInt32) (fun V5 => some V5)) else (sx_let (sv_I V 69 14 (8 : Int32)) (fun V6 => some V6))))
set_option maxRecDepth 20000 in
theorem t_X5_jump {g : sx_G} (hG : sx_Go g) {P : Option Value → sv_V → Prop} {Vr : sv_V} (hP : P none Vr) {l1 : Int32} {V : sv_V} (h : F_X5_jump l1 V = some Vr) : sv_N g qX5_jump 0 0 [(0, .ref 69), (1, .int l1)] [] V P := by
  unfold F_X5_jump at h
  refine sx_aload_n (pc := 0) dX5_jump_0 sx_m0 ?_
  refine sv_getI (pc := 1) hG dX5_jump_1 f_5_87 lay_69 rfl ?_
  refine sx_i2l (pc := 4) dX5_jump_4 ?_
  refine sx_aload_n (pc := 5) dX5_jump_5 sx_m0 ?_
  refine sv_getI (pc := 6) hG dX5_jump_6 f_5_41 lay_69 rfl ?_
  refine sx_i2l (pc := 9) dX5_jump_9 ?_
  refine sx_ladd (pc := 10) dX5_jump_10 ?_
  refine sx_iload_n (pc := 11) dX5_jump_11 sx_m1 ?_
  refine sx_i2l (pc := 12) dX5_jump_12 ?_
  refine sx_ladd (pc := 13) dX5_jump_13 ?_
  refine sv_tJ (fun x1 hx1 => ?_)
  have h := sx_letE hx1 h
  refine sx_lstore_n (pc := 14) (lo' := [(2, .long x1), (0, .ref 69), (1, .int l1)]) dX5_jump_14 (by decide) rfl ?_
  refine sx_lload_n (pc := 15) dX5_jump_15 sx_m0 ?_
  refine sx_aload_n (pc := 16) dX5_jump_16 sx_m1 ?_
  refine sv_getI (pc := 17) hG dX5_jump_17 f_5_87 lay_69 rfl ?_
  refine sx_i2l (pc := 20) dX5_jump_20 ?_
  refine sx_lcmp (pc := 21) dX5_jump_21 ?_
  refine sx_if_lt (pc := 22) (tgt := 35) dX5_jump_22 (by decide) (fun c2 => ?_) (fun c2 => ?_)
  · have h := sx_pos c2 h
    refine sx_aload_n (pc := 35) dX5_jump_35 sx_m1 ?_
    refine sx_bipush (pc := 36) (v := 8) dX5_jump_36 (by decide) ?_
    obtain ⟨V3, hV3⟩ : ∃ z : sv_V, z = sv_I V 69 14 (8 : Int32) := ⟨_, rfl⟩
    have h := sx_letE hV3 h
    refine sv_putI (pc := 38) hG dX5_jump_38 f_5_56 lay_69 rfl hV3 ?_
    exact sv_vret (pc := 41) dX5_jump_41 rfl h hP
  · have h := sx_neg c2 h
    refine sx_lload_n (pc := 25) dX5_jump_25 sx_m0 ?_
    refine sx_aload_n (pc := 26) dX5_jump_26 sx_m1 ?_
    refine sv_getI (pc := 27) hG dX5_jump_27 f_5_90 lay_69 rfl ?_
    refine sx_i2l (pc := 30) dX5_jump_30 ?_
    refine sx_lcmp (pc := 31) dX5_jump_31 ?_
    refine sx_if_le (pc := 32) (tgt := 42) dX5_jump_32 (by decide) (fun c4 => ?_) (fun c4 => ?_)
    · have h := sx_pos c4 h
      refine sx_aload_n (pc := 42) dX5_jump_42 sx_m1 ?_
      refine sx_lload_n (pc := 43) dX5_jump_43 sx_m0 ?_
      refine sx_l2i (pc := 44) dX5_jump_44 ?_
      obtain ⟨V5, hV5⟩ : ∃ z : sv_V, z = sv_I V 69 11 x1.toInt32 := ⟨_, rfl⟩
      have h := sx_letE hV5 h
      refine sv_putI (pc := 45) hG dX5_jump_45 f_5_93 lay_69 rfl hV5 ?_
      exact sv_vret (pc := 48) dX5_jump_48 rfl h hP
    · have h := sx_neg c4 h
      refine sx_aload_n (pc := 35) dX5_jump_35 sx_m1 ?_
      refine sx_bipush (pc := 36) (v := 8) dX5_jump_36 (by decide) ?_
      obtain ⟨V6, hV6⟩ : ∃ z : sv_V, z = sv_I V 69 14 (8 : Int32) := ⟨_, rfl⟩
      have h := sx_letE hV6 h
      refine sv_putI (pc := 38) hG dX5_jump_38 f_5_56 lay_69 rfl hV6 ?_
      exact sv_vret (pc := 41) dX5_jump_41 rfl h hP
def ncX5_passCode : Nat := 2449928067630119586006220826034266040629676574545734274034136098967317378505060912691542885592682216607662804497189992568719860843314817960210779842226079219049388257307378476368237097101675403508797199369474846544797160659618680351222996826407284540447930181354030027110334290829910140383054793881309279071709687601390535144319127656641578
theorem kcX5_passCode : CK cX5_passCode ncX5_passCode 141 := ⟨by decide +kernel, by decide +kernel⟩
theorem dX5_passCode_0 : decode cX5_passCode 0 = .ok (.aload_n 0, 1) := dl_o42 kcX5_passCode (by decide +kernel)
theorem dX5_passCode_1 : decode cX5_passCode 1 = .ok (.getfield 45, 3) := dl_o180 kcX5_passCode (by decide +kernel)
theorem dX5_passCode_4 : decode cX5_passCode 4 = .ok (.aload_n 0, 1) := dl_o42 kcX5_passCode (by decide +kernel)
theorem dX5_passCode_5 : decode cX5_passCode 5 = .ok (.getfield 93, 3) := dl_o180 kcX5_passCode (by decide +kernel)
theorem dX5_passCode_8 : decode cX5_passCode 8 = .ok (.invokevirtual 156, 3) := dl_o182 kcX5_passCode (by decide +kernel)
theorem dX5_passCode_11 : decode cX5_passCode 11 = .ok (.istore_n 1, 1) := dl_o60 kcX5_passCode (by decide +kernel)
theorem dX5_passCode_12 : decode cX5_passCode 12 = .ok (.iconst 1, 1) := dl_o4 kcX5_passCode (by decide +kernel)
theorem dX5_passCode_13 : decode cX5_passCode 13 = .ok (.istore_n 2, 1) := dl_o61 kcX5_passCode (by decide +kernel)
theorem dX5_passCode_14 : decode cX5_passCode 14 = .ok (.iload_n 1, 1) := dl_o27 kcX5_passCode (by decide +kernel)
theorem dX5_passCode_15 : decode cX5_passCode 15 = .ok (.bipush 64, 2) := dl_o16 kcX5_passCode 64 (by decide +kernel) (by decide +kernel)
theorem dX5_passCode_17 : decode cX5_passCode 17 = .ok (.if_icmp .eq 9, 3) := dl_o159 kcX5_passCode 9 (by decide +kernel) (by decide +kernel)
theorem dX5_passCode_20 : decode cX5_passCode 20 = .ok (.iload_n 1, 1) := dl_o27 kcX5_passCode (by decide +kernel)
theorem dX5_passCode_21 : decode cX5_passCode 21 = .ok (.bipush 65, 2) := dl_o16 kcX5_passCode 65 (by decide +kernel) (by decide +kernel)
theorem dX5_passCode_23 : decode cX5_passCode 23 = .ok (.if_icmp .ne 44, 3) := dl_o160 kcX5_passCode 44 (by decide +kernel) (by decide +kernel)
theorem dX5_passCode_26 : decode cX5_passCode 26 = .ok (.aload_n 0, 1) := dl_o42 kcX5_passCode (by decide +kernel)
theorem dX5_passCode_27 : decode cX5_passCode 27 = .ok (.getfield 93, 3) := dl_o180 kcX5_passCode (by decide +kernel)
theorem dX5_passCode_30 : decode cX5_passCode 30 = .ok (.iconst 1, 1) := dl_o4 kcX5_passCode (by decide +kernel)
theorem dX5_passCode_31 : decode cX5_passCode 31 = .ok (.iadd, 1) := dl_o96 kcX5_passCode (by decide +kernel)
theorem dX5_passCode_32 : decode cX5_passCode 32 = .ok (.aload_n 0, 1) := dl_o42 kcX5_passCode (by decide +kernel)
theorem dX5_passCode_33 : decode cX5_passCode 33 = .ok (.getfield 90, 3) := dl_o180 kcX5_passCode (by decide +kernel)
theorem dX5_passCode_36 : decode cX5_passCode 36 = .ok (.if_icmp .ge 26, 3) := dl_o162 kcX5_passCode 26 (by decide +kernel) (by decide +kernel)
theorem dX5_passCode_39 : decode cX5_passCode 39 = .ok (.iconst 2, 1) := dl_o5 kcX5_passCode (by decide +kernel)
theorem dX5_passCode_40 : decode cX5_passCode 40 = .ok (.aload_n 0, 1) := dl_o42 kcX5_passCode (by decide +kernel)
theorem dX5_passCode_41 : decode cX5_passCode 41 = .ok (.getfield 45, 3) := dl_o180 kcX5_passCode (by decide +kernel)
theorem dX5_passCode_44 : decode cX5_passCode 44 = .ok (.aload_n 0, 1) := dl_o42 kcX5_passCode (by decide +kernel)
theorem dX5_passCode_45 : decode cX5_passCode 45 = .ok (.getfield 93, 3) := dl_o180 kcX5_passCode (by decide +kernel)
theorem dX5_passCode_48 : decode cX5_passCode 48 = .ok (.iconst 1, 1) := dl_o4 kcX5_passCode (by decide +kernel)
theorem dX5_passCode_49 : decode cX5_passCode 49 = .ok (.iadd, 1) := dl_o96 kcX5_passCode (by decide +kernel)
theorem dX5_passCode_50 : decode cX5_passCode 50 = .ok (.invokevirtual 156, 3) := dl_o182 kcX5_passCode (by decide +kernel)
theorem dX5_passCode_53 : decode cX5_passCode 53 = .ok (.iload_n 1, 1) := dl_o27 kcX5_passCode (by decide +kernel)
theorem dX5_passCode_54 : decode cX5_passCode 54 = .ok (.bipush 63, 2) := dl_o16 kcX5_passCode 63 (by decide +kernel) (by decide +kernel)
theorem dX5_passCode_56 : decode cX5_passCode 56 = .ok (.isub, 1) := dl_o100 kcX5_passCode (by decide +kernel)
theorem dX5_passCode_57 : decode cX5_passCode 57 = .ok (.imul, 1) := dl_o104 kcX5_passCode (by decide +kernel)
theorem dX5_passCode_58 : decode cX5_passCode 58 = .ok (.iadd, 1) := dl_o96 kcX5_passCode (by decide +kernel)
theorem dX5_passCode_59 : decode cX5_passCode 59 = .ok (.goto 4, 3) := dl_o167 kcX5_passCode 4 (by decide +kernel) (by decide +kernel)
theorem dX5_passCode_62 : decode cX5_passCode 62 = .ok (.iconst 2, 1) := dl_o5 kcX5_passCode (by decide +kernel)
theorem dX5_passCode_63 : decode cX5_passCode 63 = .ok (.istore_n 2, 1) := dl_o61 kcX5_passCode (by decide +kernel)
theorem dX5_passCode_64 : decode cX5_passCode 64 = .ok (.goto 50, 3) := dl_o167 kcX5_passCode 50 (by decide +kernel) (by decide +kernel)
theorem dX5_passCode_67 : decode cX5_passCode 67 = .ok (.iload_n 1, 1) := dl_o27 kcX5_passCode (by decide +kernel)
theorem dX5_passCode_68 : decode cX5_passCode 68 = .ok (.sipush 176, 3) := dl_o17 kcX5_passCode 176 (by decide +kernel) (by decide +kernel)
theorem dX5_passCode_71 : decode cX5_passCode 71 = .ok (.if_icmp .lt 19, 3) := dl_o161 kcX5_passCode 19 (by decide +kernel) (by decide +kernel)
theorem dX5_passCode_74 : decode cX5_passCode 74 = .ok (.iload_n 1, 1) := dl_o27 kcX5_passCode (by decide +kernel)
theorem dX5_passCode_75 : decode cX5_passCode 75 = .ok (.sipush 183, 3) := dl_o17 kcX5_passCode 183 (by decide +kernel) (by decide +kernel)
theorem dX5_passCode_78 : decode cX5_passCode 78 = .ok (.if_icmp .gt 12, 3) := dl_o163 kcX5_passCode 12 (by decide +kernel) (by decide +kernel)
theorem dX5_passCode_81 : decode cX5_passCode 81 = .ok (.iload_n 1, 1) := dl_o27 kcX5_passCode (by decide +kernel)
theorem dX5_passCode_82 : decode cX5_passCode 82 = .ok (.sipush 174, 3) := dl_o17 kcX5_passCode 174 (by decide +kernel) (by decide +kernel)
theorem dX5_passCode_85 : decode cX5_passCode 85 = .ok (.isub, 1) := dl_o100 kcX5_passCode (by decide +kernel)
theorem dX5_passCode_86 : decode cX5_passCode 86 = .ok (.istore_n 2, 1) := dl_o61 kcX5_passCode (by decide +kernel)
theorem dX5_passCode_87 : decode cX5_passCode 87 = .ok (.goto 27, 3) := dl_o167 kcX5_passCode 27 (by decide +kernel) (by decide +kernel)
theorem dX5_passCode_90 : decode cX5_passCode 90 = .ok (.iload_n 1, 1) := dl_o27 kcX5_passCode (by decide +kernel)
theorem dX5_passCode_91 : decode cX5_passCode 91 = .ok (.sipush 184, 3) := dl_o17 kcX5_passCode 184 (by decide +kernel) (by decide +kernel)
theorem dX5_passCode_94 : decode cX5_passCode 94 = .ok (.if_icmp .lt 20, 3) := dl_o161 kcX5_passCode 20 (by decide +kernel) (by decide +kernel)
theorem dX5_passCode_97 : decode cX5_passCode 97 = .ok (.iload_n 1, 1) := dl_o27 kcX5_passCode (by decide +kernel)
theorem dX5_passCode_98 : decode cX5_passCode 98 = .ok (.sipush 191, 3) := dl_o17 kcX5_passCode 191 (by decide +kernel) (by decide +kernel)
theorem dX5_passCode_101 : decode cX5_passCode 101 = .ok (.if_icmp .gt 13, 3) := dl_o163 kcX5_passCode 13 (by decide +kernel) (by decide +kernel)
theorem dX5_passCode_104 : decode cX5_passCode 104 = .ok (.iconst 1, 1) := dl_o4 kcX5_passCode (by decide +kernel)
theorem dX5_passCode_105 : decode cX5_passCode 105 = .ok (.iconst 2, 1) := dl_o5 kcX5_passCode (by decide +kernel)
theorem dX5_passCode_106 : decode cX5_passCode 106 = .ok (.iload_n 1, 1) := dl_o27 kcX5_passCode (by decide +kernel)
theorem dX5_passCode_107 : decode cX5_passCode 107 = .ok (.sipush 183, 3) := dl_o17 kcX5_passCode 183 (by decide +kernel) (by decide +kernel)
theorem dX5_passCode_110 : decode cX5_passCode 110 = .ok (.isub, 1) := dl_o100 kcX5_passCode (by decide +kernel)
theorem dX5_passCode_111 : decode cX5_passCode 111 = .ok (.imul, 1) := dl_o104 kcX5_passCode (by decide +kernel)
theorem dX5_passCode_112 : decode cX5_passCode 112 = .ok (.iadd, 1) := dl_o96 kcX5_passCode (by decide +kernel)
theorem dX5_passCode_113 : decode cX5_passCode 113 = .ok (.istore_n 2, 1) := dl_o61 kcX5_passCode (by decide +kernel)
theorem dX5_passCode_114 : decode cX5_passCode 114 = .ok (.aload_n 0, 1) := dl_o42 kcX5_passCode (by decide +kernel)
theorem dX5_passCode_115 : decode cX5_passCode 115 = .ok (.dup, 1) := dl_o89 kcX5_passCode (by decide +kernel)
theorem dX5_passCode_116 : decode cX5_passCode 116 = .ok (.getfield 93, 3) := dl_o180 kcX5_passCode (by decide +kernel)
theorem dX5_passCode_119 : decode cX5_passCode 119 = .ok (.iload_n 2, 1) := dl_o28 kcX5_passCode (by decide +kernel)
theorem dX5_passCode_120 : decode cX5_passCode 120 = .ok (.iadd, 1) := dl_o96 kcX5_passCode (by decide +kernel)
theorem dX5_passCode_121 : decode cX5_passCode 121 = .ok (.putfield 93, 3) := dl_o181 kcX5_passCode (by decide +kernel)
theorem dX5_passCode_124 : decode cX5_passCode 124 = .ok (.aload_n 0, 1) := dl_o42 kcX5_passCode (by decide +kernel)
theorem dX5_passCode_125 : decode cX5_passCode 125 = .ok (.getfield 93, 3) := dl_o180 kcX5_passCode (by decide +kernel)
theorem dX5_passCode_128 : decode cX5_passCode 128 = .ok (.aload_n 0, 1) := dl_o42 kcX5_passCode (by decide +kernel)
theorem dX5_passCode_129 : decode cX5_passCode 129 = .ok (.getfield 90, 3) := dl_o180 kcX5_passCode (by decide +kernel)
theorem dX5_passCode_132 : decode cX5_passCode 132 = .ok (.if_icmp .gt 7, 3) := dl_o163 kcX5_passCode 7 (by decide +kernel) (by decide +kernel)
theorem dX5_passCode_135 : decode cX5_passCode 135 = .ok (.iconst 1, 1) := dl_o4 kcX5_passCode (by decide +kernel)
theorem dX5_passCode_136 : decode cX5_passCode 136 = .ok (.goto 4, 3) := dl_o167 kcX5_passCode 4 (by decide +kernel) (by decide +kernel)
theorem dX5_passCode_139 : decode cX5_passCode 139 = .ok (.iconst 0, 1) := dl_o3 kcX5_passCode (by decide +kernel)
theorem dX5_passCode_140 : decode cX5_passCode 140 = .ok (.ireturn, 1) := dl_o172 kcX5_passCode (by decide +kernel)
def B_X5_passCode_114  (l2 : Int32) (V : sv_V) : Option (Int32 × sv_V) := sx_let (sv_I V 69 11 ((V.1 69 11) + l2)) (fun V1 => if (V1.1 69 10) < (V1.1 69 11) then (some ((0 : Int32), V1)) else (some ((1 : Int32), V1)))
set_option maxRecDepth 20000 in
theorem tB_X5_passCode_114 {g : sx_G} (hG : sx_Go g) {P : Option Value → sv_V → Prop} {r : Int32} {Vr : sv_V} (hP : P (some (.int r)) Vr)   {l2 : Int32} {V : sv_V} (h : B_X5_passCode_114  l2 V = some (r, Vr)) : sv_N g qX5_passCode 1 114 [(0, .ref 69), (2, .int l2)] [] V P := by
  unfold B_X5_passCode_114 at h
  refine sx_aload_n (pc := 114) dX5_passCode_114 sx_m0 ?_
  refine sx_dup (pc := 115) dX5_passCode_115 rfl ?_
  refine sv_getI (pc := 116) hG dX5_passCode_116 f_5_93 lay_69 rfl ?_
  refine sx_iload_n (pc := 119) dX5_passCode_119 sx_m1 ?_
  refine sx_iadd (pc := 120) dX5_passCode_120 ?_
  obtain ⟨V1, hV1⟩ : ∃ z : sv_V, z = sv_I V 69 11 ((V.1 69 11) + l2) := ⟨_, rfl⟩
  have h := sx_letE hV1 h
  refine sv_putI (pc := 121) hG dX5_passCode_121 f_5_93 lay_69 rfl hV1 ?_
  refine sx_aload_n (pc := 124) dX5_passCode_124 sx_m0 ?_
  refine sv_getI (pc := 125) hG dX5_passCode_125 f_5_93 lay_69 rfl ?_
  refine sx_aload_n (pc := 128) dX5_passCode_128 sx_m0 ?_
  refine sv_getI (pc := 129) hG dX5_passCode_129 f_5_90 lay_69 rfl ?_
  refine sx_icmp_gt (pc := 132) (tgt := 139) dX5_passCode_132 (by decide) (fun c2 => ?_) (fun c2 => ?_)
  · have h := sx_pos c2 h
    refine sx_iconst (pc := 139) (v := 0) dX5_passCode_139 (by decide) ?_
    exact sv_zret (pc := 140) dX5_passCode_140 rfl rfl h hP
  · have h := sx_neg c2 h
    refine sx_iconst (pc := 135) (v := 1) dX5_passCode_135 (by decide) ?_
    refine sx_goto (pc := 136) (tgt := 140) dX5_passCode_136 (by decide) ?_
    exact sv_zret (pc := 140) dX5_passCode_140 rfl rfl h hP
def B_X5_passCode_63  (s0 : Int32) (V : sv_V) : Option (Int32 × sv_V) := B_X5_passCode_114  s0 V
set_option maxRecDepth 20000 in
theorem tB_X5_passCode_63 {g : sx_G} (hG : sx_Go g) {P : Option Value → sv_V → Prop} {r : Int32} {Vr : sv_V} (hP : P (some (.int r)) Vr)   {s0 : Int32} {V : sv_V} (h : B_X5_passCode_63  s0 V = some (r, Vr)) : sv_N g qX5_passCode 1 63 [(0, .ref 69)] [.int s0] V P := by
  unfold B_X5_passCode_63 at h
  refine sx_istore_n (pc := 63) (lo' := [(2, .int s0), (0, .ref 69)]) dX5_passCode_63 (by decide) rfl ?_
  refine sx_goto (pc := 64) (tgt := 114) dX5_passCode_64 (by decide) ?_
  refine sx_wk (sx_s1 sx_m1 (sx_s1 sx_m0 sx_s0)) ?_
  exact tB_X5_passCode_114 hG hP  h
def B_X5_passCode_26  (l1 : Int32) (V : sv_V) : Option (Int32 × sv_V) := if (V.1 69 10) ≤ ((V.1 69 11) + (1 : Int32)) then (B_X5_passCode_63  (2 : Int32) V) else ((F_X2_u1 ((V.1 69 11) + (1 : Int32)) V).bind (fun (x6, V4) => B_X5_passCode_63  ((2 : Int32) + (x6 * (l1 - (63 : Int32)))) V4))
set_option maxRecDepth 20000 in
theorem tB_X5_passCode_26 {g : sx_G} (hG : sx_Go g) {P : Option Value → sv_V → Prop} {r : Int32} {Vr : sv_V} (hP : P (some (.int r)) Vr)   {l1 : Int32} {V : sv_V} (h : B_X5_passCode_26  l1 V = some (r, Vr)) : sv_N g qX5_passCode 1 26 [(0, .ref 69), (1, .int l1)] [] V P := by
  unfold B_X5_passCode_26 at h
  refine sx_aload_n (pc := 26) dX5_passCode_26 sx_m0 ?_
  refine sv_getI (pc := 27) hG dX5_passCode_27 f_5_93 lay_69 rfl ?_
  refine sx_iconst (pc := 30) (v := 1) dX5_passCode_30 (by decide) ?_
  refine sx_iadd (pc := 31) dX5_passCode_31 ?_
  refine sx_aload_n (pc := 32) dX5_passCode_32 sx_m0 ?_
  refine sv_getI (pc := 33) hG dX5_passCode_33 f_5_90 lay_69 rfl ?_
  refine sx_icmp_ge (pc := 36) (tgt := 62) dX5_passCode_36 (by decide) (fun c3 => ?_) (fun c3 => ?_)
  · have h := sx_pos c3 h
    refine sx_iconst (pc := 62) (v := 2) dX5_passCode_62 (by decide) ?_
    refine sx_wk (sx_s1 sx_m0 sx_s0) ?_
    exact tB_X5_passCode_63 hG hP  h
  · have h := sx_neg c3 h
    refine sx_iconst (pc := 39) (v := 2) dX5_passCode_39 (by decide) ?_
    refine sx_aload_n (pc := 40) dX5_passCode_40 sx_m0 ?_
    refine sv_getO (pc := 41) hG dX5_passCode_41 f_5_45 lay_69 rfl cr_69_0 ?_
    refine sx_aload_n (pc := 44) dX5_passCode_44 sx_m0 ?_
    refine sv_getI (pc := 45) hG dX5_passCode_45 f_5_93 lay_69 rfl ?_
    refine sx_iconst (pc := 48) (v := 1) dX5_passCode_48 (by decide) ?_
    refine sx_iadd (pc := 49) dX5_passCode_49 ?_
    obtain ⟨⟨x6, V4⟩, g5, h⟩ := sx_bnd h
    refine sv_cV (pc := 50) (y := qX2_u1) (o := (some (.int x6))) (as := [.int ((V.1 69 11) + (1 : Int32))]) (V1 := V4) hG dX5_passCode_50 l_X5_156 y0X2_u1 yvX2_u1 rfl (Nat.le_of_ble_eq_true rfl) lay_2 kr_2 (by decide) (Nat.le_of_ble_eq_true rfl) rfl rfl rfl (t_X2_u1 hG ⟨rfl, rfl⟩ g5) ?_
    refine sx_iload_n (pc := 53) dX5_passCode_53 sx_m1 ?_
    refine sx_bipush (pc := 54) (v := 63) dX5_passCode_54 (by decide) ?_
    refine sx_isub (pc := 56) dX5_passCode_56 ?_
    refine sx_imul (pc := 57) dX5_passCode_57 ?_
    refine sx_iadd (pc := 58) dX5_passCode_58 ?_
    refine sx_goto (pc := 59) (tgt := 63) dX5_passCode_59 (by decide) ?_
    refine sx_wk (sx_s1 sx_m0 sx_s0) ?_
    exact tB_X5_passCode_63 hG hP  h
def B_X5_passCode_90  (l1 : Int32) (l2 : Int32) (V : sv_V) : Option (Int32 × sv_V) := if l1 < (184 : Int32) then (B_X5_passCode_114  l2 V) else (if (191 : Int32) < l1 then (B_X5_passCode_114  l2 V) else (sx_let ((1 : Int32) + ((2 : Int32) * (l1 - (183 : Int32)))) (fun x9 => B_X5_passCode_114  x9 V)))
set_option maxRecDepth 20000 in
theorem tB_X5_passCode_90 {g : sx_G} (hG : sx_Go g) {P : Option Value → sv_V → Prop} {r : Int32} {Vr : sv_V} (hP : P (some (.int r)) Vr)   {l1 : Int32} {l2 : Int32} {V : sv_V} (h : B_X5_passCode_90  l1 l2 V = some (r, Vr)) : sv_N g qX5_passCode 1 90 [(0, .ref 69), (1, .int l1), (2, .int l2)] [] V P := by
  unfold B_X5_passCode_90 at h
  refine sx_iload_n (pc := 90) dX5_passCode_90 sx_m1 ?_
  refine sx_sipush (pc := 91) (v := 184) dX5_passCode_91 (by decide) ?_
  refine sx_icmp_lt (pc := 94) (tgt := 114) dX5_passCode_94 (by decide) (fun c7 => ?_) (fun c7 => ?_)
  · have h := sx_pos c7 h
    refine sx_wk (sx_s1 sx_m0 (sx_s1 sx_m2 sx_s0)) ?_
    exact tB_X5_passCode_114 hG hP  h
  · have h := sx_neg c7 h
    refine sx_iload_n (pc := 97) dX5_passCode_97 sx_m1 ?_
    refine sx_sipush (pc := 98) (v := 191) dX5_passCode_98 (by decide) ?_
    refine sx_icmp_gt (pc := 101) (tgt := 114) dX5_passCode_101 (by decide) (fun c8 => ?_) (fun c8 => ?_)
    · have h := sx_pos c8 h
      refine sx_wk (sx_s1 sx_m0 (sx_s1 sx_m2 sx_s0)) ?_
      exact tB_X5_passCode_114 hG hP  h
    · have h := sx_neg c8 h
      refine sx_iconst (pc := 104) (v := 1) dX5_passCode_104 (by decide) ?_
      refine sx_iconst (pc := 105) (v := 2) dX5_passCode_105 (by decide) ?_
      refine sx_iload_n (pc := 106) dX5_passCode_106 sx_m1 ?_
      refine sx_sipush (pc := 107) (v := 183) dX5_passCode_107 (by decide) ?_
      refine sx_isub (pc := 110) dX5_passCode_110 ?_
      refine sx_imul (pc := 111) dX5_passCode_111 ?_
      refine sx_iadd (pc := 112) dX5_passCode_112 ?_
      refine sv_tI (fun x9 hx9 => ?_)
      have h := sx_letE hx9 h
      refine sx_istore_n (pc := 113) (lo' := [(2, .int x9), (0, .ref 69), (1, .int l1)]) dX5_passCode_113 (by decide) rfl ?_
      refine sx_wk (sx_s1 sx_m1 (sx_s1 sx_m0 sx_s0)) ?_
      exact tB_X5_passCode_114 hG hP  h
def F_X5_passCode  (V : sv_V) : Option (Int32 × sv_V) := (F_X2_u1 (V.1 69 11) V).bind (fun (x12, V10) => if x12 = (64 : Int32) then (B_X5_passCode_26  x12 V10) else (if x12 = (65 : Int32) then (B_X5_passCode_26  x12 V10) else (if x12 < (176 : Int32) then (B_X5_passCode_90  x12 (1 : Int32) V10) else (if (183 : Int32) < x12 then (B_X5_passCode_90  x12 (1 : Int32) V10) else (sx_let (x12 - (174 : Int32)) (fun x17 => B_X5_passCode_114  x17 V10))))))
set_option maxRecDepth 20000 in
theorem t_X5_passCode {g : sx_G} (hG : sx_Go g) {P : Option Value → sv_V → Prop} {r : Int32} {Vr : sv_V} (hP : P (some (.int r)) Vr)  {V : sv_V} (h : F_X5_passCode  V = some (r, Vr)) : sv_N g qX5_passCode 1 0 [(0, .ref 69)] [] V P := by
  unfold F_X5_passCode at h
  refine sx_aload_n (pc := 0) dX5_passCode_0 sx_m0 ?_
  refine sv_getO (pc := 1) hG dX5_passCode_1 f_5_45 lay_69 rfl cr_69_0 ?_
  refine sx_aload_n (pc := 4) dX5_passCode_4 sx_m0 ?_
  refine sv_getI (pc := 5) hG dX5_passCode_5 f_5_93 lay_69 rfl ?_
  obtain ⟨⟨x12, V10⟩, g11, h⟩ := sx_bnd h
  refine sv_cV (pc := 8) (y := qX2_u1) (o := (some (.int x12))) (as := [.int (V.1 69 11)]) (V1 := V10) hG dX5_passCode_8 l_X5_156 y0X2_u1 yvX2_u1 rfl (Nat.le_of_ble_eq_true rfl) lay_2 kr_2 (by decide) (Nat.le_of_ble_eq_true rfl) rfl rfl rfl (t_X2_u1 hG ⟨rfl, rfl⟩ g11) ?_
  refine sx_istore_n (pc := 11) (lo' := [(1, .int x12), (0, .ref 69)]) dX5_passCode_11 (by decide) rfl ?_
  refine sx_iconst (pc := 12) (v := 1) dX5_passCode_12 (by decide) ?_
  refine sx_istore_n (pc := 13) (lo' := [(2, .int (1 : Int32)), (1, .int x12), (0, .ref 69)]) dX5_passCode_13 (by decide) rfl ?_
  refine sx_iload_n (pc := 14) dX5_passCode_14 sx_m1 ?_
  refine sx_bipush (pc := 15) (v := 64) dX5_passCode_15 (by decide) ?_
  refine sx_icmp_eq (pc := 17) (tgt := 26) dX5_passCode_17 (by decide) (fun c13 => ?_) (fun c13 => ?_)
  · have h := sx_pos c13 h
    refine sx_wk (sx_s1 sx_m2 (sx_s1 sx_m1 sx_s0)) ?_
    exact tB_X5_passCode_26 hG hP  h
  · have h := sx_neg c13 h
    refine sx_iload_n (pc := 20) dX5_passCode_20 sx_m1 ?_
    refine sx_bipush (pc := 21) (v := 65) dX5_passCode_21 (by decide) ?_
    refine sx_icmp_ne (pc := 23) (tgt := 67) dX5_passCode_23 (by decide) (fun c14 => ?_) (fun c14 => ?_)
    · have h := sx_neg c14 h
      refine sx_iload_n (pc := 67) dX5_passCode_67 sx_m1 ?_
      refine sx_sipush (pc := 68) (v := 176) dX5_passCode_68 (by decide) ?_
      refine sx_icmp_lt (pc := 71) (tgt := 90) dX5_passCode_71 (by decide) (fun c15 => ?_) (fun c15 => ?_)
      · have h := sx_pos c15 h
        refine sx_wk (sx_s1 sx_m2 (sx_s1 sx_m1 (sx_s1 sx_m0 sx_s0))) ?_
        exact tB_X5_passCode_90 hG hP  h
      · have h := sx_neg c15 h
        refine sx_iload_n (pc := 74) dX5_passCode_74 sx_m1 ?_
        refine sx_sipush (pc := 75) (v := 183) dX5_passCode_75 (by decide) ?_
        refine sx_icmp_gt (pc := 78) (tgt := 90) dX5_passCode_78 (by decide) (fun c16 => ?_) (fun c16 => ?_)
        · have h := sx_pos c16 h
          refine sx_wk (sx_s1 sx_m2 (sx_s1 sx_m1 (sx_s1 sx_m0 sx_s0))) ?_
          exact tB_X5_passCode_90 hG hP  h
        · have h := sx_neg c16 h
          refine sx_iload_n (pc := 81) dX5_passCode_81 sx_m1 ?_
          refine sx_sipush (pc := 82) (v := 174) dX5_passCode_82 (by decide) ?_
          refine sx_isub (pc := 85) dX5_passCode_85 ?_
          refine sv_tI (fun x17 hx17 => ?_)
          have h := sx_letE hx17 h
          refine sx_istore_n (pc := 86) (lo' := [(2, .int x17), (1, .int x12), (0, .ref 69)]) dX5_passCode_86 (by decide) rfl ?_
          refine sx_goto (pc := 87) (tgt := 114) dX5_passCode_87 (by decide) ?_
          refine sx_wk (sx_s1 sx_m2 (sx_s1 sx_m0 sx_s0)) ?_
          exact tB_X5_passCode_114 hG hP  h
    · have h := sx_pos c14 h
      refine sx_wk (sx_s1 sx_m2 (sx_s1 sx_m1 sx_s0)) ?_
      exact tB_X5_passCode_26 hG hP  h
def ncX5_passBranch : Nat := 77443711285692418768757565001246255086951901470341211792996669194886256091649296430569585240592689049728455531465963248664833733754052186432102841757023230702879625068243402526163304127779991138381756703890797893618341940986092114965802919838039299
theorem kcX5_passBranch : CK cX5_passBranch ncX5_passBranch 103 := ⟨by decide +kernel, by decide +kernel⟩
theorem dX5_passBranch_0 : decode cX5_passBranch 0 = .ok (.iconst 0, 1) := dl_o3 kcX5_passBranch (by decide +kernel)
theorem dX5_passBranch_1 : decode cX5_passBranch 1 = .ok (.istore_n 2, 1) := dl_o61 kcX5_passBranch (by decide +kernel)
theorem dX5_passBranch_2 : decode cX5_passBranch 2 = .ok (.iconst 0, 1) := dl_o3 kcX5_passBranch (by decide +kernel)
theorem dX5_passBranch_3 : decode cX5_passBranch 3 = .ok (.istore_n 3, 1) := dl_o62 kcX5_passBranch (by decide +kernel)
theorem dX5_passBranch_4 : decode cX5_passBranch 4 = .ok (.iload_n 3, 1) := dl_o29 kcX5_passBranch (by decide +kernel)
theorem dX5_passBranch_5 : decode cX5_passBranch 5 = .ok (.sipush 12000, 3) := dl_o17 kcX5_passBranch 12000 (by decide +kernel) (by decide +kernel)
theorem dX5_passBranch_8 : decode cX5_passBranch 8 = .ok (.if_icmp .ge 89, 3) := dl_o162 kcX5_passBranch 89 (by decide +kernel) (by decide +kernel)
theorem dX5_passBranch_11 : decode cX5_passBranch 11 = .ok (.aload_n 0, 1) := dl_o42 kcX5_passBranch (by decide +kernel)
theorem dX5_passBranch_12 : decode cX5_passBranch 12 = .ok (.getfield 93, 3) := dl_o180 kcX5_passBranch (by decide +kernel)
theorem dX5_passBranch_15 : decode cX5_passBranch 15 = .ok (.aload_n 0, 1) := dl_o42 kcX5_passBranch (by decide +kernel)
theorem dX5_passBranch_16 : decode cX5_passBranch 16 = .ok (.getfield 90, 3) := dl_o180 kcX5_passBranch (by decide +kernel)
theorem dX5_passBranch_19 : decode cX5_passBranch 19 = .ok (.if_icmp .ge 78, 3) := dl_o162 kcX5_passBranch 78 (by decide +kernel) (by decide +kernel)
theorem dX5_passBranch_22 : decode cX5_passBranch 22 = .ok (.aload_n 0, 1) := dl_o42 kcX5_passBranch (by decide +kernel)
theorem dX5_passBranch_23 : decode cX5_passBranch 23 = .ok (.getfield 45, 3) := dl_o180 kcX5_passBranch (by decide +kernel)
theorem dX5_passBranch_26 : decode cX5_passBranch 26 = .ok (.aload_n 0, 1) := dl_o42 kcX5_passBranch (by decide +kernel)
theorem dX5_passBranch_27 : decode cX5_passBranch 27 = .ok (.getfield 93, 3) := dl_o180 kcX5_passBranch (by decide +kernel)
theorem dX5_passBranch_30 : decode cX5_passBranch 30 = .ok (.invokevirtual 156, 3) := dl_o182 kcX5_passBranch (by decide +kernel)
theorem dX5_passBranch_33 : decode cX5_passBranch 33 = .ok (.istore 4, 2) := dl_o54 kcX5_passBranch (by decide +kernel)
theorem dX5_passBranch_35 : decode cX5_passBranch 35 = .ok (.aload_n 0, 1) := dl_o42 kcX5_passBranch (by decide +kernel)
theorem dX5_passBranch_36 : decode cX5_passBranch 36 = .ok (.invokevirtual 330, 3) := dl_o182 kcX5_passBranch (by decide +kernel)
theorem dX5_passBranch_39 : decode cX5_passBranch 39 = .ok (.ifCond .ne 6, 3) := dl_o154 kcX5_passBranch 6 (by decide +kernel) (by decide +kernel)
theorem dX5_passBranch_42 : decode cX5_passBranch 42 = .ok (.goto 55, 3) := dl_o167 kcX5_passBranch 55 (by decide +kernel) (by decide +kernel)
theorem dX5_passBranch_45 : decode cX5_passBranch 45 = .ok (.iload_n 2, 1) := dl_o28 kcX5_passBranch (by decide +kernel)
theorem dX5_passBranch_46 : decode cX5_passBranch 46 = .ok (.ifCond .ne 22, 3) := dl_o154 kcX5_passBranch 22 (by decide +kernel) (by decide +kernel)
theorem dX5_passBranch_49 : decode cX5_passBranch 49 = .ok (.iload 4, 2) := dl_o21 kcX5_passBranch (by decide +kernel)
theorem dX5_passBranch_51 : decode cX5_passBranch 51 = .ok (.bipush 89, 2) := dl_o16 kcX5_passBranch 89 (by decide +kernel) (by decide +kernel)
theorem dX5_passBranch_53 : decode cX5_passBranch 53 = .ok (.if_icmp .eq 14, 3) := dl_o159 kcX5_passBranch 14 (by decide +kernel) (by decide +kernel)
theorem dX5_passBranch_56 : decode cX5_passBranch 56 = .ok (.iload_n 1, 1) := dl_o27 kcX5_passBranch (by decide +kernel)
theorem dX5_passBranch_57 : decode cX5_passBranch 57 = .ok (.ifCond .eq 11, 3) := dl_o153 kcX5_passBranch 11 (by decide +kernel) (by decide +kernel)
theorem dX5_passBranch_60 : decode cX5_passBranch 60 = .ok (.iload 4, 2) := dl_o21 kcX5_passBranch (by decide +kernel)
theorem dX5_passBranch_62 : decode cX5_passBranch 62 = .ok (.bipush 27, 2) := dl_o16 kcX5_passBranch 27 (by decide +kernel) (by decide +kernel)
theorem dX5_passBranch_64 : decode cX5_passBranch 64 = .ok (.if_icmp .ne 4, 3) := dl_o160 kcX5_passBranch 4 (by decide +kernel) (by decide +kernel)
theorem dX5_passBranch_67 : decode cX5_passBranch 67 = .ok (.return_, 1) := dl_o177 kcX5_passBranch (by decide +kernel)
theorem dX5_passBranch_68 : decode cX5_passBranch 68 = .ok (.iload 4, 2) := dl_o21 kcX5_passBranch (by decide +kernel)
theorem dX5_passBranch_70 : decode cX5_passBranch 70 = .ok (.bipush 88, 2) := dl_o16 kcX5_passBranch 88 (by decide +kernel) (by decide +kernel)
theorem dX5_passBranch_72 : decode cX5_passBranch 72 = .ok (.if_icmp .ne 9, 3) := dl_o160 kcX5_passBranch 9 (by decide +kernel) (by decide +kernel)
theorem dX5_passBranch_75 : decode cX5_passBranch 75 = .ok (.iinc 2 1, 3) := by decide +kernel
theorem dX5_passBranch_78 : decode cX5_passBranch 78 = .ok (.goto 13, 3) := dl_o167 kcX5_passBranch 13 (by decide +kernel) (by decide +kernel)
theorem dX5_passBranch_81 : decode cX5_passBranch 81 = .ok (.iload 4, 2) := dl_o21 kcX5_passBranch (by decide +kernel)
theorem dX5_passBranch_83 : decode cX5_passBranch 83 = .ok (.bipush 89, 2) := dl_o16 kcX5_passBranch 89 (by decide +kernel) (by decide +kernel)
theorem dX5_passBranch_85 : decode cX5_passBranch 85 = .ok (.if_icmp .ne 6, 3) := dl_o160 kcX5_passBranch 6 (by decide +kernel) (by decide +kernel)
theorem dX5_passBranch_88 : decode cX5_passBranch 88 = .ok (.iinc 2 (-1), 3) := by decide +kernel
theorem dX5_passBranch_91 : decode cX5_passBranch 91 = .ok (.iinc 3 1, 3) := by decide +kernel
theorem dX5_passBranch_94 : decode cX5_passBranch 94 = .ok (.goto (-90), 3) := dl_o167 kcX5_passBranch 65446 (by decide +kernel) (by decide +kernel)
theorem dX5_passBranch_97 : decode cX5_passBranch 97 = .ok (.aload_n 0, 1) := dl_o42 kcX5_passBranch (by decide +kernel)
theorem dX5_passBranch_98 : decode cX5_passBranch 98 = .ok (.iconst 4, 1) := dl_o7 kcX5_passBranch (by decide +kernel)
theorem dX5_passBranch_99 : decode cX5_passBranch 99 = .ok (.putfield 56, 3) := dl_o181 kcX5_passBranch (by decide +kernel)
theorem dX5_passBranch_102 : decode cX5_passBranch 102 = .ok (.return_, 1) := dl_o177 kcX5_passBranch (by decide +kernel)
def B_X5_passBranch_91 (N : Nat) (k4 : Int32 → Int32 → Int32 → sv_V → Option sv_V) (l1 : Int32) (l2 : Int32) (l3 : Int32) (V : sv_V) : Option sv_V := sx_let (l3 + 1) (fun x1 => k4 l1 l2 x1 V)
set_option maxRecDepth 20000 in
theorem tB_X5_passBranch_91 {g : sx_G} (hG : sx_Go g) {P : Option Value → sv_V → Prop} {Vr : sv_V} (hP : P none Vr) {N : Nat} {k4 : Int32 → Int32 → Int32 → sv_V → Option sv_V} (hk4 : ∀ (l1 : Int32) (l2 : Int32) (l3 : Int32) (V : sv_V), k4 l1 l2 l3 V = some Vr → sv_N g qX5_passBranch 2 4 [(0, .ref 69), (1, .int l1), (2, .int l2), (3, .int l3)] [] V P) {l1 : Int32} {l2 : Int32} {l3 : Int32} {V : sv_V} (h : B_X5_passBranch_91 N k4 l1 l2 l3 V = some Vr) : sv_N g qX5_passBranch 2 91 [(0, .ref 69), (1, .int l1), (2, .int l2), (3, .int l3)] [] V P := by
  unfold B_X5_passBranch_91 at h
  obtain ⟨x1, hx1⟩ : ∃ z : Int32, z = l3 + 1 := ⟨_, rfl⟩
  have h := sx_letE hx1 h
  refine sx_iinc (pc := 91) (v := x1) (lo' := [(3, .int x1), (0, .ref 69), (1, .int l1), (2, .int l2)]) dX5_passBranch_91 sx_m3 (by rw [hx1]; rfl) (by decide) rfl ?_
  refine sx_goto (pc := 94) (tgt := 4) dX5_passBranch_94 (by decide) ?_
  refine sx_wk (sx_s1 sx_m1 (sx_s1 sx_m2 (sx_s1 sx_m3 (sx_s1 sx_m0 sx_s0)))) ?_
  exact hk4 _ _ _ _ h
def B_X5_passBranch_68 (N : Nat) (k4 : Int32 → Int32 → Int32 → sv_V → Option sv_V) (l1 : Int32) (l2 : Int32) (l3 : Int32) (l4 : Int32) (V : sv_V) : Option sv_V := if l4 = (88 : Int32) then (sx_let (l2 + 1) (fun x5 => B_X5_passBranch_91 N k4 l1 x5 l3 V)) else (if l4 = (89 : Int32) then (sx_let (l2 + (-1)) (fun x4 => B_X5_passBranch_91 N k4 l1 x4 l3 V)) else (B_X5_passBranch_91 N k4 l1 l2 l3 V))
set_option maxRecDepth 20000 in
theorem tB_X5_passBranch_68 {g : sx_G} (hG : sx_Go g) {P : Option Value → sv_V → Prop} {Vr : sv_V} (hP : P none Vr) {N : Nat} {k4 : Int32 → Int32 → Int32 → sv_V → Option sv_V} (hk4 : ∀ (l1 : Int32) (l2 : Int32) (l3 : Int32) (V : sv_V), k4 l1 l2 l3 V = some Vr → sv_N g qX5_passBranch 2 4 [(0, .ref 69), (1, .int l1), (2, .int l2), (3, .int l3)] [] V P) {l1 : Int32} {l2 : Int32} {l3 : Int32} {l4 : Int32} {V : sv_V} (h : B_X5_passBranch_68 N k4 l1 l2 l3 l4 V = some Vr) : sv_N g qX5_passBranch 2 68 [(0, .ref 69), (1, .int l1), (2, .int l2), (3, .int l3), (4, .int l4)] [] V P := by
  unfold B_X5_passBranch_68 at h
  refine sx_iload (pc := 68) dX5_passBranch_68 sx_m4 ?_
  refine sx_bipush (pc := 70) (v := 88) dX5_passBranch_70 (by decide) ?_
  refine sx_icmp_ne (pc := 72) (tgt := 81) dX5_passBranch_72 (by decide) (fun c2 => ?_) (fun c2 => ?_)
  · have h := sx_neg c2 h
    refine sx_iload (pc := 81) dX5_passBranch_81 sx_m4 ?_
    refine sx_bipush (pc := 83) (v := 89) dX5_passBranch_83 (by decide) ?_
    refine sx_icmp_ne (pc := 85) (tgt := 91) dX5_passBranch_85 (by decide) (fun c3 => ?_) (fun c3 => ?_)
    · have h := sx_neg c3 h
      refine sx_wk (sx_s1 sx_m0 (sx_s1 sx_m1 (sx_s1 sx_m2 (sx_s1 sx_m3 sx_s0)))) ?_
      exact tB_X5_passBranch_91 hG hP hk4 h
    · have h := sx_pos c3 h
      obtain ⟨x4, hx4⟩ : ∃ z : Int32, z = l2 + (-1) := ⟨_, rfl⟩
      have h := sx_letE hx4 h
      refine sx_iinc (pc := 88) (v := x4) (lo' := [(2, .int x4), (0, .ref 69), (1, .int l1), (3, .int l3), (4, .int l4)]) dX5_passBranch_88 sx_m2 (by rw [hx4]; rfl) (by decide) rfl ?_
      refine sx_wk (sx_s1 sx_m1 (sx_s1 sx_m2 (sx_s1 sx_m0 (sx_s1 sx_m3 sx_s0)))) ?_
      exact tB_X5_passBranch_91 hG hP hk4 h
  · have h := sx_pos c2 h
    obtain ⟨x5, hx5⟩ : ∃ z : Int32, z = l2 + 1 := ⟨_, rfl⟩
    have h := sx_letE hx5 h
    refine sx_iinc (pc := 75) (v := x5) (lo' := [(2, .int x5), (0, .ref 69), (1, .int l1), (3, .int l3), (4, .int l4)]) dX5_passBranch_75 sx_m2 (by rw [hx5]; rfl) (by decide) rfl ?_
    refine sx_goto (pc := 78) (tgt := 91) dX5_passBranch_78 (by decide) ?_
    refine sx_wk (sx_s1 sx_m1 (sx_s1 sx_m2 (sx_s1 sx_m0 (sx_s1 sx_m3 sx_s0)))) ?_
    exact tB_X5_passBranch_91 hG hP hk4 h
def B_X5_passBranch_4 (N : Nat) (k4 : Int32 → Int32 → Int32 → sv_V → Option sv_V) (l1 : Int32) (l2 : Int32) (l3 : Int32) (V : sv_V) : Option sv_V := if (12000 : Int32) ≤ l3 then (sx_let (sv_I V 69 14 (4 : Int32)) (fun V7 => some V7)) else (if (V.1 69 10) ≤ (V.1 69 11) then (sx_let (sv_I V 69 14 (4 : Int32)) (fun V9 => some V9)) else ((F_X2_u1 (V.1 69 11) V).bind (fun (x12, V10) => (F_X5_passCode  V10).bind (fun (x15, V13) => if x15 = 0 then (sx_let (sv_I V13 69 14 (4 : Int32)) (fun V21 => some V21)) else (if l2 = 0 then (if x12 = (89 : Int32) then (some V13) else (if l1 = 0 then (B_X5_passBranch_68 N k4 l1 l2 l3 x12 V13) else (if x12 = (27 : Int32) then (some V13) else (B_X5_passBranch_68 N k4 l1 l2 l3 x12 V13)))) else (B_X5_passBranch_68 N k4 l1 l2 l3 x12 V13))))))
set_option maxRecDepth 20000 in
theorem tB_X5_passBranch_4 {g : sx_G} (hG : sx_Go g) {P : Option Value → sv_V → Prop} {Vr : sv_V} (hP : P none Vr) {N : Nat} {k4 : Int32 → Int32 → Int32 → sv_V → Option sv_V} (hk4 : ∀ (l1 : Int32) (l2 : Int32) (l3 : Int32) (V : sv_V), k4 l1 l2 l3 V = some Vr → sv_N g qX5_passBranch 2 4 [(0, .ref 69), (1, .int l1), (2, .int l2), (3, .int l3)] [] V P) {l1 : Int32} {l2 : Int32} {l3 : Int32} {V : sv_V} (h : B_X5_passBranch_4 N k4 l1 l2 l3 V = some Vr) : sv_N g qX5_passBranch 2 4 [(0, .ref 69), (1, .int l1), (2, .int l2), (3, .int l3)] [] V P := by
  unfold B_X5_passBranch_4 at h
  refine sx_iload_n (pc := 4) dX5_passBranch_4 sx_m3 ?_
  refine sx_sipush (pc := 5) (v := 12000) dX5_passBranch_5 (by decide) ?_
  refine sx_icmp_ge (pc := 8) (tgt := 97) dX5_passBranch_8 (by decide) (fun c6 => ?_) (fun c6 => ?_)
  · have h := sx_pos c6 h
    refine sx_aload_n (pc := 97) dX5_passBranch_97 sx_m0 ?_
    refine sx_iconst (pc := 98) (v := 4) dX5_passBranch_98 (by decide) ?_
    obtain ⟨V7, hV7⟩ : ∃ z : sv_V, z = sv_I V 69 14 (4 : Int32) := ⟨_, rfl⟩
    have h := sx_letE hV7 h
    refine sv_putI (pc := 99) hG dX5_passBranch_99 f_5_56 lay_69 rfl hV7 ?_
    exact sv_vret (pc := 102) dX5_passBranch_102 rfl h hP
  · have h := sx_neg c6 h
    refine sx_aload_n (pc := 11) dX5_passBranch_11 sx_m0 ?_
    refine sv_getI (pc := 12) hG dX5_passBranch_12 f_5_93 lay_69 rfl ?_
    refine sx_aload_n (pc := 15) dX5_passBranch_15 sx_m0 ?_
    refine sv_getI (pc := 16) hG dX5_passBranch_16 f_5_90 lay_69 rfl ?_
    refine sx_icmp_ge (pc := 19) (tgt := 97) dX5_passBranch_19 (by decide) (fun c8 => ?_) (fun c8 => ?_)
    · have h := sx_pos c8 h
      refine sx_aload_n (pc := 97) dX5_passBranch_97 sx_m0 ?_
      refine sx_iconst (pc := 98) (v := 4) dX5_passBranch_98 (by decide) ?_
      obtain ⟨V9, hV9⟩ : ∃ z : sv_V, z = sv_I V 69 14 (4 : Int32) := ⟨_, rfl⟩
      have h := sx_letE hV9 h
      refine sv_putI (pc := 99) hG dX5_passBranch_99 f_5_56 lay_69 rfl hV9 ?_
      exact sv_vret (pc := 102) dX5_passBranch_102 rfl h hP
    · have h := sx_neg c8 h
      refine sx_aload_n (pc := 22) dX5_passBranch_22 sx_m0 ?_
      refine sv_getO (pc := 23) hG dX5_passBranch_23 f_5_45 lay_69 rfl cr_69_0 ?_
      refine sx_aload_n (pc := 26) dX5_passBranch_26 sx_m0 ?_
      refine sv_getI (pc := 27) hG dX5_passBranch_27 f_5_93 lay_69 rfl ?_
      obtain ⟨⟨x12, V10⟩, g11, h⟩ := sx_bnd h
      refine sv_cV (pc := 30) (y := qX2_u1) (o := (some (.int x12))) (as := [.int (V.1 69 11)]) (V1 := V10) hG dX5_passBranch_30 l_X5_156 y0X2_u1 yvX2_u1 rfl (Nat.le_of_ble_eq_true rfl) lay_2 kr_2 (by decide) (Nat.le_of_ble_eq_true rfl) rfl rfl rfl (t_X2_u1 hG ⟨rfl, rfl⟩ g11) ?_
      refine sx_istore (pc := 33) (lo' := [(4, .int x12), (0, .ref 69), (1, .int l1), (2, .int l2), (3, .int l3)]) dX5_passBranch_33 (by decide) rfl ?_
      refine sx_aload_n (pc := 35) dX5_passBranch_35 sx_m1 ?_
      obtain ⟨⟨x15, V13⟩, g14, h⟩ := sx_bnd h
      refine sv_cV (pc := 36) (y := qX5_passCode) (o := (some (.int x15))) (as := []) (V1 := V13) hG dX5_passBranch_36 l_X5_330 y0X5_passCode yvX5_passCode rfl (Nat.le_of_ble_eq_true rfl) lay_69 kr_5 (by decide) (Nat.le_of_ble_eq_true rfl) rfl rfl rfl (t_X5_passCode hG ⟨rfl, rfl⟩ g14) ?_
      refine sx_if_ne (pc := 39) (tgt := 45) dX5_passBranch_39 (by decide) (fun c16 => ?_) (fun c16 => ?_)
      · have h := sx_neg c16 h
        refine sx_iload_n (pc := 45) dX5_passBranch_45 sx_m3 ?_
        refine sx_if_ne (pc := 46) (tgt := 68) dX5_passBranch_46 (by decide) (fun c17 => ?_) (fun c17 => ?_)
        · have h := sx_neg c17 h
          refine sx_wk (sx_s1 sx_m1 (sx_s1 sx_m2 (sx_s1 sx_m3 (sx_s1 sx_m4 (sx_s1 sx_m0 sx_s0))))) ?_
          exact tB_X5_passBranch_68 hG hP hk4 h
        · have h := sx_pos c17 h
          refine sx_iload (pc := 49) dX5_passBranch_49 sx_m0 ?_
          refine sx_bipush (pc := 51) (v := 89) dX5_passBranch_51 (by decide) ?_
          refine sx_icmp_eq (pc := 53) (tgt := 67) dX5_passBranch_53 (by decide) (fun c18 => ?_) (fun c18 => ?_)
          · have h := sx_pos c18 h
            exact sv_vret (pc := 67) dX5_passBranch_67 rfl h hP
          · have h := sx_neg c18 h
            refine sx_iload_n (pc := 56) dX5_passBranch_56 sx_m2 ?_
            refine sx_if_eq (pc := 57) (tgt := 68) dX5_passBranch_57 (by decide) (fun c19 => ?_) (fun c19 => ?_)
            · have h := sx_pos c19 h
              refine sx_wk (sx_s1 sx_m1 (sx_s1 sx_m2 (sx_s1 sx_m3 (sx_s1 sx_m4 (sx_s1 sx_m0 sx_s0))))) ?_
              exact tB_X5_passBranch_68 hG hP hk4 h
            · have h := sx_neg c19 h
              refine sx_iload (pc := 60) dX5_passBranch_60 sx_m0 ?_
              refine sx_bipush (pc := 62) (v := 27) dX5_passBranch_62 (by decide) ?_
              refine sx_icmp_ne (pc := 64) (tgt := 68) dX5_passBranch_64 (by decide) (fun c20 => ?_) (fun c20 => ?_)
              · have h := sx_neg c20 h
                refine sx_wk (sx_s1 sx_m1 (sx_s1 sx_m2 (sx_s1 sx_m3 (sx_s1 sx_m4 (sx_s1 sx_m0 sx_s0))))) ?_
                exact tB_X5_passBranch_68 hG hP hk4 h
              · have h := sx_pos c20 h
                exact sv_vret (pc := 67) dX5_passBranch_67 rfl h hP
      · have h := sx_pos c16 h
        refine sx_goto (pc := 42) (tgt := 97) dX5_passBranch_42 (by decide) ?_
        refine sx_aload_n (pc := 97) dX5_passBranch_97 sx_m1 ?_
        refine sx_iconst (pc := 98) (v := 4) dX5_passBranch_98 (by decide) ?_
        obtain ⟨V21, hV21⟩ : ∃ z : sv_V, z = sv_I V13 69 14 (4 : Int32) := ⟨_, rfl⟩
        have h := sx_letE hV21 h
        refine sv_putI (pc := 99) hG dX5_passBranch_99 f_5_56 lay_69 rfl hV21 ?_
        exact sv_vret (pc := 102) dX5_passBranch_102 rfl h hP
theorem tL_X5_passBranch_4 {g : sx_G} (hG : sx_Go g) {P : Option Value → sv_V → Prop} {Vr : sv_V} (hP : P none Vr) {N : Nat}   : ∀ (n : Nat) (l1 : Int32) (l2 : Int32) (l3 : Int32) (V : sv_V), sx_lp4 (B_X5_passBranch_4 N ) n l1 l2 l3 V = some Vr → sv_N g qX5_passBranch 2 4 [(0, .ref 69), (1, .int l1), (2, .int l2), (3, .int l3)] [] V P :=
  sx_lp4_ind (fun k0 ih _ _ _ V h => tB_X5_passBranch_4 hG hP ih h)
def F_X5_passBranch (N : Nat) (l1 : Int32) (V : sv_V) : Option sv_V := sx_lp4 (B_X5_passBranch_4 N ) N l1 (0 : Int32) (0 : Int32) V
set_option maxRecDepth 20000 in
theorem t_X5_passBranch {g : sx_G} (hG : sx_Go g) {P : Option Value → sv_V → Prop} {Vr : sv_V} (hP : P none Vr) {N : Nat} {l1 : Int32} {V : sv_V} (h : F_X5_passBranch N l1 V = some Vr) : sv_N g qX5_passBranch 2 0 [(0, .ref 69), (1, .int l1)] [] V P := by
  unfold F_X5_passBranch at h
  refine sx_iconst (pc := 0) (v := 0) dX5_passBranch_0 (by decide) ?_
  refine sx_istore_n (pc := 1) (lo' := [(2, .int (0 : Int32)), (0, .ref 69), (1, .int l1)]) dX5_passBranch_1 (by decide) rfl ?_
  refine sx_iconst (pc := 2) (v := 0) dX5_passBranch_2 (by decide) ?_
  refine sx_istore_n (pc := 3) (lo' := [(3, .int (0 : Int32)), (2, .int (0 : Int32)), (0, .ref 69), (1, .int l1)]) dX5_passBranch_3 (by decide) rfl ?_
  refine sx_wk (sx_s1 sx_m2 (sx_s1 sx_m3 (sx_s1 sx_m1 (sx_s1 sx_m0 sx_s0)))) ?_
  exact tL_X5_passBranch_4 hG hP  N _ _ _ _ h
def ncX5_passDefinition : Nat := 553232409585320791020118208618654408339692815379735450709718888319425173546813345989951762849415739612826835408520264328848321229675918505174318083
theorem kcX5_passDefinition : CK cX5_passDefinition ncX5_passDefinition 61 := ⟨by decide +kernel, by decide +kernel⟩
theorem dX5_passDefinition_0 : decode cX5_passDefinition 0 = .ok (.iconst 0, 1) := dl_o3 kcX5_passDefinition (by decide +kernel)
theorem dX5_passDefinition_1 : decode cX5_passDefinition 1 = .ok (.istore_n 1, 1) := dl_o60 kcX5_passDefinition (by decide +kernel)
theorem dX5_passDefinition_2 : decode cX5_passDefinition 2 = .ok (.iload_n 1, 1) := dl_o27 kcX5_passDefinition (by decide +kernel)
theorem dX5_passDefinition_3 : decode cX5_passDefinition 3 = .ok (.sipush 12000, 3) := dl_o17 kcX5_passDefinition 12000 (by decide +kernel) (by decide +kernel)
theorem dX5_passDefinition_6 : decode cX5_passDefinition 6 = .ok (.if_icmp .ge 49, 3) := dl_o162 kcX5_passDefinition 49 (by decide +kernel) (by decide +kernel)
theorem dX5_passDefinition_9 : decode cX5_passDefinition 9 = .ok (.aload_n 0, 1) := dl_o42 kcX5_passDefinition (by decide +kernel)
theorem dX5_passDefinition_10 : decode cX5_passDefinition 10 = .ok (.getfield 93, 3) := dl_o180 kcX5_passDefinition (by decide +kernel)
theorem dX5_passDefinition_13 : decode cX5_passDefinition 13 = .ok (.aload_n 0, 1) := dl_o42 kcX5_passDefinition (by decide +kernel)
theorem dX5_passDefinition_14 : decode cX5_passDefinition 14 = .ok (.getfield 90, 3) := dl_o180 kcX5_passDefinition (by decide +kernel)
theorem dX5_passDefinition_17 : decode cX5_passDefinition 17 = .ok (.if_icmp .ge 38, 3) := dl_o162 kcX5_passDefinition 38 (by decide +kernel) (by decide +kernel)
theorem dX5_passDefinition_20 : decode cX5_passDefinition 20 = .ok (.aload_n 0, 1) := dl_o42 kcX5_passDefinition (by decide +kernel)
theorem dX5_passDefinition_21 : decode cX5_passDefinition 21 = .ok (.getfield 45, 3) := dl_o180 kcX5_passDefinition (by decide +kernel)
theorem dX5_passDefinition_24 : decode cX5_passDefinition 24 = .ok (.aload_n 0, 1) := dl_o42 kcX5_passDefinition (by decide +kernel)
theorem dX5_passDefinition_25 : decode cX5_passDefinition 25 = .ok (.getfield 93, 3) := dl_o180 kcX5_passDefinition (by decide +kernel)
theorem dX5_passDefinition_28 : decode cX5_passDefinition 28 = .ok (.invokevirtual 156, 3) := dl_o182 kcX5_passDefinition (by decide +kernel)
theorem dX5_passDefinition_31 : decode cX5_passDefinition 31 = .ok (.istore_n 2, 1) := dl_o61 kcX5_passDefinition (by decide +kernel)
theorem dX5_passDefinition_32 : decode cX5_passDefinition 32 = .ok (.aload_n 0, 1) := dl_o42 kcX5_passDefinition (by decide +kernel)
theorem dX5_passDefinition_33 : decode cX5_passDefinition 33 = .ok (.invokevirtual 330, 3) := dl_o182 kcX5_passDefinition (by decide +kernel)
theorem dX5_passDefinition_36 : decode cX5_passDefinition 36 = .ok (.ifCond .ne 6, 3) := dl_o154 kcX5_passDefinition 6 (by decide +kernel) (by decide +kernel)
theorem dX5_passDefinition_39 : decode cX5_passDefinition 39 = .ok (.goto 16, 3) := dl_o167 kcX5_passDefinition 16 (by decide +kernel) (by decide +kernel)
theorem dX5_passDefinition_42 : decode cX5_passDefinition 42 = .ok (.iload_n 2, 1) := dl_o28 kcX5_passDefinition (by decide +kernel)
theorem dX5_passDefinition_43 : decode cX5_passDefinition 43 = .ok (.bipush 45, 2) := dl_o16 kcX5_passDefinition 45 (by decide +kernel) (by decide +kernel)
theorem dX5_passDefinition_45 : decode cX5_passDefinition 45 = .ok (.if_icmp .ne 4, 3) := dl_o160 kcX5_passDefinition 4 (by decide +kernel) (by decide +kernel)
theorem dX5_passDefinition_48 : decode cX5_passDefinition 48 = .ok (.return_, 1) := dl_o177 kcX5_passDefinition (by decide +kernel)
theorem dX5_passDefinition_49 : decode cX5_passDefinition 49 = .ok (.iinc 1 1, 3) := by decide +kernel
theorem dX5_passDefinition_52 : decode cX5_passDefinition 52 = .ok (.goto (-50), 3) := dl_o167 kcX5_passDefinition 65486 (by decide +kernel) (by decide +kernel)
theorem dX5_passDefinition_55 : decode cX5_passDefinition 55 = .ok (.aload_n 0, 1) := dl_o42 kcX5_passDefinition (by decide +kernel)
theorem dX5_passDefinition_56 : decode cX5_passDefinition 56 = .ok (.iconst 4, 1) := dl_o7 kcX5_passDefinition (by decide +kernel)
theorem dX5_passDefinition_57 : decode cX5_passDefinition 57 = .ok (.putfield 56, 3) := dl_o181 kcX5_passDefinition (by decide +kernel)
theorem dX5_passDefinition_60 : decode cX5_passDefinition 60 = .ok (.return_, 1) := dl_o177 kcX5_passDefinition (by decide +kernel)
def B_X5_passDefinition_2 (N : Nat) (k2 : Int32 → sv_V → Option sv_V) (l1 : Int32) (V : sv_V) : Option sv_V := if (12000 : Int32) ≤ l1 then (sx_let (sv_I V 69 14 (4 : Int32)) (fun V2 => some V2)) else (if (V.1 69 10) ≤ (V.1 69 11) then (sx_let (sv_I V 69 14 (4 : Int32)) (fun V4 => some V4)) else ((F_X2_u1 (V.1 69 11) V).bind (fun (x7, V5) => (F_X5_passCode  V5).bind (fun (x10, V8) => if x10 = 0 then (sx_let (sv_I V8 69 14 (4 : Int32)) (fun V14 => some V14)) else (if x7 = (45 : Int32) then (some V8) else (sx_let (l1 + 1) (fun x13 => k2 x13 V8)))))))
set_option maxRecDepth 20000 in
theorem tB_X5_passDefinition_2 {g : sx_G} (hG : sx_Go g) {P : Option Value → sv_V → Prop} {Vr : sv_V} (hP : P none Vr) {N : Nat} {k2 : Int32 → sv_V → Option sv_V} (hk2 : ∀ (l1 : Int32) (V : sv_V), k2 l1 V = some Vr → sv_N g qX5_passDefinition 2 2 [(0, .ref 69), (1, .int l1)] [] V P) {l1 : Int32} {V : sv_V} (h : B_X5_passDefinition_2 N k2 l1 V = some Vr) : sv_N g qX5_passDefinition 2 2 [(0, .ref 69), (1, .int l1)] [] V P := by
  unfold B_X5_passDefinition_2 at h
  refine sx_iload_n (pc := 2) dX5_passDefinition_2 sx_m1 ?_
  refine sx_sipush (pc := 3) (v := 12000) dX5_passDefinition_3 (by decide) ?_
  refine sx_icmp_ge (pc := 6) (tgt := 55) dX5_passDefinition_6 (by decide) (fun c1 => ?_) (fun c1 => ?_)
  · have h := sx_pos c1 h
    refine sx_aload_n (pc := 55) dX5_passDefinition_55 sx_m0 ?_
    refine sx_iconst (pc := 56) (v := 4) dX5_passDefinition_56 (by decide) ?_
    obtain ⟨V2, hV2⟩ : ∃ z : sv_V, z = sv_I V 69 14 (4 : Int32) := ⟨_, rfl⟩
    have h := sx_letE hV2 h
    refine sv_putI (pc := 57) hG dX5_passDefinition_57 f_5_56 lay_69 rfl hV2 ?_
    exact sv_vret (pc := 60) dX5_passDefinition_60 rfl h hP
  · have h := sx_neg c1 h
    refine sx_aload_n (pc := 9) dX5_passDefinition_9 sx_m0 ?_
    refine sv_getI (pc := 10) hG dX5_passDefinition_10 f_5_93 lay_69 rfl ?_
    refine sx_aload_n (pc := 13) dX5_passDefinition_13 sx_m0 ?_
    refine sv_getI (pc := 14) hG dX5_passDefinition_14 f_5_90 lay_69 rfl ?_
    refine sx_icmp_ge (pc := 17) (tgt := 55) dX5_passDefinition_17 (by decide) (fun c3 => ?_) (fun c3 => ?_)
    · have h := sx_pos c3 h
      refine sx_aload_n (pc := 55) dX5_passDefinition_55 sx_m0 ?_
      refine sx_iconst (pc := 56) (v := 4) dX5_passDefinition_56 (by decide) ?_
      obtain ⟨V4, hV4⟩ : ∃ z : sv_V, z = sv_I V 69 14 (4 : Int32) := ⟨_, rfl⟩
      have h := sx_letE hV4 h
      refine sv_putI (pc := 57) hG dX5_passDefinition_57 f_5_56 lay_69 rfl hV4 ?_
      exact sv_vret (pc := 60) dX5_passDefinition_60 rfl h hP
    · have h := sx_neg c3 h
      refine sx_aload_n (pc := 20) dX5_passDefinition_20 sx_m0 ?_
      refine sv_getO (pc := 21) hG dX5_passDefinition_21 f_5_45 lay_69 rfl cr_69_0 ?_
      refine sx_aload_n (pc := 24) dX5_passDefinition_24 sx_m0 ?_
      refine sv_getI (pc := 25) hG dX5_passDefinition_25 f_5_93 lay_69 rfl ?_
      obtain ⟨⟨x7, V5⟩, g6, h⟩ := sx_bnd h
      refine sv_cV (pc := 28) (y := qX2_u1) (o := (some (.int x7))) (as := [.int (V.1 69 11)]) (V1 := V5) hG dX5_passDefinition_28 l_X5_156 y0X2_u1 yvX2_u1 rfl (Nat.le_of_ble_eq_true rfl) lay_2 kr_2 (by decide) (Nat.le_of_ble_eq_true rfl) rfl rfl rfl (t_X2_u1 hG ⟨rfl, rfl⟩ g6) ?_
      refine sx_istore_n (pc := 31) (lo' := [(2, .int x7), (0, .ref 69), (1, .int l1)]) dX5_passDefinition_31 (by decide) rfl ?_
      refine sx_aload_n (pc := 32) dX5_passDefinition_32 sx_m1 ?_
      obtain ⟨⟨x10, V8⟩, g9, h⟩ := sx_bnd h
      refine sv_cV (pc := 33) (y := qX5_passCode) (o := (some (.int x10))) (as := []) (V1 := V8) hG dX5_passDefinition_33 l_X5_330 y0X5_passCode yvX5_passCode rfl (Nat.le_of_ble_eq_true rfl) lay_69 kr_5 (by decide) (Nat.le_of_ble_eq_true rfl) rfl rfl rfl (t_X5_passCode hG ⟨rfl, rfl⟩ g9) ?_
      refine sx_if_ne (pc := 36) (tgt := 42) dX5_passDefinition_36 (by decide) (fun c11 => ?_) (fun c11 => ?_)
      · have h := sx_neg c11 h
        refine sx_iload_n (pc := 42) dX5_passDefinition_42 sx_m0 ?_
        refine sx_bipush (pc := 43) (v := 45) dX5_passDefinition_43 (by decide) ?_
        refine sx_icmp_ne (pc := 45) (tgt := 49) dX5_passDefinition_45 (by decide) (fun c12 => ?_) (fun c12 => ?_)
        · have h := sx_neg c12 h
          obtain ⟨x13, hx13⟩ : ∃ z : Int32, z = l1 + 1 := ⟨_, rfl⟩
          have h := sx_letE hx13 h
          refine sx_iinc (pc := 49) (v := x13) (lo' := [(1, .int x13), (2, .int x7), (0, .ref 69)]) dX5_passDefinition_49 sx_m2 (by rw [hx13]; rfl) (by decide) rfl ?_
          refine sx_goto (pc := 52) (tgt := 2) dX5_passDefinition_52 (by decide) ?_
          refine sx_wk (sx_s1 sx_m2 (sx_s1 sx_m0 sx_s0)) ?_
          exact hk2 _ _ h
        · have h := sx_pos c12 h
          exact sv_vret (pc := 48) dX5_passDefinition_48 rfl h hP
      · have h := sx_pos c11 h
        refine sx_goto (pc := 39) (tgt := 55) dX5_passDefinition_39 (by decide) ?_
        refine sx_aload_n (pc := 55) dX5_passDefinition_55 sx_m1 ?_
        refine sx_iconst (pc := 56) (v := 4) dX5_passDefinition_56 (by decide) ?_
        obtain ⟨V14, hV14⟩ : ∃ z : sv_V, z = sv_I V8 69 14 (4 : Int32) := ⟨_, rfl⟩
        have h := sx_letE hV14 h
        refine sv_putI (pc := 57) hG dX5_passDefinition_57 f_5_56 lay_69 rfl hV14 ?_
        exact sv_vret (pc := 60) dX5_passDefinition_60 rfl h hP
theorem tL_X5_passDefinition_2 {g : sx_G} (hG : sx_Go g) {P : Option Value → sv_V → Prop} {Vr : sv_V} (hP : P none Vr) {N : Nat}   : ∀ (n : Nat) (l1 : Int32) (V : sv_V), sx_lp2 (B_X5_passDefinition_2 N ) n l1 V = some Vr → sv_N g qX5_passDefinition 2 2 [(0, .ref 69), (1, .int l1)] [] V P :=
  sx_lp2_ind (fun k0 ih _ V h => tB_X5_passDefinition_2 hG hP ih h)
def F_X5_passDefinition (N : Nat)  (V : sv_V) : Option sv_V := sx_lp2 (B_X5_passDefinition_2 N ) N (0 : Int32) V
set_option maxRecDepth 20000 in
theorem t_X5_passDefinition {g : sx_G} (hG : sx_Go g) {P : Option Value → sv_V → Prop} {Vr : sv_V} (hP : P none Vr) {N : Nat}  {V : sv_V} (h : F_X5_passDefinition N  V = some Vr) : sv_N g qX5_passDefinition 2 0 [(0, .ref 69)] [] V P := by
  unfold F_X5_passDefinition at h
  refine sx_iconst (pc := 0) (v := 0) dX5_passDefinition_0 (by decide) ?_
  refine sx_istore_n (pc := 1) (lo' := [(1, .int (0 : Int32)), (0, .ref 69)]) dX5_passDefinition_1 (by decide) rfl ?_
  refine sx_wk (sx_s1 sx_m1 (sx_s1 sx_m0 sx_s0)) ?_
  exact tL_X5_passDefinition_2 hG hP  N _ _ h
def ncX5_isDefining : Nat := 16475455347296899964481615069246793888809983214067168298
theorem kcX5_isDefining : CK cX5_isDefining ncX5_isDefining 23 := ⟨by decide +kernel, by decide +kernel⟩
theorem dX5_isDefining_0 : decode cX5_isDefining 0 = .ok (.aload_n 0, 1) := dl_o42 kcX5_isDefining (by decide +kernel)
theorem dX5_isDefining_1 : decode cX5_isDefining 1 = .ok (.getfield 83, 3) := dl_o180 kcX5_isDefining (by decide +kernel)
theorem dX5_isDefining_4 : decode cX5_isDefining 4 = .ok (.ifCond .eq 17, 3) := dl_o153 kcX5_isDefining 17 (by decide +kernel) (by decide +kernel)
theorem dX5_isDefining_7 : decode cX5_isDefining 7 = .ok (.aload_n 0, 1) := dl_o42 kcX5_isDefining (by decide +kernel)
theorem dX5_isDefining_8 : decode cX5_isDefining 8 = .ok (.getfield 21, 3) := dl_o180 kcX5_isDefining (by decide +kernel)
theorem dX5_isDefining_11 : decode cX5_isDefining 11 = .ok (.getfield 99, 3) := dl_o180 kcX5_isDefining (by decide +kernel)
theorem dX5_isDefining_14 : decode cX5_isDefining 14 = .ok (.ifCond .ne 7, 3) := dl_o154 kcX5_isDefining 7 (by decide +kernel) (by decide +kernel)
theorem dX5_isDefining_17 : decode cX5_isDefining 17 = .ok (.iconst 1, 1) := dl_o4 kcX5_isDefining (by decide +kernel)
theorem dX5_isDefining_18 : decode cX5_isDefining 18 = .ok (.goto 4, 3) := dl_o167 kcX5_isDefining 4 (by decide +kernel) (by decide +kernel)
theorem dX5_isDefining_21 : decode cX5_isDefining 21 = .ok (.iconst 0, 1) := dl_o3 kcX5_isDefining (by decide +kernel)
theorem dX5_isDefining_22 : decode cX5_isDefining 22 = .ok (.ireturn, 1) := dl_o172 kcX5_isDefining (by decide +kernel)
def F_X5_isDefining  (V : sv_V) : Option (Int32 × sv_V) := if (V.1 69 8) = 0 then (some ((0 : Int32), V)) else (if (V.1 73 9) = 0 then (some ((1 : Int32), V)) else (some ((0 : Int32), V)))
set_option maxRecDepth 20000 in
theorem t_X5_isDefining {g : sx_G} (hG : sx_Go g) {P : Option Value → sv_V → Prop} {r : Int32} {Vr : sv_V} (hP : P (some (.int r)) Vr)  {V : sv_V} (h : F_X5_isDefining  V = some (r, Vr)) : sv_N g qX5_isDefining 0 0 [(0, .ref 69)] [] V P := by
  unfold F_X5_isDefining at h
  refine sx_aload_n (pc := 0) dX5_isDefining_0 sx_m0 ?_
  refine sv_getZ (pc := 1) hG dX5_isDefining_1 f_5_83 lay_69 rfl ?_
  refine sx_if_eq (pc := 4) (tgt := 21) dX5_isDefining_4 (by decide) (fun c1 => ?_) (fun c1 => ?_)
  · have h := sx_pos c1 h
    refine sx_iconst (pc := 21) (v := 0) dX5_isDefining_21 (by decide) ?_
    exact sv_zret (pc := 22) dX5_isDefining_22 rfl rfl h hP
  · have h := sx_neg c1 h
    refine sx_aload_n (pc := 7) dX5_isDefining_7 sx_m0 ?_
    refine sv_getO (pc := 8) hG dX5_isDefining_8 f_5_21 lay_69 rfl cr_69_2 ?_
    refine sv_getI (pc := 11) hG dX5_isDefining_11 f_5_99 lay_73 rfl ?_
    refine sx_if_ne (pc := 14) (tgt := 21) dX5_isDefining_14 (by decide) (fun c2 => ?_) (fun c2 => ?_)
    · have h := sx_neg c2 h
      refine sx_iconst (pc := 21) (v := 0) dX5_isDefining_21 (by decide) ?_
      exact sv_zret (pc := 22) dX5_isDefining_22 rfl rfl h hP
    · have h := sx_pos c2 h
      refine sx_iconst (pc := 17) (v := 1) dX5_isDefining_17 (by decide) ?_
      refine sx_goto (pc := 18) (tgt := 22) dX5_isDefining_18 (by decide) ?_
      exact sv_zret (pc := 22) dX5_isDefining_22 rfl rfl h hP
def ncX5_noteRoutine : Nat := 1479421440650390902456846609050993897056732848104588660693315675739563884749390171011234492625962
theorem kcX5_noteRoutine : CK cX5_noteRoutine ncX5_noteRoutine 40 := ⟨by decide +kernel, by decide +kernel⟩
theorem dX5_noteRoutine_0 : decode cX5_noteRoutine 0 = .ok (.aload_n 0, 1) := dl_o42 kcX5_noteRoutine (by decide +kernel)
theorem dX5_noteRoutine_1 : decode cX5_noteRoutine 1 = .ok (.getfield 21, 3) := dl_o180 kcX5_noteRoutine (by decide +kernel)
theorem dX5_noteRoutine_4 : decode cX5_noteRoutine 4 = .ok (.getfield 346, 3) := dl_o180 kcX5_noteRoutine (by decide +kernel)
theorem dX5_noteRoutine_7 : decode cX5_noteRoutine 7 = .ok (.iload_n 1, 1) := dl_o27 kcX5_noteRoutine (by decide +kernel)
theorem dX5_noteRoutine_8 : decode cX5_noteRoutine 8 = .ok (.aload_n 0, 1) := dl_o42 kcX5_noteRoutine (by decide +kernel)
theorem dX5_noteRoutine_9 : decode cX5_noteRoutine 9 = .ok (.getfield 87, 3) := dl_o180 kcX5_noteRoutine (by decide +kernel)
theorem dX5_noteRoutine_12 : decode cX5_noteRoutine 12 = .ok (.iastore, 1) := dl_o79 kcX5_noteRoutine (by decide +kernel)
theorem dX5_noteRoutine_13 : decode cX5_noteRoutine 13 = .ok (.aload_n 0, 1) := dl_o42 kcX5_noteRoutine (by decide +kernel)
theorem dX5_noteRoutine_14 : decode cX5_noteRoutine 14 = .ok (.getfield 21, 3) := dl_o180 kcX5_noteRoutine (by decide +kernel)
theorem dX5_noteRoutine_17 : decode cX5_noteRoutine 17 = .ok (.getfield 349, 3) := dl_o180 kcX5_noteRoutine (by decide +kernel)
theorem dX5_noteRoutine_20 : decode cX5_noteRoutine 20 = .ok (.iload_n 1, 1) := dl_o27 kcX5_noteRoutine (by decide +kernel)
theorem dX5_noteRoutine_21 : decode cX5_noteRoutine 21 = .ok (.aload_n 0, 1) := dl_o42 kcX5_noteRoutine (by decide +kernel)
theorem dX5_noteRoutine_22 : decode cX5_noteRoutine 22 = .ok (.getfield 90, 3) := dl_o180 kcX5_noteRoutine (by decide +kernel)
theorem dX5_noteRoutine_25 : decode cX5_noteRoutine 25 = .ok (.iastore, 1) := dl_o79 kcX5_noteRoutine (by decide +kernel)
theorem dX5_noteRoutine_26 : decode cX5_noteRoutine 26 = .ok (.aload_n 0, 1) := dl_o42 kcX5_noteRoutine (by decide +kernel)
theorem dX5_noteRoutine_27 : decode cX5_noteRoutine 27 = .ok (.getfield 21, 3) := dl_o180 kcX5_noteRoutine (by decide +kernel)
theorem dX5_noteRoutine_30 : decode cX5_noteRoutine 30 = .ok (.getfield 352, 3) := dl_o180 kcX5_noteRoutine (by decide +kernel)
theorem dX5_noteRoutine_33 : decode cX5_noteRoutine 33 = .ok (.iload_n 1, 1) := dl_o27 kcX5_noteRoutine (by decide +kernel)
theorem dX5_noteRoutine_34 : decode cX5_noteRoutine 34 = .ok (.aload_n 0, 1) := dl_o42 kcX5_noteRoutine (by decide +kernel)
theorem dX5_noteRoutine_35 : decode cX5_noteRoutine 35 = .ok (.getfield 93, 3) := dl_o180 kcX5_noteRoutine (by decide +kernel)
theorem dX5_noteRoutine_38 : decode cX5_noteRoutine 38 = .ok (.iastore, 1) := dl_o79 kcX5_noteRoutine (by decide +kernel)
theorem dX5_noteRoutine_39 : decode cX5_noteRoutine 39 = .ok (.return_, 1) := dl_o177 kcX5_noteRoutine (by decide +kernel)
def F_X5_noteRoutine (l1 : Int32) (V : sv_V) : Option sv_V := if sx_in l1 320 = true then sx_let (sv_I V 74 l1.toNatClampNeg (V.1 69 9)) (fun V2 => if sx_in l1 320 = true then sx_let (sv_I V2 75 l1.toNatClampNeg (V2.1 69 10)) (fun V4 => if sx_in l1 320 = true then sx_let (sv_I V4 76 l1.toNatClampNeg (V4.1 69 11)) (fun V6 => some V6) else none) else none) else none
set_option maxRecDepth 20000 in
theorem t_X5_noteRoutine {g : sx_G} (hG : sx_Go g) {P : Option Value → sv_V → Prop} {Vr : sv_V} (hP : P none Vr) {l1 : Int32} {V : sv_V} (h : F_X5_noteRoutine l1 V = some Vr) : sv_N g qX5_noteRoutine 0 0 [(0, .ref 69), (1, .int l1)] [] V P := by
  unfold F_X5_noteRoutine at h
  refine sx_aload_n (pc := 0) dX5_noteRoutine_0 sx_m0 ?_
  refine sv_getO (pc := 1) hG dX5_noteRoutine_1 f_5_21 lay_69 rfl cr_69_2 ?_
  refine sv_getA (pc := 4) hG dX5_noteRoutine_4 f_5_346 lay_73 rfl cr_73_0 ?_
  refine sx_iload_n (pc := 7) dX5_noteRoutine_7 sx_m1 ?_
  refine sx_aload_n (pc := 8) dX5_noteRoutine_8 sx_m0 ?_
  refine sv_getI (pc := 9) hG dX5_noteRoutine_9 f_5_87 lay_69 rfl ?_
  obtain ⟨g1, h⟩ := sx_grd h
  obtain ⟨V2, hV2⟩ : ∃ z : sv_V, z = sv_I V 74 l1.toNatClampNeg (V.1 69 9) := ⟨_, rfl⟩
  have h := sx_letE hV2 h
  refine sv_iast (pc := 12) hG dX5_noteRoutine_12 lay_74 g1 hV2 ?_
  refine sx_aload_n (pc := 13) dX5_noteRoutine_13 sx_m0 ?_
  refine sv_getO (pc := 14) hG dX5_noteRoutine_14 f_5_21 lay_69 rfl cr_69_2 ?_
  refine sv_getA (pc := 17) hG dX5_noteRoutine_17 f_5_349 lay_73 rfl cr_73_1 ?_
  refine sx_iload_n (pc := 20) dX5_noteRoutine_20 sx_m1 ?_
  refine sx_aload_n (pc := 21) dX5_noteRoutine_21 sx_m0 ?_
  refine sv_getI (pc := 22) hG dX5_noteRoutine_22 f_5_90 lay_69 rfl ?_
  obtain ⟨g3, h⟩ := sx_grd h
  obtain ⟨V4, hV4⟩ : ∃ z : sv_V, z = sv_I V2 75 l1.toNatClampNeg (V2.1 69 10) := ⟨_, rfl⟩
  have h := sx_letE hV4 h
  refine sv_iast (pc := 25) hG dX5_noteRoutine_25 lay_75 g3 hV4 ?_
  refine sx_aload_n (pc := 26) dX5_noteRoutine_26 sx_m0 ?_
  refine sv_getO (pc := 27) hG dX5_noteRoutine_27 f_5_21 lay_69 rfl cr_69_2 ?_
  refine sv_getA (pc := 30) hG dX5_noteRoutine_30 f_5_352 lay_73 rfl cr_73_2 ?_
  refine sx_iload_n (pc := 33) dX5_noteRoutine_33 sx_m1 ?_
  refine sx_aload_n (pc := 34) dX5_noteRoutine_34 sx_m0 ?_
  refine sv_getI (pc := 35) hG dX5_noteRoutine_35 f_5_93 lay_69 rfl ?_
  obtain ⟨g5, h⟩ := sx_grd h
  obtain ⟨V6, hV6⟩ : ∃ z : sv_V, z = sv_I V4 76 l1.toNatClampNeg (V4.1 69 11) := ⟨_, rfl⟩
  have h := sx_letE hV6 h
  refine sv_iast (pc := 38) hG dX5_noteRoutine_38 lay_76 g5 hV6 ?_
  exact sv_vret (pc := 39) dX5_noteRoutine_39 rfl h hP
def ncX5_enter : Nat := 8162426175830613367928361514560303572627026573265125460936887617775251671941756397544226079560614031673852434884329034828850400758672132673506601769792758061926832533485989142070283122393571078675706144346524642989625495380578979583481539685210380435640098741435324561647647660937333858768480916273485701468697642
theorem kcX5_enter : CK cX5_enter ncX5_enter 130 := ⟨by decide +kernel, by decide +kernel⟩
theorem dX5_enter_0 : decode cX5_enter 0 = .ok (.aload_n 0, 1) := dl_o42 kcX5_enter (by decide +kernel)
theorem dX5_enter_1 : decode cX5_enter 1 = .ok (.getfield 21, 3) := dl_o180 kcX5_enter (by decide +kernel)
theorem dX5_enter_4 : decode cX5_enter 4 = .ok (.getfield 99, 3) := dl_o180 kcX5_enter (by decide +kernel)
theorem dX5_enter_7 : decode cX5_enter 7 = .ok (.istore_n 3, 1) := dl_o62 kcX5_enter (by decide +kernel)
theorem dX5_enter_8 : decode cX5_enter 8 = .ok (.iload_n 3, 1) := dl_o29 kcX5_enter (by decide +kernel)
theorem dX5_enter_9 : decode cX5_enter 9 = .ok (.bipush 32, 2) := dl_o16 kcX5_enter 32 (by decide +kernel) (by decide +kernel)
theorem dX5_enter_11 : decode cX5_enter 11 = .ok (.if_icmp .lt 10, 3) := dl_o161 kcX5_enter 10 (by decide +kernel) (by decide +kernel)
theorem dX5_enter_14 : decode cX5_enter 14 = .ok (.aload_n 0, 1) := dl_o42 kcX5_enter (by decide +kernel)
theorem dX5_enter_15 : decode cX5_enter 15 = .ok (.bipush 9, 2) := dl_o16 kcX5_enter 9 (by decide +kernel) (by decide +kernel)
theorem dX5_enter_17 : decode cX5_enter 17 = .ok (.putfield 56, 3) := dl_o181 kcX5_enter (by decide +kernel)
theorem dX5_enter_20 : decode cX5_enter 20 = .ok (.return_, 1) := dl_o177 kcX5_enter (by decide +kernel)
theorem dX5_enter_21 : decode cX5_enter 21 = .ok (.aload_n 0, 1) := dl_o42 kcX5_enter (by decide +kernel)
theorem dX5_enter_22 : decode cX5_enter 22 = .ok (.getfield 21, 3) := dl_o180 kcX5_enter (by decide +kernel)
theorem dX5_enter_25 : decode cX5_enter 25 = .ok (.getfield 361, 3) := dl_o180 kcX5_enter (by decide +kernel)
theorem dX5_enter_28 : decode cX5_enter 28 = .ok (.iload_n 3, 1) := dl_o29 kcX5_enter (by decide +kernel)
theorem dX5_enter_29 : decode cX5_enter 29 = .ok (.iload_n 1, 1) := dl_o27 kcX5_enter (by decide +kernel)
theorem dX5_enter_30 : decode cX5_enter 30 = .ok (.iastore, 1) := dl_o79 kcX5_enter (by decide +kernel)
theorem dX5_enter_31 : decode cX5_enter 31 = .ok (.aload_n 0, 1) := dl_o42 kcX5_enter (by decide +kernel)
theorem dX5_enter_32 : decode cX5_enter 32 = .ok (.getfield 21, 3) := dl_o180 kcX5_enter (by decide +kernel)
theorem dX5_enter_35 : decode cX5_enter 35 = .ok (.getfield 364, 3) := dl_o180 kcX5_enter (by decide +kernel)
theorem dX5_enter_38 : decode cX5_enter 38 = .ok (.iload_n 3, 1) := dl_o29 kcX5_enter (by decide +kernel)
theorem dX5_enter_39 : decode cX5_enter 39 = .ok (.iload_n 2, 1) := dl_o28 kcX5_enter (by decide +kernel)
theorem dX5_enter_40 : decode cX5_enter 40 = .ok (.iastore, 1) := dl_o79 kcX5_enter (by decide +kernel)
theorem dX5_enter_41 : decode cX5_enter 41 = .ok (.aload_n 0, 1) := dl_o42 kcX5_enter (by decide +kernel)
theorem dX5_enter_42 : decode cX5_enter 42 = .ok (.getfield 21, 3) := dl_o180 kcX5_enter (by decide +kernel)
theorem dX5_enter_45 : decode cX5_enter 45 = .ok (.getfield 367, 3) := dl_o180 kcX5_enter (by decide +kernel)
theorem dX5_enter_48 : decode cX5_enter 48 = .ok (.iload_n 3, 1) := dl_o29 kcX5_enter (by decide +kernel)
theorem dX5_enter_49 : decode cX5_enter 49 = .ok (.aload_n 0, 1) := dl_o42 kcX5_enter (by decide +kernel)
theorem dX5_enter_50 : decode cX5_enter 50 = .ok (.getfield 87, 3) := dl_o180 kcX5_enter (by decide +kernel)
theorem dX5_enter_53 : decode cX5_enter 53 = .ok (.iastore, 1) := dl_o79 kcX5_enter (by decide +kernel)
theorem dX5_enter_54 : decode cX5_enter 54 = .ok (.aload_n 0, 1) := dl_o42 kcX5_enter (by decide +kernel)
theorem dX5_enter_55 : decode cX5_enter 55 = .ok (.getfield 21, 3) := dl_o180 kcX5_enter (by decide +kernel)
theorem dX5_enter_58 : decode cX5_enter 58 = .ok (.getfield 370, 3) := dl_o180 kcX5_enter (by decide +kernel)
theorem dX5_enter_61 : decode cX5_enter 61 = .ok (.iload_n 3, 1) := dl_o29 kcX5_enter (by decide +kernel)
theorem dX5_enter_62 : decode cX5_enter 62 = .ok (.aload_n 0, 1) := dl_o42 kcX5_enter (by decide +kernel)
theorem dX5_enter_63 : decode cX5_enter 63 = .ok (.getfield 90, 3) := dl_o180 kcX5_enter (by decide +kernel)
theorem dX5_enter_66 : decode cX5_enter 66 = .ok (.iastore, 1) := dl_o79 kcX5_enter (by decide +kernel)
theorem dX5_enter_67 : decode cX5_enter 67 = .ok (.aload_n 0, 1) := dl_o42 kcX5_enter (by decide +kernel)
theorem dX5_enter_68 : decode cX5_enter 68 = .ok (.getfield 21, 3) := dl_o180 kcX5_enter (by decide +kernel)
theorem dX5_enter_71 : decode cX5_enter 71 = .ok (.getfield 373, 3) := dl_o180 kcX5_enter (by decide +kernel)
theorem dX5_enter_74 : decode cX5_enter 74 = .ok (.iload_n 3, 1) := dl_o29 kcX5_enter (by decide +kernel)
theorem dX5_enter_75 : decode cX5_enter 75 = .ok (.aload_n 0, 1) := dl_o42 kcX5_enter (by decide +kernel)
theorem dX5_enter_76 : decode cX5_enter 76 = .ok (.getfield 93, 3) := dl_o180 kcX5_enter (by decide +kernel)
theorem dX5_enter_79 : decode cX5_enter 79 = .ok (.iastore, 1) := dl_o79 kcX5_enter (by decide +kernel)
theorem dX5_enter_80 : decode cX5_enter 80 = .ok (.aload_n 0, 1) := dl_o42 kcX5_enter (by decide +kernel)
theorem dX5_enter_81 : decode cX5_enter 81 = .ok (.getfield 21, 3) := dl_o180 kcX5_enter (by decide +kernel)
theorem dX5_enter_84 : decode cX5_enter 84 = .ok (.iload_n 3, 1) := dl_o29 kcX5_enter (by decide +kernel)
theorem dX5_enter_85 : decode cX5_enter 85 = .ok (.iconst 1, 1) := dl_o4 kcX5_enter (by decide +kernel)
theorem dX5_enter_86 : decode cX5_enter 86 = .ok (.iadd, 1) := dl_o96 kcX5_enter (by decide +kernel)
theorem dX5_enter_87 : decode cX5_enter 87 = .ok (.putfield 99, 3) := dl_o181 kcX5_enter (by decide +kernel)
theorem dX5_enter_90 : decode cX5_enter 90 = .ok (.aload_n 0, 1) := dl_o42 kcX5_enter (by decide +kernel)
theorem dX5_enter_91 : decode cX5_enter 91 = .ok (.aload_n 0, 1) := dl_o42 kcX5_enter (by decide +kernel)
theorem dX5_enter_92 : decode cX5_enter 92 = .ok (.getfield 21, 3) := dl_o180 kcX5_enter (by decide +kernel)
theorem dX5_enter_95 : decode cX5_enter 95 = .ok (.getfield 346, 3) := dl_o180 kcX5_enter (by decide +kernel)
theorem dX5_enter_98 : decode cX5_enter 98 = .ok (.iload_n 1, 1) := dl_o27 kcX5_enter (by decide +kernel)
theorem dX5_enter_99 : decode cX5_enter 99 = .ok (.iaload, 1) := dl_o46 kcX5_enter (by decide +kernel)
theorem dX5_enter_100 : decode cX5_enter 100 = .ok (.putfield 87, 3) := dl_o181 kcX5_enter (by decide +kernel)
theorem dX5_enter_103 : decode cX5_enter 103 = .ok (.aload_n 0, 1) := dl_o42 kcX5_enter (by decide +kernel)
theorem dX5_enter_104 : decode cX5_enter 104 = .ok (.aload_n 0, 1) := dl_o42 kcX5_enter (by decide +kernel)
theorem dX5_enter_105 : decode cX5_enter 105 = .ok (.getfield 21, 3) := dl_o180 kcX5_enter (by decide +kernel)
theorem dX5_enter_108 : decode cX5_enter 108 = .ok (.getfield 349, 3) := dl_o180 kcX5_enter (by decide +kernel)
theorem dX5_enter_111 : decode cX5_enter 111 = .ok (.iload_n 1, 1) := dl_o27 kcX5_enter (by decide +kernel)
theorem dX5_enter_112 : decode cX5_enter 112 = .ok (.iaload, 1) := dl_o46 kcX5_enter (by decide +kernel)
theorem dX5_enter_113 : decode cX5_enter 113 = .ok (.putfield 90, 3) := dl_o181 kcX5_enter (by decide +kernel)
theorem dX5_enter_116 : decode cX5_enter 116 = .ok (.aload_n 0, 1) := dl_o42 kcX5_enter (by decide +kernel)
theorem dX5_enter_117 : decode cX5_enter 117 = .ok (.aload_n 0, 1) := dl_o42 kcX5_enter (by decide +kernel)
theorem dX5_enter_118 : decode cX5_enter 118 = .ok (.getfield 21, 3) := dl_o180 kcX5_enter (by decide +kernel)
theorem dX5_enter_121 : decode cX5_enter 121 = .ok (.getfield 352, 3) := dl_o180 kcX5_enter (by decide +kernel)
theorem dX5_enter_124 : decode cX5_enter 124 = .ok (.iload_n 1, 1) := dl_o27 kcX5_enter (by decide +kernel)
theorem dX5_enter_125 : decode cX5_enter 125 = .ok (.iaload, 1) := dl_o46 kcX5_enter (by decide +kernel)
theorem dX5_enter_126 : decode cX5_enter 126 = .ok (.putfield 93, 3) := dl_o181 kcX5_enter (by decide +kernel)
theorem dX5_enter_129 : decode cX5_enter 129 = .ok (.return_, 1) := dl_o177 kcX5_enter (by decide +kernel)
def F_X5_enter (l1 : Int32) (l2 : Int32) (V : sv_V) : Option sv_V := sx_let (V.1 73 9) (fun x1 => if x1 < (32 : Int32) then (if sx_in x1 32 = true then sx_let (sv_I V 77 x1.toNatClampNeg l1) (fun V4 => if sx_in x1 32 = true then sx_let (sv_I V4 78 x1.toNatClampNeg l2) (fun V6 => if sx_in x1 32 = true then sx_let (sv_I V6 79 x1.toNatClampNeg (V6.1 69 9)) (fun V8 => if sx_in x1 32 = true then sx_let (sv_I V8 80 x1.toNatClampNeg (V8.1 69 10)) (fun V10 => if sx_in x1 32 = true then sx_let (sv_I V10 81 x1.toNatClampNeg (V10.1 69 11)) (fun V12 => sx_let (sv_I V12 73 9 (x1 + (1 : Int32))) (fun V13 => if sx_in l1 320 = true then sx_let (sv_I V13 69 9 (V13.1 74 l1.toNatClampNeg)) (fun V15 => if sx_in l1 320 = true then sx_let (sv_I V15 69 10 (V15.1 75 l1.toNatClampNeg)) (fun V17 => if sx_in l1 320 = true then sx_let (sv_I V17 69 11 (V17.1 76 l1.toNatClampNeg)) (fun V19 => some V19) else none) else none) else none)) else none) else none) else none) else none) else none) else (sx_let (sv_I V 69 14 (9 : Int32)) (fun V20 => some V20)))
set_option maxRecDepth 20000 in
theorem t_X5_enter {g : sx_G} (hG : sx_Go g) {P : Option Value → sv_V → Prop} {Vr : sv_V} (hP : P none Vr) {l1 : Int32} {l2 : Int32} {V : sv_V} (h : F_X5_enter l1 l2 V = some Vr) : sv_N g qX5_enter 0 0 [(0, .ref 69), (1, .int l1), (2, .int l2)] [] V P := by
  unfold F_X5_enter at h
  refine sx_aload_n (pc := 0) dX5_enter_0 sx_m0 ?_
  refine sv_getO (pc := 1) hG dX5_enter_1 f_5_21 lay_69 rfl cr_69_2 ?_
  refine sv_getI (pc := 4) hG dX5_enter_4 f_5_99 lay_73 rfl ?_
  refine sv_tI (fun x1 hx1 => ?_)
  have h := sx_letE hx1 h
  refine sx_istore_n (pc := 7) (lo' := [(3, .int x1), (0, .ref 69), (1, .int l1), (2, .int l2)]) dX5_enter_7 (by decide) rfl ?_
  refine sx_iload_n (pc := 8) dX5_enter_8 sx_m0 ?_
  refine sx_bipush (pc := 9) (v := 32) dX5_enter_9 (by decide) ?_
  refine sx_icmp_lt (pc := 11) (tgt := 21) dX5_enter_11 (by decide) (fun c2 => ?_) (fun c2 => ?_)
  · have h := sx_pos c2 h
    refine sx_aload_n (pc := 21) dX5_enter_21 sx_m1 ?_
    refine sv_getO (pc := 22) hG dX5_enter_22 f_5_21 lay_69 rfl cr_69_2 ?_
    refine sv_getA (pc := 25) hG dX5_enter_25 f_5_361 lay_73 rfl cr_73_4 ?_
    refine sx_iload_n (pc := 28) dX5_enter_28 sx_m0 ?_
    refine sx_iload_n (pc := 29) dX5_enter_29 sx_m2 ?_
    obtain ⟨g3, h⟩ := sx_grd h
    obtain ⟨V4, hV4⟩ : ∃ z : sv_V, z = sv_I V 77 x1.toNatClampNeg l1 := ⟨_, rfl⟩
    have h := sx_letE hV4 h
    refine sv_iast (pc := 30) hG dX5_enter_30 lay_77 g3 hV4 ?_
    refine sx_aload_n (pc := 31) dX5_enter_31 sx_m1 ?_
    refine sv_getO (pc := 32) hG dX5_enter_32 f_5_21 lay_69 rfl cr_69_2 ?_
    refine sv_getA (pc := 35) hG dX5_enter_35 f_5_364 lay_73 rfl cr_73_5 ?_
    refine sx_iload_n (pc := 38) dX5_enter_38 sx_m0 ?_
    refine sx_iload_n (pc := 39) dX5_enter_39 sx_m3 ?_
    obtain ⟨g5, h⟩ := sx_grd h
    obtain ⟨V6, hV6⟩ : ∃ z : sv_V, z = sv_I V4 78 x1.toNatClampNeg l2 := ⟨_, rfl⟩
    have h := sx_letE hV6 h
    refine sv_iast (pc := 40) hG dX5_enter_40 lay_78 g5 hV6 ?_
    refine sx_aload_n (pc := 41) dX5_enter_41 sx_m1 ?_
    refine sv_getO (pc := 42) hG dX5_enter_42 f_5_21 lay_69 rfl cr_69_2 ?_
    refine sv_getA (pc := 45) hG dX5_enter_45 f_5_367 lay_73 rfl cr_73_6 ?_
    refine sx_iload_n (pc := 48) dX5_enter_48 sx_m0 ?_
    refine sx_aload_n (pc := 49) dX5_enter_49 sx_m1 ?_
    refine sv_getI (pc := 50) hG dX5_enter_50 f_5_87 lay_69 rfl ?_
    obtain ⟨g7, h⟩ := sx_grd h
    obtain ⟨V8, hV8⟩ : ∃ z : sv_V, z = sv_I V6 79 x1.toNatClampNeg (V6.1 69 9) := ⟨_, rfl⟩
    have h := sx_letE hV8 h
    refine sv_iast (pc := 53) hG dX5_enter_53 lay_79 g7 hV8 ?_
    refine sx_aload_n (pc := 54) dX5_enter_54 sx_m1 ?_
    refine sv_getO (pc := 55) hG dX5_enter_55 f_5_21 lay_69 rfl cr_69_2 ?_
    refine sv_getA (pc := 58) hG dX5_enter_58 f_5_370 lay_73 rfl cr_73_7 ?_
    refine sx_iload_n (pc := 61) dX5_enter_61 sx_m0 ?_
    refine sx_aload_n (pc := 62) dX5_enter_62 sx_m1 ?_
    refine sv_getI (pc := 63) hG dX5_enter_63 f_5_90 lay_69 rfl ?_
    obtain ⟨g9, h⟩ := sx_grd h
    obtain ⟨V10, hV10⟩ : ∃ z : sv_V, z = sv_I V8 80 x1.toNatClampNeg (V8.1 69 10) := ⟨_, rfl⟩
    have h := sx_letE hV10 h
    refine sv_iast (pc := 66) hG dX5_enter_66 lay_80 g9 hV10 ?_
    refine sx_aload_n (pc := 67) dX5_enter_67 sx_m1 ?_
    refine sv_getO (pc := 68) hG dX5_enter_68 f_5_21 lay_69 rfl cr_69_2 ?_
    refine sv_getA (pc := 71) hG dX5_enter_71 f_5_373 lay_73 rfl cr_73_8 ?_
    refine sx_iload_n (pc := 74) dX5_enter_74 sx_m0 ?_
    refine sx_aload_n (pc := 75) dX5_enter_75 sx_m1 ?_
    refine sv_getI (pc := 76) hG dX5_enter_76 f_5_93 lay_69 rfl ?_
    obtain ⟨g11, h⟩ := sx_grd h
    obtain ⟨V12, hV12⟩ : ∃ z : sv_V, z = sv_I V10 81 x1.toNatClampNeg (V10.1 69 11) := ⟨_, rfl⟩
    have h := sx_letE hV12 h
    refine sv_iast (pc := 79) hG dX5_enter_79 lay_81 g11 hV12 ?_
    refine sx_aload_n (pc := 80) dX5_enter_80 sx_m1 ?_
    refine sv_getO (pc := 81) hG dX5_enter_81 f_5_21 lay_69 rfl cr_69_2 ?_
    refine sx_iload_n (pc := 84) dX5_enter_84 sx_m0 ?_
    refine sx_iconst (pc := 85) (v := 1) dX5_enter_85 (by decide) ?_
    refine sx_iadd (pc := 86) dX5_enter_86 ?_
    obtain ⟨V13, hV13⟩ : ∃ z : sv_V, z = sv_I V12 73 9 (x1 + (1 : Int32)) := ⟨_, rfl⟩
    have h := sx_letE hV13 h
    refine sv_putI (pc := 87) hG dX5_enter_87 f_5_99 lay_73 rfl hV13 ?_
    refine sx_aload_n (pc := 90) dX5_enter_90 sx_m1 ?_
    refine sx_aload_n (pc := 91) dX5_enter_91 sx_m1 ?_
    refine sv_getO (pc := 92) hG dX5_enter_92 f_5_21 lay_69 rfl cr_69_2 ?_
    refine sv_getA (pc := 95) hG dX5_enter_95 f_5_346 lay_73 rfl cr_73_0 ?_
    refine sx_iload_n (pc := 98) dX5_enter_98 sx_m2 ?_
    obtain ⟨g14, h⟩ := sx_grd h
    refine sv_iald (pc := 99) hG dX5_enter_99 lay_74 g14 ?_
    obtain ⟨V15, hV15⟩ : ∃ z : sv_V, z = sv_I V13 69 9 (V13.1 74 l1.toNatClampNeg) := ⟨_, rfl⟩
    have h := sx_letE hV15 h
    refine sv_putI (pc := 100) hG dX5_enter_100 f_5_87 lay_69 rfl hV15 ?_
    refine sx_aload_n (pc := 103) dX5_enter_103 sx_m1 ?_
    refine sx_aload_n (pc := 104) dX5_enter_104 sx_m1 ?_
    refine sv_getO (pc := 105) hG dX5_enter_105 f_5_21 lay_69 rfl cr_69_2 ?_
    refine sv_getA (pc := 108) hG dX5_enter_108 f_5_349 lay_73 rfl cr_73_1 ?_
    refine sx_iload_n (pc := 111) dX5_enter_111 sx_m2 ?_
    obtain ⟨g16, h⟩ := sx_grd h
    refine sv_iald (pc := 112) hG dX5_enter_112 lay_75 g16 ?_
    obtain ⟨V17, hV17⟩ : ∃ z : sv_V, z = sv_I V15 69 10 (V15.1 75 l1.toNatClampNeg) := ⟨_, rfl⟩
    have h := sx_letE hV17 h
    refine sv_putI (pc := 113) hG dX5_enter_113 f_5_90 lay_69 rfl hV17 ?_
    refine sx_aload_n (pc := 116) dX5_enter_116 sx_m1 ?_
    refine sx_aload_n (pc := 117) dX5_enter_117 sx_m1 ?_
    refine sv_getO (pc := 118) hG dX5_enter_118 f_5_21 lay_69 rfl cr_69_2 ?_
    refine sv_getA (pc := 121) hG dX5_enter_121 f_5_352 lay_73 rfl cr_73_2 ?_
    refine sx_iload_n (pc := 124) dX5_enter_124 sx_m2 ?_
    obtain ⟨g18, h⟩ := sx_grd h
    refine sv_iald (pc := 125) hG dX5_enter_125 lay_76 g18 ?_
    obtain ⟨V19, hV19⟩ : ∃ z : sv_V, z = sv_I V17 69 11 (V17.1 76 l1.toNatClampNeg) := ⟨_, rfl⟩
    have h := sx_letE hV19 h
    refine sv_putI (pc := 126) hG dX5_enter_126 f_5_93 lay_69 rfl hV19 ?_
    exact sv_vret (pc := 129) dX5_enter_129 rfl h hP
  · have h := sx_neg c2 h
    refine sx_aload_n (pc := 14) dX5_enter_14 sx_m1 ?_
    refine sx_bipush (pc := 15) (v := 9) dX5_enter_15 (by decide) ?_
    obtain ⟨V20, hV20⟩ : ∃ z : sv_V, z = sv_I V 69 14 (9 : Int32) := ⟨_, rfl⟩
    have h := sx_letE hV20 h
    refine sv_putI (pc := 17) hG dX5_enter_17 f_5_56 lay_69 rfl hV20 ?_
    exact sv_vret (pc := 20) dX5_enter_20 rfl h hP
def ncX5_endRoutine : Nat := 6141538409809888501047482318430848708354188957747091104981850801480572194173850248219489160093768377953466546049668540827762497523261519905123428700651507091903191839245204342810172420085164979885116577708046605208643938880895513613453036137779164545177861390941031870467453994
theorem kcX5_endRoutine : CK cX5_endRoutine ncX5_endRoutine 115 := ⟨by decide +kernel, by decide +kernel⟩
theorem dX5_endRoutine_0 : decode cX5_endRoutine 0 = .ok (.aload_n 0, 1) := dl_o42 kcX5_endRoutine (by decide +kernel)
theorem dX5_endRoutine_1 : decode cX5_endRoutine 1 = .ok (.getfield 21, 3) := dl_o180 kcX5_endRoutine (by decide +kernel)
theorem dX5_endRoutine_4 : decode cX5_endRoutine 4 = .ok (.getfield 99, 3) := dl_o180 kcX5_endRoutine (by decide +kernel)
theorem dX5_endRoutine_7 : decode cX5_endRoutine 7 = .ok (.iconst 1, 1) := dl_o4 kcX5_endRoutine (by decide +kernel)
theorem dX5_endRoutine_8 : decode cX5_endRoutine 8 = .ok (.isub, 1) := dl_o100 kcX5_endRoutine (by decide +kernel)
theorem dX5_endRoutine_9 : decode cX5_endRoutine 9 = .ok (.istore_n 1, 1) := dl_o60 kcX5_endRoutine (by decide +kernel)
theorem dX5_endRoutine_10 : decode cX5_endRoutine 10 = .ok (.iload_n 1, 1) := dl_o27 kcX5_endRoutine (by decide +kernel)
theorem dX5_endRoutine_11 : decode cX5_endRoutine 11 = .ok (.ifCond .ge 9, 3) := dl_o156 kcX5_endRoutine 9 (by decide +kernel) (by decide +kernel)
theorem dX5_endRoutine_14 : decode cX5_endRoutine 14 = .ok (.aload_n 0, 1) := dl_o42 kcX5_endRoutine (by decide +kernel)
theorem dX5_endRoutine_15 : decode cX5_endRoutine 15 = .ok (.iconst 4, 1) := dl_o7 kcX5_endRoutine (by decide +kernel)
theorem dX5_endRoutine_16 : decode cX5_endRoutine 16 = .ok (.putfield 56, 3) := dl_o181 kcX5_endRoutine (by decide +kernel)
theorem dX5_endRoutine_19 : decode cX5_endRoutine 19 = .ok (.return_, 1) := dl_o177 kcX5_endRoutine (by decide +kernel)
theorem dX5_endRoutine_20 : decode cX5_endRoutine 20 = .ok (.aload_n 0, 1) := dl_o42 kcX5_endRoutine (by decide +kernel)
theorem dX5_endRoutine_21 : decode cX5_endRoutine 21 = .ok (.getfield 21, 3) := dl_o180 kcX5_endRoutine (by decide +kernel)
theorem dX5_endRoutine_24 : decode cX5_endRoutine 24 = .ok (.getfield 364, 3) := dl_o180 kcX5_endRoutine (by decide +kernel)
theorem dX5_endRoutine_27 : decode cX5_endRoutine 27 = .ok (.iload_n 1, 1) := dl_o27 kcX5_endRoutine (by decide +kernel)
theorem dX5_endRoutine_28 : decode cX5_endRoutine 28 = .ok (.dup2, 1) := dl_o92 kcX5_endRoutine (by decide +kernel)
theorem dX5_endRoutine_29 : decode cX5_endRoutine 29 = .ok (.iaload, 1) := dl_o46 kcX5_endRoutine (by decide +kernel)
theorem dX5_endRoutine_30 : decode cX5_endRoutine 30 = .ok (.iconst 1, 1) := dl_o4 kcX5_endRoutine (by decide +kernel)
theorem dX5_endRoutine_31 : decode cX5_endRoutine 31 = .ok (.isub, 1) := dl_o100 kcX5_endRoutine (by decide +kernel)
theorem dX5_endRoutine_32 : decode cX5_endRoutine 32 = .ok (.iastore, 1) := dl_o79 kcX5_endRoutine (by decide +kernel)
theorem dX5_endRoutine_33 : decode cX5_endRoutine 33 = .ok (.aload_n 0, 1) := dl_o42 kcX5_endRoutine (by decide +kernel)
theorem dX5_endRoutine_34 : decode cX5_endRoutine 34 = .ok (.getfield 21, 3) := dl_o180 kcX5_endRoutine (by decide +kernel)
theorem dX5_endRoutine_37 : decode cX5_endRoutine 37 = .ok (.getfield 364, 3) := dl_o180 kcX5_endRoutine (by decide +kernel)
theorem dX5_endRoutine_40 : decode cX5_endRoutine 40 = .ok (.iload_n 1, 1) := dl_o27 kcX5_endRoutine (by decide +kernel)
theorem dX5_endRoutine_41 : decode cX5_endRoutine 41 = .ok (.iaload, 1) := dl_o46 kcX5_endRoutine (by decide +kernel)
theorem dX5_endRoutine_42 : decode cX5_endRoutine 42 = .ok (.ifCond .le 25, 3) := dl_o158 kcX5_endRoutine 25 (by decide +kernel) (by decide +kernel)
theorem dX5_endRoutine_45 : decode cX5_endRoutine 45 = .ok (.aload_n 0, 1) := dl_o42 kcX5_endRoutine (by decide +kernel)
theorem dX5_endRoutine_46 : decode cX5_endRoutine 46 = .ok (.aload_n 0, 1) := dl_o42 kcX5_endRoutine (by decide +kernel)
theorem dX5_endRoutine_47 : decode cX5_endRoutine 47 = .ok (.getfield 21, 3) := dl_o180 kcX5_endRoutine (by decide +kernel)
theorem dX5_endRoutine_50 : decode cX5_endRoutine 50 = .ok (.getfield 352, 3) := dl_o180 kcX5_endRoutine (by decide +kernel)
theorem dX5_endRoutine_53 : decode cX5_endRoutine 53 = .ok (.aload_n 0, 1) := dl_o42 kcX5_endRoutine (by decide +kernel)
theorem dX5_endRoutine_54 : decode cX5_endRoutine 54 = .ok (.getfield 21, 3) := dl_o180 kcX5_endRoutine (by decide +kernel)
theorem dX5_endRoutine_57 : decode cX5_endRoutine 57 = .ok (.getfield 361, 3) := dl_o180 kcX5_endRoutine (by decide +kernel)
theorem dX5_endRoutine_60 : decode cX5_endRoutine 60 = .ok (.iload_n 1, 1) := dl_o27 kcX5_endRoutine (by decide +kernel)
theorem dX5_endRoutine_61 : decode cX5_endRoutine 61 = .ok (.iaload, 1) := dl_o46 kcX5_endRoutine (by decide +kernel)
theorem dX5_endRoutine_62 : decode cX5_endRoutine 62 = .ok (.iaload, 1) := dl_o46 kcX5_endRoutine (by decide +kernel)
theorem dX5_endRoutine_63 : decode cX5_endRoutine 63 = .ok (.putfield 93, 3) := dl_o181 kcX5_endRoutine (by decide +kernel)
theorem dX5_endRoutine_66 : decode cX5_endRoutine 66 = .ok (.return_, 1) := dl_o177 kcX5_endRoutine (by decide +kernel)
theorem dX5_endRoutine_67 : decode cX5_endRoutine 67 = .ok (.aload_n 0, 1) := dl_o42 kcX5_endRoutine (by decide +kernel)
theorem dX5_endRoutine_68 : decode cX5_endRoutine 68 = .ok (.aload_n 0, 1) := dl_o42 kcX5_endRoutine (by decide +kernel)
theorem dX5_endRoutine_69 : decode cX5_endRoutine 69 = .ok (.getfield 21, 3) := dl_o180 kcX5_endRoutine (by decide +kernel)
theorem dX5_endRoutine_72 : decode cX5_endRoutine 72 = .ok (.getfield 367, 3) := dl_o180 kcX5_endRoutine (by decide +kernel)
theorem dX5_endRoutine_75 : decode cX5_endRoutine 75 = .ok (.iload_n 1, 1) := dl_o27 kcX5_endRoutine (by decide +kernel)
theorem dX5_endRoutine_76 : decode cX5_endRoutine 76 = .ok (.iaload, 1) := dl_o46 kcX5_endRoutine (by decide +kernel)
theorem dX5_endRoutine_77 : decode cX5_endRoutine 77 = .ok (.putfield 87, 3) := dl_o181 kcX5_endRoutine (by decide +kernel)
theorem dX5_endRoutine_80 : decode cX5_endRoutine 80 = .ok (.aload_n 0, 1) := dl_o42 kcX5_endRoutine (by decide +kernel)
theorem dX5_endRoutine_81 : decode cX5_endRoutine 81 = .ok (.aload_n 0, 1) := dl_o42 kcX5_endRoutine (by decide +kernel)
theorem dX5_endRoutine_82 : decode cX5_endRoutine 82 = .ok (.getfield 21, 3) := dl_o180 kcX5_endRoutine (by decide +kernel)
theorem dX5_endRoutine_85 : decode cX5_endRoutine 85 = .ok (.getfield 370, 3) := dl_o180 kcX5_endRoutine (by decide +kernel)
theorem dX5_endRoutine_88 : decode cX5_endRoutine 88 = .ok (.iload_n 1, 1) := dl_o27 kcX5_endRoutine (by decide +kernel)
theorem dX5_endRoutine_89 : decode cX5_endRoutine 89 = .ok (.iaload, 1) := dl_o46 kcX5_endRoutine (by decide +kernel)
theorem dX5_endRoutine_90 : decode cX5_endRoutine 90 = .ok (.putfield 90, 3) := dl_o181 kcX5_endRoutine (by decide +kernel)
theorem dX5_endRoutine_93 : decode cX5_endRoutine 93 = .ok (.aload_n 0, 1) := dl_o42 kcX5_endRoutine (by decide +kernel)
theorem dX5_endRoutine_94 : decode cX5_endRoutine 94 = .ok (.aload_n 0, 1) := dl_o42 kcX5_endRoutine (by decide +kernel)
theorem dX5_endRoutine_95 : decode cX5_endRoutine 95 = .ok (.getfield 21, 3) := dl_o180 kcX5_endRoutine (by decide +kernel)
theorem dX5_endRoutine_98 : decode cX5_endRoutine 98 = .ok (.getfield 373, 3) := dl_o180 kcX5_endRoutine (by decide +kernel)
theorem dX5_endRoutine_101 : decode cX5_endRoutine 101 = .ok (.iload_n 1, 1) := dl_o27 kcX5_endRoutine (by decide +kernel)
theorem dX5_endRoutine_102 : decode cX5_endRoutine 102 = .ok (.iaload, 1) := dl_o46 kcX5_endRoutine (by decide +kernel)
theorem dX5_endRoutine_103 : decode cX5_endRoutine 103 = .ok (.putfield 93, 3) := dl_o181 kcX5_endRoutine (by decide +kernel)
theorem dX5_endRoutine_106 : decode cX5_endRoutine 106 = .ok (.aload_n 0, 1) := dl_o42 kcX5_endRoutine (by decide +kernel)
theorem dX5_endRoutine_107 : decode cX5_endRoutine 107 = .ok (.getfield 21, 3) := dl_o180 kcX5_endRoutine (by decide +kernel)
theorem dX5_endRoutine_110 : decode cX5_endRoutine 110 = .ok (.iload_n 1, 1) := dl_o27 kcX5_endRoutine (by decide +kernel)
theorem dX5_endRoutine_111 : decode cX5_endRoutine 111 = .ok (.putfield 99, 3) := dl_o181 kcX5_endRoutine (by decide +kernel)
theorem dX5_endRoutine_114 : decode cX5_endRoutine 114 = .ok (.return_, 1) := dl_o177 kcX5_endRoutine (by decide +kernel)
def F_X5_endRoutine  (V : sv_V) : Option sv_V := sx_let ((V.1 73 9) - (1 : Int32)) (fun x1 => if 0 ≤ x1 then (if sx_in x1 32 = true then if sx_in x1 32 = true then sx_let (sv_I V 78 x1.toNatClampNeg ((V.1 78 x1.toNatClampNeg) - (1 : Int32))) (fun V5 => if sx_in x1 32 = true then if (V5.1 78 x1.toNatClampNeg) ≤ 0 then (if sx_in x1 32 = true then sx_let (sv_I V5 69 9 (V5.1 79 x1.toNatClampNeg)) (fun V9 => if sx_in x1 32 = true then sx_let (sv_I V9 69 10 (V9.1 80 x1.toNatClampNeg)) (fun V11 => if sx_in x1 32 = true then sx_let (sv_I V11 69 11 (V11.1 81 x1.toNatClampNeg)) (fun V13 => sx_let (sv_I V13 73 9 x1) (fun V14 => some V14)) else none) else none) else none) else (if sx_in x1 32 = true then if sx_in (V5.1 77 x1.toNatClampNeg) 320 = true then sx_let (sv_I V5 69 11 (V5.1 76 (V5.1 77 x1.toNatClampNeg).toNatClampNeg)) (fun V17 => some V17) else none else none) else none) else none else none) else (sx_let (sv_I V 69 14 (4 : Int32)) (fun V18 => some V18)))
set_option maxRecDepth 20000 in
theorem t_X5_endRoutine {g : sx_G} (hG : sx_Go g) {P : Option Value → sv_V → Prop} {Vr : sv_V} (hP : P none Vr)  {V : sv_V} (h : F_X5_endRoutine  V = some Vr) : sv_N g qX5_endRoutine 0 0 [(0, .ref 69)] [] V P := by
  unfold F_X5_endRoutine at h
  refine sx_aload_n (pc := 0) dX5_endRoutine_0 sx_m0 ?_
  refine sv_getO (pc := 1) hG dX5_endRoutine_1 f_5_21 lay_69 rfl cr_69_2 ?_
  refine sv_getI (pc := 4) hG dX5_endRoutine_4 f_5_99 lay_73 rfl ?_
  refine sx_iconst (pc := 7) (v := 1) dX5_endRoutine_7 (by decide) ?_
  refine sx_isub (pc := 8) dX5_endRoutine_8 ?_
  refine sv_tI (fun x1 hx1 => ?_)
  have h := sx_letE hx1 h
  refine sx_istore_n (pc := 9) (lo' := [(1, .int x1), (0, .ref 69)]) dX5_endRoutine_9 (by decide) rfl ?_
  refine sx_iload_n (pc := 10) dX5_endRoutine_10 sx_m0 ?_
  refine sx_if_ge (pc := 11) (tgt := 20) dX5_endRoutine_11 (by decide) (fun c2 => ?_) (fun c2 => ?_)
  · have h := sx_pos c2 h
    refine sx_aload_n (pc := 20) dX5_endRoutine_20 sx_m1 ?_
    refine sv_getO (pc := 21) hG dX5_endRoutine_21 f_5_21 lay_69 rfl cr_69_2 ?_
    refine sv_getA (pc := 24) hG dX5_endRoutine_24 f_5_364 lay_73 rfl cr_73_5 ?_
    refine sx_iload_n (pc := 27) dX5_endRoutine_27 sx_m0 ?_
    refine sx_dup2 (pc := 28) dX5_endRoutine_28 rfl rfl ?_
    obtain ⟨g3, h⟩ := sx_grd h
    refine sv_iald (pc := 29) hG dX5_endRoutine_29 lay_78 g3 ?_
    refine sx_iconst (pc := 30) (v := 1) dX5_endRoutine_30 (by decide) ?_
    refine sx_isub (pc := 31) dX5_endRoutine_31 ?_
    obtain ⟨g4, h⟩ := sx_grd h
    obtain ⟨V5, hV5⟩ : ∃ z : sv_V, z = sv_I V 78 x1.toNatClampNeg ((V.1 78 x1.toNatClampNeg) - (1 : Int32)) := ⟨_, rfl⟩
    have h := sx_letE hV5 h
    refine sv_iast (pc := 32) hG dX5_endRoutine_32 lay_78 g4 hV5 ?_
    refine sx_aload_n (pc := 33) dX5_endRoutine_33 sx_m1 ?_
    refine sv_getO (pc := 34) hG dX5_endRoutine_34 f_5_21 lay_69 rfl cr_69_2 ?_
    refine sv_getA (pc := 37) hG dX5_endRoutine_37 f_5_364 lay_73 rfl cr_73_5 ?_
    refine sx_iload_n (pc := 40) dX5_endRoutine_40 sx_m0 ?_
    obtain ⟨g6, h⟩ := sx_grd h
    refine sv_iald (pc := 41) hG dX5_endRoutine_41 lay_78 g6 ?_
    refine sx_if_le (pc := 42) (tgt := 67) dX5_endRoutine_42 (by decide) (fun c7 => ?_) (fun c7 => ?_)
    · have h := sx_pos c7 h
      refine sx_aload_n (pc := 67) dX5_endRoutine_67 sx_m1 ?_
      refine sx_aload_n (pc := 68) dX5_endRoutine_68 sx_m1 ?_
      refine sv_getO (pc := 69) hG dX5_endRoutine_69 f_5_21 lay_69 rfl cr_69_2 ?_
      refine sv_getA (pc := 72) hG dX5_endRoutine_72 f_5_367 lay_73 rfl cr_73_6 ?_
      refine sx_iload_n (pc := 75) dX5_endRoutine_75 sx_m0 ?_
      obtain ⟨g8, h⟩ := sx_grd h
      refine sv_iald (pc := 76) hG dX5_endRoutine_76 lay_79 g8 ?_
      obtain ⟨V9, hV9⟩ : ∃ z : sv_V, z = sv_I V5 69 9 (V5.1 79 x1.toNatClampNeg) := ⟨_, rfl⟩
      have h := sx_letE hV9 h
      refine sv_putI (pc := 77) hG dX5_endRoutine_77 f_5_87 lay_69 rfl hV9 ?_
      refine sx_aload_n (pc := 80) dX5_endRoutine_80 sx_m1 ?_
      refine sx_aload_n (pc := 81) dX5_endRoutine_81 sx_m1 ?_
      refine sv_getO (pc := 82) hG dX5_endRoutine_82 f_5_21 lay_69 rfl cr_69_2 ?_
      refine sv_getA (pc := 85) hG dX5_endRoutine_85 f_5_370 lay_73 rfl cr_73_7 ?_
      refine sx_iload_n (pc := 88) dX5_endRoutine_88 sx_m0 ?_
      obtain ⟨g10, h⟩ := sx_grd h
      refine sv_iald (pc := 89) hG dX5_endRoutine_89 lay_80 g10 ?_
      obtain ⟨V11, hV11⟩ : ∃ z : sv_V, z = sv_I V9 69 10 (V9.1 80 x1.toNatClampNeg) := ⟨_, rfl⟩
      have h := sx_letE hV11 h
      refine sv_putI (pc := 90) hG dX5_endRoutine_90 f_5_90 lay_69 rfl hV11 ?_
      refine sx_aload_n (pc := 93) dX5_endRoutine_93 sx_m1 ?_
      refine sx_aload_n (pc := 94) dX5_endRoutine_94 sx_m1 ?_
      refine sv_getO (pc := 95) hG dX5_endRoutine_95 f_5_21 lay_69 rfl cr_69_2 ?_
      refine sv_getA (pc := 98) hG dX5_endRoutine_98 f_5_373 lay_73 rfl cr_73_8 ?_
      refine sx_iload_n (pc := 101) dX5_endRoutine_101 sx_m0 ?_
      obtain ⟨g12, h⟩ := sx_grd h
      refine sv_iald (pc := 102) hG dX5_endRoutine_102 lay_81 g12 ?_
      obtain ⟨V13, hV13⟩ : ∃ z : sv_V, z = sv_I V11 69 11 (V11.1 81 x1.toNatClampNeg) := ⟨_, rfl⟩
      have h := sx_letE hV13 h
      refine sv_putI (pc := 103) hG dX5_endRoutine_103 f_5_93 lay_69 rfl hV13 ?_
      refine sx_aload_n (pc := 106) dX5_endRoutine_106 sx_m1 ?_
      refine sv_getO (pc := 107) hG dX5_endRoutine_107 f_5_21 lay_69 rfl cr_69_2 ?_
      refine sx_iload_n (pc := 110) dX5_endRoutine_110 sx_m0 ?_
      obtain ⟨V14, hV14⟩ : ∃ z : sv_V, z = sv_I V13 73 9 x1 := ⟨_, rfl⟩
      have h := sx_letE hV14 h
      refine sv_putI (pc := 111) hG dX5_endRoutine_111 f_5_99 lay_73 rfl hV14 ?_
      exact sv_vret (pc := 114) dX5_endRoutine_114 rfl h hP
    · have h := sx_neg c7 h
      refine sx_aload_n (pc := 45) dX5_endRoutine_45 sx_m1 ?_
      refine sx_aload_n (pc := 46) dX5_endRoutine_46 sx_m1 ?_
      refine sv_getO (pc := 47) hG dX5_endRoutine_47 f_5_21 lay_69 rfl cr_69_2 ?_
      refine sv_getA (pc := 50) hG dX5_endRoutine_50 f_5_352 lay_73 rfl cr_73_2 ?_
      refine sx_aload_n (pc := 53) dX5_endRoutine_53 sx_m1 ?_
      refine sv_getO (pc := 54) hG dX5_endRoutine_54 f_5_21 lay_69 rfl cr_69_2 ?_
      refine sv_getA (pc := 57) hG dX5_endRoutine_57 f_5_361 lay_73 rfl cr_73_4 ?_
      refine sx_iload_n (pc := 60) dX5_endRoutine_60 sx_m0 ?_
      obtain ⟨g15, h⟩ := sx_grd h
      refine sv_iald (pc := 61) hG dX5_endRoutine_61 lay_77 g15 ?_
      obtain ⟨g16, h⟩ := sx_grd h
      refine sv_iald (pc := 62) hG dX5_endRoutine_62 lay_76 g16 ?_
      obtain ⟨V17, hV17⟩ : ∃ z : sv_V, z = sv_I V5 69 11 (V5.1 76 (V5.1 77 x1.toNatClampNeg).toNatClampNeg) := ⟨_, rfl⟩
      have h := sx_letE hV17 h
      refine sv_putI (pc := 63) hG dX5_endRoutine_63 f_5_93 lay_69 rfl hV17 ?_
      exact sv_vret (pc := 66) dX5_endRoutine_66 rfl h hP
  · have h := sx_neg c2 h
    refine sx_aload_n (pc := 14) dX5_endRoutine_14 sx_m1 ?_
    refine sx_iconst (pc := 15) (v := 4) dX5_endRoutine_15 (by decide) ?_
    obtain ⟨V18, hV18⟩ : ∃ z : sv_V, z = sv_I V 69 14 (4 : Int32) := ⟨_, rfl⟩
    have h := sx_letE hV18 h
    refine sv_putI (pc := 16) hG dX5_endRoutine_16 f_5_56 lay_69 rfl hV18 ?_
    exact sv_vret (pc := 19) dX5_endRoutine_19 rfl h hP
def ncX5_doubleTop : Nat := 15497821066744962549832688362737336221480490
theorem kcX5_doubleTop : CK cX5_doubleTop ncX5_doubleTop 18 := ⟨by decide +kernel, by decide +kernel⟩
theorem dX5_doubleTop_0 : decode cX5_doubleTop 0 = .ok (.aload_n 0, 1) := dl_o42 kcX5_doubleTop (by decide +kernel)
theorem dX5_doubleTop_1 : decode cX5_doubleTop 1 = .ok (.invokevirtual 242, 3) := dl_o182 kcX5_doubleTop (by decide +kernel)
theorem dX5_doubleTop_4 : decode cX5_doubleTop 4 = .ok (.istore_n 1, 1) := dl_o60 kcX5_doubleTop (by decide +kernel)
theorem dX5_doubleTop_5 : decode cX5_doubleTop 5 = .ok (.aload_n 0, 1) := dl_o42 kcX5_doubleTop (by decide +kernel)
theorem dX5_doubleTop_6 : decode cX5_doubleTop 6 = .ok (.iload_n 1, 1) := dl_o27 kcX5_doubleTop (by decide +kernel)
theorem dX5_doubleTop_7 : decode cX5_doubleTop 7 = .ok (.i2l, 1) := dl_o133 kcX5_doubleTop (by decide +kernel)
theorem dX5_doubleTop_8 : decode cX5_doubleTop 8 = .ok (.invokevirtual 232, 3) := dl_o182 kcX5_doubleTop (by decide +kernel)
theorem dX5_doubleTop_11 : decode cX5_doubleTop 11 = .ok (.aload_n 0, 1) := dl_o42 kcX5_doubleTop (by decide +kernel)
theorem dX5_doubleTop_12 : decode cX5_doubleTop 12 = .ok (.iload_n 1, 1) := dl_o27 kcX5_doubleTop (by decide +kernel)
theorem dX5_doubleTop_13 : decode cX5_doubleTop 13 = .ok (.i2l, 1) := dl_o133 kcX5_doubleTop (by decide +kernel)
theorem dX5_doubleTop_14 : decode cX5_doubleTop 14 = .ok (.invokevirtual 232, 3) := dl_o182 kcX5_doubleTop (by decide +kernel)
theorem dX5_doubleTop_17 : decode cX5_doubleTop 17 = .ok (.return_, 1) := dl_o177 kcX5_doubleTop (by decide +kernel)
def F_X5_doubleTop  (V : sv_V) : Option sv_V := (F_X5_pop  V).bind (fun (x3, V1) => (F_X5_push x3.toInt64 V1).bind (fun V4 => (F_X5_push x3.toInt64 V4).bind (fun V6 => some V6)))
set_option maxRecDepth 20000 in
theorem t_X5_doubleTop {g : sx_G} (hG : sx_Go g) {P : Option Value → sv_V → Prop} {Vr : sv_V} (hP : P none Vr)  {V : sv_V} (h : F_X5_doubleTop  V = some Vr) : sv_N g qX5_doubleTop 1 0 [(0, .ref 69)] [] V P := by
  unfold F_X5_doubleTop at h
  refine sx_aload_n (pc := 0) dX5_doubleTop_0 sx_m0 ?_
  obtain ⟨⟨x3, V1⟩, g2, h⟩ := sx_bnd h
  refine sv_cV (pc := 1) (y := qX5_pop) (o := (some (.int x3))) (as := []) (V1 := V1) hG dX5_doubleTop_1 l_X5_242 y0X5_pop yvX5_pop rfl (Nat.le_of_ble_eq_true rfl) lay_69 kr_5 (by decide) (Nat.le_of_ble_eq_true rfl) rfl rfl rfl (t_X5_pop hG ⟨rfl, rfl⟩ g2) ?_
  refine sx_istore_n (pc := 4) (lo' := [(1, .int x3), (0, .ref 69)]) dX5_doubleTop_4 (by decide) rfl ?_
  refine sx_aload_n (pc := 5) dX5_doubleTop_5 sx_m1 ?_
  refine sx_iload_n (pc := 6) dX5_doubleTop_6 sx_m0 ?_
  refine sx_i2l (pc := 7) dX5_doubleTop_7 ?_
  obtain ⟨V4, g5, h⟩ := sx_bnd h
  refine sv_cV (pc := 8) (y := qX5_push) (o := none) (as := [.long x3.toInt64]) (V1 := V4) hG dX5_doubleTop_8 l_X5_232 y0X5_push yvX5_push rfl (Nat.le_of_ble_eq_true rfl) lay_69 kr_5 (by decide) (Nat.le_of_ble_eq_true rfl) rfl rfl rfl (t_X5_push hG ⟨rfl, rfl⟩ g5) ?_
  refine sx_aload_n (pc := 11) dX5_doubleTop_11 sx_m1 ?_
  refine sx_iload_n (pc := 12) dX5_doubleTop_12 sx_m0 ?_
  refine sx_i2l (pc := 13) dX5_doubleTop_13 ?_
  obtain ⟨V6, g7, h⟩ := sx_bnd h
  refine sv_cV (pc := 14) (y := qX5_push) (o := none) (as := [.long x3.toInt64]) (V1 := V6) hG dX5_doubleTop_14 l_X5_232 y0X5_push yvX5_push rfl (Nat.le_of_ble_eq_true rfl) lay_69 kr_5 (by decide) (Nat.le_of_ble_eq_true rfl) rfl rfl rfl (t_X5_push hG ⟨rfl, rfl⟩ g7) ?_
  exact sv_vret (pc := 17) dX5_doubleTop_17 rfl h hP
def ncX5_rollTop : Nat := 808961906462317449488588180614860319786759546437474429048186342403695348304951156347181376887954160982663611904383047088828511103445845263932643259997163743529218083033796154143861072529648059419
theorem kcX5_rollTop : CK cX5_rollTop ncX5_rollTop 81 := ⟨by decide +kernel, by decide +kernel⟩
theorem dX5_rollTop_0 : decode cX5_rollTop 0 = .ok (.iload_n 1, 1) := dl_o27 kcX5_rollTop (by decide +kernel)
theorem dX5_rollTop_1 : decode cX5_rollTop 1 = .ok (.iconst 1, 1) := dl_o4 kcX5_rollTop (by decide +kernel)
theorem dX5_rollTop_2 : decode cX5_rollTop 2 = .ok (.if_icmp .lt 11, 3) := dl_o161 kcX5_rollTop 11 (by decide +kernel) (by decide +kernel)
theorem dX5_rollTop_5 : decode cX5_rollTop 5 = .ok (.aload_n 0, 1) := dl_o42 kcX5_rollTop (by decide +kernel)
theorem dX5_rollTop_6 : decode cX5_rollTop 6 = .ok (.getfield 96, 3) := dl_o180 kcX5_rollTop (by decide +kernel)
theorem dX5_rollTop_9 : decode cX5_rollTop 9 = .ok (.iload_n 1, 1) := dl_o27 kcX5_rollTop (by decide +kernel)
theorem dX5_rollTop_10 : decode cX5_rollTop 10 = .ok (.if_icmp .ge 9, 3) := dl_o162 kcX5_rollTop 9 (by decide +kernel) (by decide +kernel)
theorem dX5_rollTop_13 : decode cX5_rollTop 13 = .ok (.aload_n 0, 1) := dl_o42 kcX5_rollTop (by decide +kernel)
theorem dX5_rollTop_14 : decode cX5_rollTop 14 = .ok (.iconst 1, 1) := dl_o4 kcX5_rollTop (by decide +kernel)
theorem dX5_rollTop_15 : decode cX5_rollTop 15 = .ok (.putfield 56, 3) := dl_o181 kcX5_rollTop (by decide +kernel)
theorem dX5_rollTop_18 : decode cX5_rollTop 18 = .ok (.return_, 1) := dl_o177 kcX5_rollTop (by decide +kernel)
theorem dX5_rollTop_19 : decode cX5_rollTop 19 = .ok (.aload_n 0, 1) := dl_o42 kcX5_rollTop (by decide +kernel)
theorem dX5_rollTop_20 : decode cX5_rollTop 20 = .ok (.getfield 34, 3) := dl_o180 kcX5_rollTop (by decide +kernel)
theorem dX5_rollTop_23 : decode cX5_rollTop 23 = .ok (.aload_n 0, 1) := dl_o42 kcX5_rollTop (by decide +kernel)
theorem dX5_rollTop_24 : decode cX5_rollTop 24 = .ok (.getfield 96, 3) := dl_o180 kcX5_rollTop (by decide +kernel)
theorem dX5_rollTop_27 : decode cX5_rollTop 27 = .ok (.iload_n 1, 1) := dl_o27 kcX5_rollTop (by decide +kernel)
theorem dX5_rollTop_28 : decode cX5_rollTop 28 = .ok (.isub, 1) := dl_o100 kcX5_rollTop (by decide +kernel)
theorem dX5_rollTop_29 : decode cX5_rollTop 29 = .ok (.iaload, 1) := dl_o46 kcX5_rollTop (by decide +kernel)
theorem dX5_rollTop_30 : decode cX5_rollTop 30 = .ok (.istore_n 2, 1) := dl_o61 kcX5_rollTop (by decide +kernel)
theorem dX5_rollTop_31 : decode cX5_rollTop 31 = .ok (.aload_n 0, 1) := dl_o42 kcX5_rollTop (by decide +kernel)
theorem dX5_rollTop_32 : decode cX5_rollTop 32 = .ok (.getfield 96, 3) := dl_o180 kcX5_rollTop (by decide +kernel)
theorem dX5_rollTop_35 : decode cX5_rollTop 35 = .ok (.iload_n 1, 1) := dl_o27 kcX5_rollTop (by decide +kernel)
theorem dX5_rollTop_36 : decode cX5_rollTop 36 = .ok (.isub, 1) := dl_o100 kcX5_rollTop (by decide +kernel)
theorem dX5_rollTop_37 : decode cX5_rollTop 37 = .ok (.istore_n 3, 1) := dl_o62 kcX5_rollTop (by decide +kernel)
theorem dX5_rollTop_38 : decode cX5_rollTop 38 = .ok (.iload_n 3, 1) := dl_o29 kcX5_rollTop (by decide +kernel)
theorem dX5_rollTop_39 : decode cX5_rollTop 39 = .ok (.aload_n 0, 1) := dl_o42 kcX5_rollTop (by decide +kernel)
theorem dX5_rollTop_40 : decode cX5_rollTop 40 = .ok (.getfield 96, 3) := dl_o180 kcX5_rollTop (by decide +kernel)
theorem dX5_rollTop_43 : decode cX5_rollTop 43 = .ok (.iconst 1, 1) := dl_o4 kcX5_rollTop (by decide +kernel)
theorem dX5_rollTop_44 : decode cX5_rollTop 44 = .ok (.isub, 1) := dl_o100 kcX5_rollTop (by decide +kernel)
theorem dX5_rollTop_45 : decode cX5_rollTop 45 = .ok (.if_icmp .ge 23, 3) := dl_o162 kcX5_rollTop 23 (by decide +kernel) (by decide +kernel)
theorem dX5_rollTop_48 : decode cX5_rollTop 48 = .ok (.aload_n 0, 1) := dl_o42 kcX5_rollTop (by decide +kernel)
theorem dX5_rollTop_49 : decode cX5_rollTop 49 = .ok (.getfield 34, 3) := dl_o180 kcX5_rollTop (by decide +kernel)
theorem dX5_rollTop_52 : decode cX5_rollTop 52 = .ok (.iload_n 3, 1) := dl_o29 kcX5_rollTop (by decide +kernel)
theorem dX5_rollTop_53 : decode cX5_rollTop 53 = .ok (.aload_n 0, 1) := dl_o42 kcX5_rollTop (by decide +kernel)
theorem dX5_rollTop_54 : decode cX5_rollTop 54 = .ok (.getfield 34, 3) := dl_o180 kcX5_rollTop (by decide +kernel)
theorem dX5_rollTop_57 : decode cX5_rollTop 57 = .ok (.iload_n 3, 1) := dl_o29 kcX5_rollTop (by decide +kernel)
theorem dX5_rollTop_58 : decode cX5_rollTop 58 = .ok (.iconst 1, 1) := dl_o4 kcX5_rollTop (by decide +kernel)
theorem dX5_rollTop_59 : decode cX5_rollTop 59 = .ok (.iadd, 1) := dl_o96 kcX5_rollTop (by decide +kernel)
theorem dX5_rollTop_60 : decode cX5_rollTop 60 = .ok (.iaload, 1) := dl_o46 kcX5_rollTop (by decide +kernel)
theorem dX5_rollTop_61 : decode cX5_rollTop 61 = .ok (.iastore, 1) := dl_o79 kcX5_rollTop (by decide +kernel)
theorem dX5_rollTop_62 : decode cX5_rollTop 62 = .ok (.iinc 3 1, 3) := by decide +kernel
theorem dX5_rollTop_65 : decode cX5_rollTop 65 = .ok (.goto (-27), 3) := dl_o167 kcX5_rollTop 65509 (by decide +kernel) (by decide +kernel)
theorem dX5_rollTop_68 : decode cX5_rollTop 68 = .ok (.aload_n 0, 1) := dl_o42 kcX5_rollTop (by decide +kernel)
theorem dX5_rollTop_69 : decode cX5_rollTop 69 = .ok (.getfield 34, 3) := dl_o180 kcX5_rollTop (by decide +kernel)
theorem dX5_rollTop_72 : decode cX5_rollTop 72 = .ok (.aload_n 0, 1) := dl_o42 kcX5_rollTop (by decide +kernel)
theorem dX5_rollTop_73 : decode cX5_rollTop 73 = .ok (.getfield 96, 3) := dl_o180 kcX5_rollTop (by decide +kernel)
theorem dX5_rollTop_76 : decode cX5_rollTop 76 = .ok (.iconst 1, 1) := dl_o4 kcX5_rollTop (by decide +kernel)
theorem dX5_rollTop_77 : decode cX5_rollTop 77 = .ok (.isub, 1) := dl_o100 kcX5_rollTop (by decide +kernel)
theorem dX5_rollTop_78 : decode cX5_rollTop 78 = .ok (.iload_n 2, 1) := dl_o28 kcX5_rollTop (by decide +kernel)
theorem dX5_rollTop_79 : decode cX5_rollTop 79 = .ok (.iastore, 1) := dl_o79 kcX5_rollTop (by decide +kernel)
theorem dX5_rollTop_80 : decode cX5_rollTop 80 = .ok (.return_, 1) := dl_o177 kcX5_rollTop (by decide +kernel)
def B_X5_rollTop_38 (N : Nat) (k38 : Int32 → Int32 → sv_V → Option sv_V) (l2 : Int32) (l3 : Int32) (V : sv_V) : Option sv_V := if ((V.1 69 5) - (1 : Int32)) ≤ l3 then (if sx_in ((V.1 69 5) - (1 : Int32)) 256 = true then sx_let (sv_I V 92 ((V.1 69 5) - (1 : Int32)).toNatClampNeg l2) (fun V3 => some V3) else none) else (if sx_in (l3 + (1 : Int32)) 256 = true then if sx_in l3 256 = true then sx_let (sv_I V 92 l3.toNatClampNeg (V.1 92 (l3 + (1 : Int32)).toNatClampNeg)) (fun V6 => sx_let (l3 + 1) (fun x7 => k38 l2 x7 V6)) else none else none)
set_option maxRecDepth 20000 in
theorem tB_X5_rollTop_38 {g : sx_G} (hG : sx_Go g) {P : Option Value → sv_V → Prop} {Vr : sv_V} (hP : P none Vr) {N : Nat} {k38 : Int32 → Int32 → sv_V → Option sv_V} (hk38 : ∀ (l2 : Int32) (l3 : Int32) (V : sv_V), k38 l2 l3 V = some Vr → sv_N g qX5_rollTop 0 38 [(0, .ref 69), (2, .int l2), (3, .int l3)] [] V P) {l2 : Int32} {l3 : Int32} {V : sv_V} (h : B_X5_rollTop_38 N k38 l2 l3 V = some Vr) : sv_N g qX5_rollTop 0 38 [(0, .ref 69), (2, .int l2), (3, .int l3)] [] V P := by
  unfold B_X5_rollTop_38 at h
  refine sx_iload_n (pc := 38) dX5_rollTop_38 sx_m2 ?_
  refine sx_aload_n (pc := 39) dX5_rollTop_39 sx_m0 ?_
  refine sv_getI (pc := 40) hG dX5_rollTop_40 f_5_96 lay_69 rfl ?_
  refine sx_iconst (pc := 43) (v := 1) dX5_rollTop_43 (by decide) ?_
  refine sx_isub (pc := 44) dX5_rollTop_44 ?_
  refine sx_icmp_ge (pc := 45) (tgt := 68) dX5_rollTop_45 (by decide) (fun c1 => ?_) (fun c1 => ?_)
  · have h := sx_pos c1 h
    refine sx_aload_n (pc := 68) dX5_rollTop_68 sx_m0 ?_
    refine sv_getA (pc := 69) hG dX5_rollTop_69 f_5_34 lay_69 rfl cr_69_4 ?_
    refine sx_aload_n (pc := 72) dX5_rollTop_72 sx_m0 ?_
    refine sv_getI (pc := 73) hG dX5_rollTop_73 f_5_96 lay_69 rfl ?_
    refine sx_iconst (pc := 76) (v := 1) dX5_rollTop_76 (by decide) ?_
    refine sx_isub (pc := 77) dX5_rollTop_77 ?_
    refine sx_iload_n (pc := 78) dX5_rollTop_78 sx_m1 ?_
    obtain ⟨g2, h⟩ := sx_grd h
    obtain ⟨V3, hV3⟩ : ∃ z : sv_V, z = sv_I V 92 ((V.1 69 5) - (1 : Int32)).toNatClampNeg l2 := ⟨_, rfl⟩
    have h := sx_letE hV3 h
    refine sv_iast (pc := 79) hG dX5_rollTop_79 lay_92 g2 hV3 ?_
    exact sv_vret (pc := 80) dX5_rollTop_80 rfl h hP
  · have h := sx_neg c1 h
    refine sx_aload_n (pc := 48) dX5_rollTop_48 sx_m0 ?_
    refine sv_getA (pc := 49) hG dX5_rollTop_49 f_5_34 lay_69 rfl cr_69_4 ?_
    refine sx_iload_n (pc := 52) dX5_rollTop_52 sx_m2 ?_
    refine sx_aload_n (pc := 53) dX5_rollTop_53 sx_m0 ?_
    refine sv_getA (pc := 54) hG dX5_rollTop_54 f_5_34 lay_69 rfl cr_69_4 ?_
    refine sx_iload_n (pc := 57) dX5_rollTop_57 sx_m2 ?_
    refine sx_iconst (pc := 58) (v := 1) dX5_rollTop_58 (by decide) ?_
    refine sx_iadd (pc := 59) dX5_rollTop_59 ?_
    obtain ⟨g4, h⟩ := sx_grd h
    refine sv_iald (pc := 60) hG dX5_rollTop_60 lay_92 g4 ?_
    obtain ⟨g5, h⟩ := sx_grd h
    obtain ⟨V6, hV6⟩ : ∃ z : sv_V, z = sv_I V 92 l3.toNatClampNeg (V.1 92 (l3 + (1 : Int32)).toNatClampNeg) := ⟨_, rfl⟩
    have h := sx_letE hV6 h
    refine sv_iast (pc := 61) hG dX5_rollTop_61 lay_92 g5 hV6 ?_
    obtain ⟨x7, hx7⟩ : ∃ z : Int32, z = l3 + 1 := ⟨_, rfl⟩
    have h := sx_letE hx7 h
    refine sx_iinc (pc := 62) (v := x7) (lo' := [(3, .int x7), (0, .ref 69), (2, .int l2)]) dX5_rollTop_62 sx_m2 (by rw [hx7]; rfl) (by decide) rfl ?_
    refine sx_goto (pc := 65) (tgt := 38) dX5_rollTop_65 (by decide) ?_
    refine sx_wk (sx_s1 sx_m1 (sx_s1 sx_m2 (sx_s1 sx_m0 sx_s0))) ?_
    exact hk38 _ _ _ h
theorem tL_X5_rollTop_38 {g : sx_G} (hG : sx_Go g) {P : Option Value → sv_V → Prop} {Vr : sv_V} (hP : P none Vr) {N : Nat}   : ∀ (n : Nat) (l2 : Int32) (l3 : Int32) (V : sv_V), sx_lp3 (B_X5_rollTop_38 N ) n l2 l3 V = some Vr → sv_N g qX5_rollTop 0 38 [(0, .ref 69), (2, .int l2), (3, .int l3)] [] V P :=
  sx_lp3_ind (fun k0 ih _ _ V h => tB_X5_rollTop_38 hG hP ih h)
def F_X5_rollTop (N : Nat) (l1 : Int32) (V : sv_V) : Option sv_V := if l1 < (1 : Int32) then (sx_let (sv_I V 69 14 (1 : Int32)) (fun V9 => some V9)) else (if l1 ≤ (V.1 69 5) then (if sx_in ((V.1 69 5) - l1) 256 = true then sx_let (V.1 92 ((V.1 69 5) - l1).toNatClampNeg) (fun x12 => sx_let ((V.1 69 5) - l1) (fun x13 => sx_lp3 (B_X5_rollTop_38 N ) N x12 x13 V)) else none) else (sx_let (sv_I V 69 14 (1 : Int32)) (fun V14 => some V14)))
set_option maxRecDepth 20000 in
theorem t_X5_rollTop {g : sx_G} (hG : sx_Go g) {P : Option Value → sv_V → Prop} {Vr : sv_V} (hP : P none Vr) {N : Nat} {l1 : Int32} {V : sv_V} (h : F_X5_rollTop N l1 V = some Vr) : sv_N g qX5_rollTop 0 0 [(0, .ref 69), (1, .int l1)] [] V P := by
  unfold F_X5_rollTop at h
  refine sx_iload_n (pc := 0) dX5_rollTop_0 sx_m1 ?_
  refine sx_iconst (pc := 1) (v := 1) dX5_rollTop_1 (by decide) ?_
  refine sx_icmp_lt (pc := 2) (tgt := 13) dX5_rollTop_2 (by decide) (fun c8 => ?_) (fun c8 => ?_)
  · have h := sx_pos c8 h
    refine sx_aload_n (pc := 13) dX5_rollTop_13 sx_m0 ?_
    refine sx_iconst (pc := 14) (v := 1) dX5_rollTop_14 (by decide) ?_
    obtain ⟨V9, hV9⟩ : ∃ z : sv_V, z = sv_I V 69 14 (1 : Int32) := ⟨_, rfl⟩
    have h := sx_letE hV9 h
    refine sv_putI (pc := 15) hG dX5_rollTop_15 f_5_56 lay_69 rfl hV9 ?_
    exact sv_vret (pc := 18) dX5_rollTop_18 rfl h hP
  · have h := sx_neg c8 h
    refine sx_aload_n (pc := 5) dX5_rollTop_5 sx_m0 ?_
    refine sv_getI (pc := 6) hG dX5_rollTop_6 f_5_96 lay_69 rfl ?_
    refine sx_iload_n (pc := 9) dX5_rollTop_9 sx_m1 ?_
    refine sx_icmp_ge (pc := 10) (tgt := 19) dX5_rollTop_10 (by decide) (fun c10 => ?_) (fun c10 => ?_)
    · have h := sx_pos c10 h
      refine sx_aload_n (pc := 19) dX5_rollTop_19 sx_m0 ?_
      refine sv_getA (pc := 20) hG dX5_rollTop_20 f_5_34 lay_69 rfl cr_69_4 ?_
      refine sx_aload_n (pc := 23) dX5_rollTop_23 sx_m0 ?_
      refine sv_getI (pc := 24) hG dX5_rollTop_24 f_5_96 lay_69 rfl ?_
      refine sx_iload_n (pc := 27) dX5_rollTop_27 sx_m1 ?_
      refine sx_isub (pc := 28) dX5_rollTop_28 ?_
      obtain ⟨g11, h⟩ := sx_grd h
      refine sv_iald (pc := 29) hG dX5_rollTop_29 lay_92 g11 ?_
      refine sv_tI (fun x12 hx12 => ?_)
      have h := sx_letE hx12 h
      refine sx_istore_n (pc := 30) (lo' := [(2, .int x12), (0, .ref 69), (1, .int l1)]) dX5_rollTop_30 (by decide) rfl ?_
      refine sx_aload_n (pc := 31) dX5_rollTop_31 sx_m1 ?_
      refine sv_getI (pc := 32) hG dX5_rollTop_32 f_5_96 lay_69 rfl ?_
      refine sx_iload_n (pc := 35) dX5_rollTop_35 sx_m2 ?_
      refine sx_isub (pc := 36) dX5_rollTop_36 ?_
      refine sv_tI (fun x13 hx13 => ?_)
      have h := sx_letE hx13 h
      refine sx_istore_n (pc := 37) (lo' := [(3, .int x13), (2, .int x12), (0, .ref 69), (1, .int l1)]) dX5_rollTop_37 (by decide) rfl ?_
      refine sx_wk (sx_s1 sx_m2 (sx_s1 sx_m1 (sx_s1 sx_m0 sx_s0))) ?_
      exact tL_X5_rollTop_38 hG hP  N _ _ _ h
    · have h := sx_neg c10 h
      refine sx_aload_n (pc := 13) dX5_rollTop_13 sx_m0 ?_
      refine sx_iconst (pc := 14) (v := 1) dX5_rollTop_14 (by decide) ?_
      obtain ⟨V14, hV14⟩ : ∃ z : sv_V, z = sv_I V 69 14 (1 : Int32) := ⟨_, rfl⟩
      have h := sx_letE hV14 h
      refine sv_putI (pc := 15) hG dX5_rollTop_15 f_5_56 lay_69 rfl hV14 ?_
      exact sv_vret (pc := 18) dX5_rollTop_18 rfl h hP
def ncX5_reachBelow : Nat := 1968379157621166654042712254097778410744328122734935626984517893064792660743226258460245251552818939957313970674385664222396602693162
theorem kcX5_reachBelow : CK cX5_reachBelow ncX5_reachBelow 55 := ⟨by decide +kernel, by decide +kernel⟩
theorem dX5_reachBelow_0 : decode cX5_reachBelow 0 = .ok (.aload_n 0, 1) := dl_o42 kcX5_reachBelow (by decide +kernel)
theorem dX5_reachBelow_1 : decode cX5_reachBelow 1 = .ok (.invokevirtual 242, 3) := dl_o182 kcX5_reachBelow (by decide +kernel)
theorem dX5_reachBelow_4 : decode cX5_reachBelow 4 = .ok (.istore_n 2, 1) := dl_o61 kcX5_reachBelow (by decide +kernel)
theorem dX5_reachBelow_5 : decode cX5_reachBelow 5 = .ok (.iload_n 2, 1) := dl_o28 kcX5_reachBelow (by decide +kernel)
theorem dX5_reachBelow_6 : decode cX5_reachBelow 6 = .ok (.iconst 1, 1) := dl_o4 kcX5_reachBelow (by decide +kernel)
theorem dX5_reachBelow_7 : decode cX5_reachBelow 7 = .ok (.if_icmp .lt 11, 3) := dl_o161 kcX5_reachBelow 11 (by decide +kernel) (by decide +kernel)
theorem dX5_reachBelow_10 : decode cX5_reachBelow 10 = .ok (.iload_n 2, 1) := dl_o28 kcX5_reachBelow (by decide +kernel)
theorem dX5_reachBelow_11 : decode cX5_reachBelow 11 = .ok (.aload_n 0, 1) := dl_o42 kcX5_reachBelow (by decide +kernel)
theorem dX5_reachBelow_12 : decode cX5_reachBelow 12 = .ok (.getfield 96, 3) := dl_o180 kcX5_reachBelow (by decide +kernel)
theorem dX5_reachBelow_15 : decode cX5_reachBelow 15 = .ok (.if_icmp .le 9, 3) := dl_o164 kcX5_reachBelow 9 (by decide +kernel) (by decide +kernel)
theorem dX5_reachBelow_18 : decode cX5_reachBelow 18 = .ok (.aload_n 0, 1) := dl_o42 kcX5_reachBelow (by decide +kernel)
theorem dX5_reachBelow_19 : decode cX5_reachBelow 19 = .ok (.iconst 1, 1) := dl_o4 kcX5_reachBelow (by decide +kernel)
theorem dX5_reachBelow_20 : decode cX5_reachBelow 20 = .ok (.putfield 56, 3) := dl_o181 kcX5_reachBelow (by decide +kernel)
theorem dX5_reachBelow_23 : decode cX5_reachBelow 23 = .ok (.return_, 1) := dl_o177 kcX5_reachBelow (by decide +kernel)
theorem dX5_reachBelow_24 : decode cX5_reachBelow 24 = .ok (.iload_n 1, 1) := dl_o27 kcX5_reachBelow (by decide +kernel)
theorem dX5_reachBelow_25 : decode cX5_reachBelow 25 = .ok (.bipush 37, 2) := dl_o16 kcX5_reachBelow 37 (by decide +kernel) (by decide +kernel)
theorem dX5_reachBelow_27 : decode cX5_reachBelow 27 = .ok (.if_icmp .ne 22, 3) := dl_o160 kcX5_reachBelow 22 (by decide +kernel) (by decide +kernel)
theorem dX5_reachBelow_30 : decode cX5_reachBelow 30 = .ok (.aload_n 0, 1) := dl_o42 kcX5_reachBelow (by decide +kernel)
theorem dX5_reachBelow_31 : decode cX5_reachBelow 31 = .ok (.aload_n 0, 1) := dl_o42 kcX5_reachBelow (by decide +kernel)
theorem dX5_reachBelow_32 : decode cX5_reachBelow 32 = .ok (.getfield 34, 3) := dl_o180 kcX5_reachBelow (by decide +kernel)
theorem dX5_reachBelow_35 : decode cX5_reachBelow 35 = .ok (.aload_n 0, 1) := dl_o42 kcX5_reachBelow (by decide +kernel)
theorem dX5_reachBelow_36 : decode cX5_reachBelow 36 = .ok (.getfield 96, 3) := dl_o180 kcX5_reachBelow (by decide +kernel)
theorem dX5_reachBelow_39 : decode cX5_reachBelow 39 = .ok (.iload_n 2, 1) := dl_o28 kcX5_reachBelow (by decide +kernel)
theorem dX5_reachBelow_40 : decode cX5_reachBelow 40 = .ok (.isub, 1) := dl_o100 kcX5_reachBelow (by decide +kernel)
theorem dX5_reachBelow_41 : decode cX5_reachBelow 41 = .ok (.iaload, 1) := dl_o46 kcX5_reachBelow (by decide +kernel)
theorem dX5_reachBelow_42 : decode cX5_reachBelow 42 = .ok (.i2l, 1) := dl_o133 kcX5_reachBelow (by decide +kernel)
theorem dX5_reachBelow_43 : decode cX5_reachBelow 43 = .ok (.invokevirtual 232, 3) := dl_o182 kcX5_reachBelow (by decide +kernel)
theorem dX5_reachBelow_46 : decode cX5_reachBelow 46 = .ok (.goto 8, 3) := dl_o167 kcX5_reachBelow 8 (by decide +kernel) (by decide +kernel)
theorem dX5_reachBelow_49 : decode cX5_reachBelow 49 = .ok (.aload_n 0, 1) := dl_o42 kcX5_reachBelow (by decide +kernel)
theorem dX5_reachBelow_50 : decode cX5_reachBelow 50 = .ok (.iload_n 2, 1) := dl_o28 kcX5_reachBelow (by decide +kernel)
theorem dX5_reachBelow_51 : decode cX5_reachBelow 51 = .ok (.invokevirtual 379, 3) := dl_o182 kcX5_reachBelow (by decide +kernel)
theorem dX5_reachBelow_54 : decode cX5_reachBelow 54 = .ok (.return_, 1) := dl_o177 kcX5_reachBelow (by decide +kernel)
def F_X5_reachBelow (N : Nat) (l1 : Int32) (V : sv_V) : Option sv_V := (F_X5_pop  V).bind (fun (x3, V1) => if x3 < (1 : Int32) then (sx_let (sv_I V1 69 14 (1 : Int32)) (fun V5 => some V5)) else (if x3 ≤ (V1.1 69 5) then (if l1 = (37 : Int32) then (if sx_in ((V1.1 69 5) - x3) 256 = true then (F_X5_push ((V1.1 92 ((V1.1 69 5) - x3).toNatClampNeg).toInt64) V1).bind (fun V11 => some V11) else none) else ((F_X5_rollTop N x3 V1).bind (fun V8 => some V8))) else (sx_let (sv_I V1 69 14 (1 : Int32)) (fun V13 => some V13))))
set_option maxRecDepth 20000 in
theorem t_X5_reachBelow {g : sx_G} (hG : sx_Go g) {P : Option Value → sv_V → Prop} {Vr : sv_V} (hP : P none Vr) {N : Nat} {l1 : Int32} {V : sv_V} (h : F_X5_reachBelow N l1 V = some Vr) : sv_N g qX5_reachBelow 1 0 [(0, .ref 69), (1, .int l1)] [] V P := by
  unfold F_X5_reachBelow at h
  refine sx_aload_n (pc := 0) dX5_reachBelow_0 sx_m0 ?_
  obtain ⟨⟨x3, V1⟩, g2, h⟩ := sx_bnd h
  refine sv_cV (pc := 1) (y := qX5_pop) (o := (some (.int x3))) (as := []) (V1 := V1) hG dX5_reachBelow_1 l_X5_242 y0X5_pop yvX5_pop rfl (Nat.le_of_ble_eq_true rfl) lay_69 kr_5 (by decide) (Nat.le_of_ble_eq_true rfl) rfl rfl rfl (t_X5_pop hG ⟨rfl, rfl⟩ g2) ?_
  refine sx_istore_n (pc := 4) (lo' := [(2, .int x3), (0, .ref 69), (1, .int l1)]) dX5_reachBelow_4 (by decide) rfl ?_
  refine sx_iload_n (pc := 5) dX5_reachBelow_5 sx_m0 ?_
  refine sx_iconst (pc := 6) (v := 1) dX5_reachBelow_6 (by decide) ?_
  refine sx_icmp_lt (pc := 7) (tgt := 18) dX5_reachBelow_7 (by decide) (fun c4 => ?_) (fun c4 => ?_)
  · have h := sx_pos c4 h
    refine sx_aload_n (pc := 18) dX5_reachBelow_18 sx_m1 ?_
    refine sx_iconst (pc := 19) (v := 1) dX5_reachBelow_19 (by decide) ?_
    obtain ⟨V5, hV5⟩ : ∃ z : sv_V, z = sv_I V1 69 14 (1 : Int32) := ⟨_, rfl⟩
    have h := sx_letE hV5 h
    refine sv_putI (pc := 20) hG dX5_reachBelow_20 f_5_56 lay_69 rfl hV5 ?_
    exact sv_vret (pc := 23) dX5_reachBelow_23 rfl h hP
  · have h := sx_neg c4 h
    refine sx_iload_n (pc := 10) dX5_reachBelow_10 sx_m0 ?_
    refine sx_aload_n (pc := 11) dX5_reachBelow_11 sx_m1 ?_
    refine sv_getI (pc := 12) hG dX5_reachBelow_12 f_5_96 lay_69 rfl ?_
    refine sx_icmp_le (pc := 15) (tgt := 24) dX5_reachBelow_15 (by decide) (fun c6 => ?_) (fun c6 => ?_)
    · have h := sx_pos c6 h
      refine sx_iload_n (pc := 24) dX5_reachBelow_24 sx_m2 ?_
      refine sx_bipush (pc := 25) (v := 37) dX5_reachBelow_25 (by decide) ?_
      refine sx_icmp_ne (pc := 27) (tgt := 49) dX5_reachBelow_27 (by decide) (fun c7 => ?_) (fun c7 => ?_)
      · have h := sx_neg c7 h
        refine sx_aload_n (pc := 49) dX5_reachBelow_49 sx_m1 ?_
        refine sx_iload_n (pc := 50) dX5_reachBelow_50 sx_m0 ?_
        obtain ⟨V8, g9, h⟩ := sx_bnd h
        refine sv_cV (pc := 51) (y := qX5_rollTop) (o := none) (as := [.int x3]) (V1 := V8) hG dX5_reachBelow_51 l_X5_379 y0X5_rollTop yvX5_rollTop rfl (Nat.le_of_ble_eq_true rfl) lay_69 kr_5 (by decide) (Nat.le_of_ble_eq_true rfl) rfl rfl rfl (t_X5_rollTop hG ⟨rfl, rfl⟩ g9) ?_
        exact sv_vret (pc := 54) dX5_reachBelow_54 rfl h hP
      · have h := sx_pos c7 h
        refine sx_aload_n (pc := 30) dX5_reachBelow_30 sx_m1 ?_
        refine sx_aload_n (pc := 31) dX5_reachBelow_31 sx_m1 ?_
        refine sv_getA (pc := 32) hG dX5_reachBelow_32 f_5_34 lay_69 rfl cr_69_4 ?_
        refine sx_aload_n (pc := 35) dX5_reachBelow_35 sx_m1 ?_
        refine sv_getI (pc := 36) hG dX5_reachBelow_36 f_5_96 lay_69 rfl ?_
        refine sx_iload_n (pc := 39) dX5_reachBelow_39 sx_m0 ?_
        refine sx_isub (pc := 40) dX5_reachBelow_40 ?_
        obtain ⟨g10, h⟩ := sx_grd h
        refine sv_iald (pc := 41) hG dX5_reachBelow_41 lay_92 g10 ?_
        refine sx_i2l (pc := 42) dX5_reachBelow_42 ?_
        obtain ⟨V11, g12, h⟩ := sx_bnd h
        refine sv_cV (pc := 43) (y := qX5_push) (o := none) (as := [.long ((V1.1 92 ((V1.1 69 5) - x3).toNatClampNeg).toInt64)]) (V1 := V11) hG dX5_reachBelow_43 l_X5_232 y0X5_push yvX5_push rfl (Nat.le_of_ble_eq_true rfl) lay_69 kr_5 (by decide) (Nat.le_of_ble_eq_true rfl) rfl rfl rfl (t_X5_push hG ⟨rfl, rfl⟩ g12) ?_
        refine sx_goto (pc := 46) (tgt := 54) dX5_reachBelow_46 (by decide) ?_
        exact sv_vret (pc := 54) dX5_reachBelow_54 rfl h hP
    · have h := sx_neg c6 h
      refine sx_aload_n (pc := 18) dX5_reachBelow_18 sx_m1 ?_
      refine sx_iconst (pc := 19) (v := 1) dX5_reachBelow_19 (by decide) ?_
      obtain ⟨V13, hV13⟩ : ∃ z : sv_V, z = sv_I V1 69 14 (1 : Int32) := ⟨_, rfl⟩
      have h := sx_letE hV13 h
      refine sv_putI (pc := 20) hG dX5_reachBelow_20 f_5_56 lay_69 rfl hV13 ?_
      exact sv_vret (pc := 23) dX5_reachBelow_23 rfl h hP
def ncX5_pushBehind : Nat := 58441957388805455833861554895451294689809314273482259646453155980087174665854475443380045113781222293816897429951933617138166908019736636435048683456842071081747547694273857486662378704455426060029016412577117226
theorem kcX5_pushBehind : CK cX5_pushBehind ncX5_pushBehind 88 := ⟨by decide +kernel, by decide +kernel⟩
theorem dX5_pushBehind_0 : decode cX5_pushBehind 0 = .ok (.aload_n 0, 1) := dl_o42 kcX5_pushBehind (by decide +kernel)
theorem dX5_pushBehind_1 : decode cX5_pushBehind 1 = .ok (.getfield 93, 3) := dl_o180 kcX5_pushBehind (by decide +kernel)
theorem dX5_pushBehind_4 : decode cX5_pushBehind 4 = .ok (.iload_n 1, 1) := dl_o27 kcX5_pushBehind (by decide +kernel)
theorem dX5_pushBehind_5 : decode cX5_pushBehind 5 = .ok (.iload_n 2, 1) := dl_o28 kcX5_pushBehind (by decide +kernel)
theorem dX5_pushBehind_6 : decode cX5_pushBehind 6 = .ok (.imul, 1) := dl_o104 kcX5_pushBehind (by decide +kernel)
theorem dX5_pushBehind_7 : decode cX5_pushBehind 7 = .ok (.iadd, 1) := dl_o96 kcX5_pushBehind (by decide +kernel)
theorem dX5_pushBehind_8 : decode cX5_pushBehind 8 = .ok (.aload_n 0, 1) := dl_o42 kcX5_pushBehind (by decide +kernel)
theorem dX5_pushBehind_9 : decode cX5_pushBehind 9 = .ok (.getfield 90, 3) := dl_o180 kcX5_pushBehind (by decide +kernel)
theorem dX5_pushBehind_12 : decode cX5_pushBehind 12 = .ok (.if_icmp .le 9, 3) := dl_o164 kcX5_pushBehind 9 (by decide +kernel) (by decide +kernel)
theorem dX5_pushBehind_15 : decode cX5_pushBehind 15 = .ok (.aload_n 0, 1) := dl_o42 kcX5_pushBehind (by decide +kernel)
theorem dX5_pushBehind_16 : decode cX5_pushBehind 16 = .ok (.iconst 4, 1) := dl_o7 kcX5_pushBehind (by decide +kernel)
theorem dX5_pushBehind_17 : decode cX5_pushBehind 17 = .ok (.putfield 56, 3) := dl_o181 kcX5_pushBehind (by decide +kernel)
theorem dX5_pushBehind_20 : decode cX5_pushBehind 20 = .ok (.return_, 1) := dl_o177 kcX5_pushBehind (by decide +kernel)
theorem dX5_pushBehind_21 : decode cX5_pushBehind 21 = .ok (.iconst 0, 1) := dl_o3 kcX5_pushBehind (by decide +kernel)
theorem dX5_pushBehind_22 : decode cX5_pushBehind 22 = .ok (.istore_n 3, 1) := dl_o62 kcX5_pushBehind (by decide +kernel)
theorem dX5_pushBehind_23 : decode cX5_pushBehind 23 = .ok (.iload_n 3, 1) := dl_o29 kcX5_pushBehind (by decide +kernel)
theorem dX5_pushBehind_24 : decode cX5_pushBehind 24 = .ok (.iload_n 1, 1) := dl_o27 kcX5_pushBehind (by decide +kernel)
theorem dX5_pushBehind_25 : decode cX5_pushBehind 25 = .ok (.if_icmp .ge 62, 3) := dl_o162 kcX5_pushBehind 62 (by decide +kernel) (by decide +kernel)
theorem dX5_pushBehind_28 : decode cX5_pushBehind 28 = .ok (.aload_n 0, 1) := dl_o42 kcX5_pushBehind (by decide +kernel)
theorem dX5_pushBehind_29 : decode cX5_pushBehind 29 = .ok (.getfield 56, 3) := dl_o180 kcX5_pushBehind (by decide +kernel)
theorem dX5_pushBehind_32 : decode cX5_pushBehind 32 = .ok (.ifCond .ne 55, 3) := dl_o154 kcX5_pushBehind 55 (by decide +kernel) (by decide +kernel)
theorem dX5_pushBehind_35 : decode cX5_pushBehind 35 = .ok (.aload_n 0, 1) := dl_o42 kcX5_pushBehind (by decide +kernel)
theorem dX5_pushBehind_36 : decode cX5_pushBehind 36 = .ok (.iload_n 2, 1) := dl_o28 kcX5_pushBehind (by decide +kernel)
theorem dX5_pushBehind_37 : decode cX5_pushBehind 37 = .ok (.iconst 1, 1) := dl_o4 kcX5_pushBehind (by decide +kernel)
theorem dX5_pushBehind_38 : decode cX5_pushBehind 38 = .ok (.if_icmp .ne 18, 3) := dl_o160 kcX5_pushBehind 18 (by decide +kernel) (by decide +kernel)
theorem dX5_pushBehind_41 : decode cX5_pushBehind 41 = .ok (.aload_n 0, 1) := dl_o42 kcX5_pushBehind (by decide +kernel)
theorem dX5_pushBehind_42 : decode cX5_pushBehind 42 = .ok (.getfield 45, 3) := dl_o180 kcX5_pushBehind (by decide +kernel)
theorem dX5_pushBehind_45 : decode cX5_pushBehind 45 = .ok (.aload_n 0, 1) := dl_o42 kcX5_pushBehind (by decide +kernel)
theorem dX5_pushBehind_46 : decode cX5_pushBehind 46 = .ok (.getfield 93, 3) := dl_o180 kcX5_pushBehind (by decide +kernel)
theorem dX5_pushBehind_49 : decode cX5_pushBehind 49 = .ok (.invokevirtual 156, 3) := dl_o182 kcX5_pushBehind (by decide +kernel)
theorem dX5_pushBehind_52 : decode cX5_pushBehind 52 = .ok (.i2l, 1) := dl_o133 kcX5_pushBehind (by decide +kernel)
theorem dX5_pushBehind_53 : decode cX5_pushBehind 53 = .ok (.goto 15, 3) := dl_o167 kcX5_pushBehind 15 (by decide +kernel) (by decide +kernel)
theorem dX5_pushBehind_56 : decode cX5_pushBehind 56 = .ok (.aload_n 0, 1) := dl_o42 kcX5_pushBehind (by decide +kernel)
theorem dX5_pushBehind_57 : decode cX5_pushBehind 57 = .ok (.getfield 45, 3) := dl_o180 kcX5_pushBehind (by decide +kernel)
theorem dX5_pushBehind_60 : decode cX5_pushBehind 60 = .ok (.aload_n 0, 1) := dl_o42 kcX5_pushBehind (by decide +kernel)
theorem dX5_pushBehind_61 : decode cX5_pushBehind 61 = .ok (.getfield 93, 3) := dl_o180 kcX5_pushBehind (by decide +kernel)
theorem dX5_pushBehind_64 : decode cX5_pushBehind 64 = .ok (.invokevirtual 391, 3) := dl_o182 kcX5_pushBehind (by decide +kernel)
theorem dX5_pushBehind_67 : decode cX5_pushBehind 67 = .ok (.i2l, 1) := dl_o133 kcX5_pushBehind (by decide +kernel)
theorem dX5_pushBehind_68 : decode cX5_pushBehind 68 = .ok (.invokevirtual 232, 3) := dl_o182 kcX5_pushBehind (by decide +kernel)
theorem dX5_pushBehind_71 : decode cX5_pushBehind 71 = .ok (.aload_n 0, 1) := dl_o42 kcX5_pushBehind (by decide +kernel)
theorem dX5_pushBehind_72 : decode cX5_pushBehind 72 = .ok (.dup, 1) := dl_o89 kcX5_pushBehind (by decide +kernel)
theorem dX5_pushBehind_73 : decode cX5_pushBehind 73 = .ok (.getfield 93, 3) := dl_o180 kcX5_pushBehind (by decide +kernel)
theorem dX5_pushBehind_76 : decode cX5_pushBehind 76 = .ok (.iload_n 2, 1) := dl_o28 kcX5_pushBehind (by decide +kernel)
theorem dX5_pushBehind_77 : decode cX5_pushBehind 77 = .ok (.iadd, 1) := dl_o96 kcX5_pushBehind (by decide +kernel)
theorem dX5_pushBehind_78 : decode cX5_pushBehind 78 = .ok (.putfield 93, 3) := dl_o181 kcX5_pushBehind (by decide +kernel)
theorem dX5_pushBehind_81 : decode cX5_pushBehind 81 = .ok (.iinc 3 1, 3) := by decide +kernel
theorem dX5_pushBehind_84 : decode cX5_pushBehind 84 = .ok (.goto (-61), 3) := dl_o167 kcX5_pushBehind 65475 (by decide +kernel) (by decide +kernel)
theorem dX5_pushBehind_87 : decode cX5_pushBehind 87 = .ok (.return_, 1) := dl_o177 kcX5_pushBehind (by decide +kernel)
def B_X5_pushBehind_68 (N : Nat) (k23 : Int32 → Int32 → Int32 → sv_V → Option sv_V) (l1 : Int32) (l2 : Int32) (l3 : Int32) (s1 : Int64) (V : sv_V) : Option sv_V := (F_X5_push s1 V).bind (fun V1 => sx_let (sv_I V1 69 11 ((V1.1 69 11) + l2)) (fun V3 => sx_let (l3 + 1) (fun x4 => k23 l1 l2 x4 V3)))
set_option maxRecDepth 20000 in
theorem tB_X5_pushBehind_68 {g : sx_G} (hG : sx_Go g) {P : Option Value → sv_V → Prop} {Vr : sv_V} (hP : P none Vr) {N : Nat} {k23 : Int32 → Int32 → Int32 → sv_V → Option sv_V} (hk23 : ∀ (l1 : Int32) (l2 : Int32) (l3 : Int32) (V : sv_V), k23 l1 l2 l3 V = some Vr → sv_N g qX5_pushBehind 1 23 [(0, .ref 69), (1, .int l1), (2, .int l2), (3, .int l3)] [] V P) {l1 : Int32} {l2 : Int32} {l3 : Int32} {s1 : Int64} {V : sv_V} (h : B_X5_pushBehind_68 N k23 l1 l2 l3 s1 V = some Vr) : sv_N g qX5_pushBehind 1 68 [(0, .ref 69), (1, .int l1), (2, .int l2), (3, .int l3)] [.long s1, .ref 69] V P := by
  unfold B_X5_pushBehind_68 at h
  obtain ⟨V1, g2, h⟩ := sx_bnd h
  refine sv_cV (pc := 68) (y := qX5_push) (o := none) (as := [.long s1]) (V1 := V1) hG dX5_pushBehind_68 l_X5_232 y0X5_push yvX5_push rfl (Nat.le_of_ble_eq_true rfl) lay_69 kr_5 (by decide) (Nat.le_of_ble_eq_true rfl) rfl rfl rfl (t_X5_push hG ⟨rfl, rfl⟩ g2) ?_
  refine sx_aload_n (pc := 71) dX5_pushBehind_71 sx_m0 ?_
  refine sx_dup (pc := 72) dX5_pushBehind_72 rfl ?_
  refine sv_getI (pc := 73) hG dX5_pushBehind_73 f_5_93 lay_69 rfl ?_
  refine sx_iload_n (pc := 76) dX5_pushBehind_76 sx_m2 ?_
  refine sx_iadd (pc := 77) dX5_pushBehind_77 ?_
  obtain ⟨V3, hV3⟩ : ∃ z : sv_V, z = sv_I V1 69 11 ((V1.1 69 11) + l2) := ⟨_, rfl⟩
  have h := sx_letE hV3 h
  refine sv_putI (pc := 78) hG dX5_pushBehind_78 f_5_93 lay_69 rfl hV3 ?_
  obtain ⟨x4, hx4⟩ : ∃ z : Int32, z = l3 + 1 := ⟨_, rfl⟩
  have h := sx_letE hx4 h
  refine sx_iinc (pc := 81) (v := x4) (lo' := [(3, .int x4), (0, .ref 69), (1, .int l1), (2, .int l2)]) dX5_pushBehind_81 sx_m3 (by rw [hx4]; rfl) (by decide) rfl ?_
  refine sx_goto (pc := 84) (tgt := 23) dX5_pushBehind_84 (by decide) ?_
  refine sx_wk (sx_s1 sx_m1 (sx_s1 sx_m2 (sx_s1 sx_m3 (sx_s1 sx_m0 sx_s0)))) ?_
  exact hk23 _ _ _ _ h
def B_X5_pushBehind_23 (N : Nat) (k23 : Int32 → Int32 → Int32 → sv_V → Option sv_V) (l1 : Int32) (l2 : Int32) (l3 : Int32) (V : sv_V) : Option sv_V := if l1 ≤ l3 then (some V) else (if (V.1 69 14) = 0 then (if l2 = (1 : Int32) then ((F_X2_u1 (V.1 69 11) V).bind (fun (x13, V11) => B_X5_pushBehind_68 N k23 l1 l2 l3 x13.toInt64 V11)) else ((F_X2_s2 (V.1 69 11) V).bind (fun (x10, V8) => B_X5_pushBehind_68 N k23 l1 l2 l3 x10.toInt64 V8))) else (some V))
set_option maxRecDepth 20000 in
theorem tB_X5_pushBehind_23 {g : sx_G} (hG : sx_Go g) {P : Option Value → sv_V → Prop} {Vr : sv_V} (hP : P none Vr) {N : Nat} {k23 : Int32 → Int32 → Int32 → sv_V → Option sv_V} (hk23 : ∀ (l1 : Int32) (l2 : Int32) (l3 : Int32) (V : sv_V), k23 l1 l2 l3 V = some Vr → sv_N g qX5_pushBehind 1 23 [(0, .ref 69), (1, .int l1), (2, .int l2), (3, .int l3)] [] V P) {l1 : Int32} {l2 : Int32} {l3 : Int32} {V : sv_V} (h : B_X5_pushBehind_23 N k23 l1 l2 l3 V = some Vr) : sv_N g qX5_pushBehind 1 23 [(0, .ref 69), (1, .int l1), (2, .int l2), (3, .int l3)] [] V P := by
  unfold B_X5_pushBehind_23 at h
  refine sx_iload_n (pc := 23) dX5_pushBehind_23 sx_m3 ?_
  refine sx_iload_n (pc := 24) dX5_pushBehind_24 sx_m1 ?_
  refine sx_icmp_ge (pc := 25) (tgt := 87) dX5_pushBehind_25 (by decide) (fun c5 => ?_) (fun c5 => ?_)
  · have h := sx_pos c5 h
    exact sv_vret (pc := 87) dX5_pushBehind_87 rfl h hP
  · have h := sx_neg c5 h
    refine sx_aload_n (pc := 28) dX5_pushBehind_28 sx_m0 ?_
    refine sv_getI (pc := 29) hG dX5_pushBehind_29 f_5_56 lay_69 rfl ?_
    refine sx_if_ne (pc := 32) (tgt := 87) dX5_pushBehind_32 (by decide) (fun c6 => ?_) (fun c6 => ?_)
    · have h := sx_neg c6 h
      exact sv_vret (pc := 87) dX5_pushBehind_87 rfl h hP
    · have h := sx_pos c6 h
      refine sx_aload_n (pc := 35) dX5_pushBehind_35 sx_m0 ?_
      refine sx_iload_n (pc := 36) dX5_pushBehind_36 sx_m2 ?_
      refine sx_iconst (pc := 37) (v := 1) dX5_pushBehind_37 (by decide) ?_
      refine sx_icmp_ne (pc := 38) (tgt := 56) dX5_pushBehind_38 (by decide) (fun c7 => ?_) (fun c7 => ?_)
      · have h := sx_neg c7 h
        refine sx_aload_n (pc := 56) dX5_pushBehind_56 sx_m0 ?_
        refine sv_getO (pc := 57) hG dX5_pushBehind_57 f_5_45 lay_69 rfl cr_69_0 ?_
        refine sx_aload_n (pc := 60) dX5_pushBehind_60 sx_m0 ?_
        refine sv_getI (pc := 61) hG dX5_pushBehind_61 f_5_93 lay_69 rfl ?_
        obtain ⟨⟨x10, V8⟩, g9, h⟩ := sx_bnd h
        refine sv_cV (pc := 64) (y := qX2_s2) (o := (some (.int x10))) (as := [.int (V.1 69 11)]) (V1 := V8) hG dX5_pushBehind_64 l_X5_391 y0X2_s2 yvX2_s2 rfl (Nat.le_of_ble_eq_true rfl) lay_2 kr_2 (by decide) (Nat.le_of_ble_eq_true rfl) rfl rfl rfl (t_X2_s2 hG ⟨rfl, rfl⟩ g9) ?_
        refine sx_i2l (pc := 67) dX5_pushBehind_67 ?_
        refine sx_wk (sx_s1 sx_m0 (sx_s1 sx_m1 (sx_s1 sx_m2 (sx_s1 sx_m3 sx_s0)))) ?_
        exact tB_X5_pushBehind_68 hG hP hk23 h
      · have h := sx_pos c7 h
        refine sx_aload_n (pc := 41) dX5_pushBehind_41 sx_m0 ?_
        refine sv_getO (pc := 42) hG dX5_pushBehind_42 f_5_45 lay_69 rfl cr_69_0 ?_
        refine sx_aload_n (pc := 45) dX5_pushBehind_45 sx_m0 ?_
        refine sv_getI (pc := 46) hG dX5_pushBehind_46 f_5_93 lay_69 rfl ?_
        obtain ⟨⟨x13, V11⟩, g12, h⟩ := sx_bnd h
        refine sv_cV (pc := 49) (y := qX2_u1) (o := (some (.int x13))) (as := [.int (V.1 69 11)]) (V1 := V11) hG dX5_pushBehind_49 l_X5_156 y0X2_u1 yvX2_u1 rfl (Nat.le_of_ble_eq_true rfl) lay_2 kr_2 (by decide) (Nat.le_of_ble_eq_true rfl) rfl rfl rfl (t_X2_u1 hG ⟨rfl, rfl⟩ g12) ?_
        refine sx_i2l (pc := 52) dX5_pushBehind_52 ?_
        refine sx_goto (pc := 53) (tgt := 68) dX5_pushBehind_53 (by decide) ?_
        refine sx_wk (sx_s1 sx_m0 (sx_s1 sx_m1 (sx_s1 sx_m2 (sx_s1 sx_m3 sx_s0)))) ?_
        exact tB_X5_pushBehind_68 hG hP hk23 h
theorem tL_X5_pushBehind_23 {g : sx_G} (hG : sx_Go g) {P : Option Value → sv_V → Prop} {Vr : sv_V} (hP : P none Vr) {N : Nat}   : ∀ (n : Nat) (l1 : Int32) (l2 : Int32) (l3 : Int32) (V : sv_V), sx_lp4 (B_X5_pushBehind_23 N ) n l1 l2 l3 V = some Vr → sv_N g qX5_pushBehind 1 23 [(0, .ref 69), (1, .int l1), (2, .int l2), (3, .int l3)] [] V P :=
  sx_lp4_ind (fun k0 ih _ _ _ V h => tB_X5_pushBehind_23 hG hP ih h)
def F_X5_pushBehind (N : Nat) (l1 : Int32) (l2 : Int32) (V : sv_V) : Option sv_V := if ((V.1 69 11) + (l1 * l2)) ≤ (V.1 69 10) then (sx_lp4 (B_X5_pushBehind_23 N ) N l1 l2 (0 : Int32) V) else (sx_let (sv_I V 69 14 (4 : Int32)) (fun V15 => some V15))
set_option maxRecDepth 20000 in
theorem t_X5_pushBehind {g : sx_G} (hG : sx_Go g) {P : Option Value → sv_V → Prop} {Vr : sv_V} (hP : P none Vr) {N : Nat} {l1 : Int32} {l2 : Int32} {V : sv_V} (h : F_X5_pushBehind N l1 l2 V = some Vr) : sv_N g qX5_pushBehind 1 0 [(0, .ref 69), (1, .int l1), (2, .int l2)] [] V P := by
  unfold F_X5_pushBehind at h
  refine sx_aload_n (pc := 0) dX5_pushBehind_0 sx_m0 ?_
  refine sv_getI (pc := 1) hG dX5_pushBehind_1 f_5_93 lay_69 rfl ?_
  refine sx_iload_n (pc := 4) dX5_pushBehind_4 sx_m1 ?_
  refine sx_iload_n (pc := 5) dX5_pushBehind_5 sx_m2 ?_
  refine sx_imul (pc := 6) dX5_pushBehind_6 ?_
  refine sx_iadd (pc := 7) dX5_pushBehind_7 ?_
  refine sx_aload_n (pc := 8) dX5_pushBehind_8 sx_m0 ?_
  refine sv_getI (pc := 9) hG dX5_pushBehind_9 f_5_90 lay_69 rfl ?_
  refine sx_icmp_le (pc := 12) (tgt := 21) dX5_pushBehind_12 (by decide) (fun c14 => ?_) (fun c14 => ?_)
  · have h := sx_pos c14 h
    refine sx_iconst (pc := 21) (v := 0) dX5_pushBehind_21 (by decide) ?_
    refine sx_istore_n (pc := 22) (lo' := [(3, .int (0 : Int32)), (0, .ref 69), (1, .int l1), (2, .int l2)]) dX5_pushBehind_22 (by decide) rfl ?_
    refine sx_wk (sx_s1 sx_m1 (sx_s1 sx_m2 (sx_s1 sx_m3 (sx_s1 sx_m0 sx_s0)))) ?_
    exact tL_X5_pushBehind_23 hG hP  N _ _ _ _ h
  · have h := sx_neg c14 h
    refine sx_aload_n (pc := 15) dX5_pushBehind_15 sx_m0 ?_
    refine sx_iconst (pc := 16) (v := 4) dX5_pushBehind_16 (by decide) ?_
    obtain ⟨V15, hV15⟩ : ∃ z : sv_V, z = sv_I V 69 14 (4 : Int32) := ⟨_, rfl⟩
    have h := sx_letE hV15 h
    refine sv_putI (pc := 17) hG dX5_pushBehind_17 f_5_56 lay_69 rfl hV15 ?_
    exact sv_vret (pc := 20) dX5_pushBehind_20 rfl h hP
end
