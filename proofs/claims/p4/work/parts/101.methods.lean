/-! methods: X4_sumOf, X4_findTables, X4_headHolds, X4_maxpHolds, X4_hheaHolds, X4_hmtxHolds, X4_placeInGlyf, X4_locaHolds, X4_mapPlace, X4_noteMap, X4_byteMapHolds, X4_segmentsHold, X4_groupsHold -/
theorem dX4_sumOf_0 : decode cX4_sumOf 0 = .ok (.lconst 0, 1) := by decide +kernel
theorem dX4_sumOf_1 : decode cX4_sumOf 1 = .ok (.lstore 4, 2) := by decide +kernel
theorem dX4_sumOf_3 : decode cX4_sumOf 3 = .ok (.iconst 0, 1) := by decide +kernel
theorem dX4_sumOf_4 : decode cX4_sumOf 4 = .ok (.istore 6, 2) := by decide +kernel
theorem dX4_sumOf_6 : decode cX4_sumOf 6 = .ok (.iload 6, 2) := by decide +kernel
theorem dX4_sumOf_8 : decode cX4_sumOf 8 = .ok (.iload_n 2, 1) := by decide +kernel
theorem dX4_sumOf_9 : decode cX4_sumOf 9 = .ok (.if_icmp .ge 55, 3) := by decide +kernel
theorem dX4_sumOf_12 : decode cX4_sumOf 12 = .ok (.iload_n 3, 1) := by decide +kernel
theorem dX4_sumOf_13 : decode cX4_sumOf 13 = .ok (.ifCond .eq 17, 3) := by decide +kernel
theorem dX4_sumOf_16 : decode cX4_sumOf 16 = .ok (.iload 6, 2) := by decide +kernel
theorem dX4_sumOf_18 : decode cX4_sumOf 18 = .ok (.bipush 8, 2) := by decide +kernel
theorem dX4_sumOf_20 : decode cX4_sumOf 20 = .ok (.if_icmp .lt 10, 3) := by decide +kernel
theorem dX4_sumOf_23 : decode cX4_sumOf 23 = .ok (.iload 6, 2) := by decide +kernel
theorem dX4_sumOf_25 : decode cX4_sumOf 25 = .ok (.bipush 11, 2) := by decide +kernel
theorem dX4_sumOf_27 : decode cX4_sumOf 27 = .ok (.if_icmp .le 31, 3) := by decide +kernel
theorem dX4_sumOf_30 : decode cX4_sumOf 30 = .ok (.lload 4, 2) := by decide +kernel
theorem dX4_sumOf_32 : decode cX4_sumOf 32 = .ok (.aload_n 0, 1) := by decide +kernel
theorem dX4_sumOf_33 : decode cX4_sumOf 33 = .ok (.getfield 9, 3) := by decide +kernel
theorem dX4_sumOf_36 : decode cX4_sumOf 36 = .ok (.iload_n 1, 1) := by decide +kernel
theorem dX4_sumOf_37 : decode cX4_sumOf 37 = .ok (.iload 6, 2) := by decide +kernel
theorem dX4_sumOf_39 : decode cX4_sumOf 39 = .ok (.iadd, 1) := by decide +kernel
theorem dX4_sumOf_40 : decode cX4_sumOf 40 = .ok (.invokevirtual 110, 3) := by decide +kernel
theorem dX4_sumOf_43 : decode cX4_sumOf 43 = .ok (.i2l, 1) := by decide +kernel
theorem dX4_sumOf_44 : decode cX4_sumOf 44 = .ok (.bipush 24, 2) := by decide +kernel
theorem dX4_sumOf_46 : decode cX4_sumOf 46 = .ok (.bipush 8, 2) := by decide +kernel
theorem dX4_sumOf_48 : decode cX4_sumOf 48 = .ok (.iload 6, 2) := by decide +kernel
theorem dX4_sumOf_50 : decode cX4_sumOf 50 = .ok (.iconst 3, 1) := by decide +kernel
theorem dX4_sumOf_51 : decode cX4_sumOf 51 = .ok (.iand, 1) := by decide +kernel
theorem dX4_sumOf_52 : decode cX4_sumOf 52 = .ok (.imul, 1) := by decide +kernel
theorem dX4_sumOf_53 : decode cX4_sumOf 53 = .ok (.isub, 1) := by decide +kernel
theorem dX4_sumOf_54 : decode cX4_sumOf 54 = .ok (.lshl, 1) := by decide +kernel
theorem dX4_sumOf_55 : decode cX4_sumOf 55 = .ok (.ladd, 1) := by decide +kernel
theorem dX4_sumOf_56 : decode cX4_sumOf 56 = .ok (.lstore 4, 2) := by decide +kernel
theorem dX4_sumOf_58 : decode cX4_sumOf 58 = .ok (.iinc 6 1, 3) := by decide +kernel
theorem dX4_sumOf_61 : decode cX4_sumOf 61 = .ok (.goto (-55), 3) := by decide +kernel
theorem dX4_sumOf_64 : decode cX4_sumOf 64 = .ok (.lload 4, 2) := by decide +kernel
theorem dX4_sumOf_66 : decode cX4_sumOf 66 = .ok (.ldc2_w 113, 3) := by decide +kernel
theorem dX4_sumOf_69 : decode cX4_sumOf 69 = .ok (.land, 1) := by decide +kernel
theorem dX4_sumOf_70 : decode cX4_sumOf 70 = .ok (.lreturn, 1) := by decide +kernel
def B_X4_sumOf_58 (N : Nat) (k6 : Int32 → Int32 → Int32 → Int64 → Int32 → sv_V → Option (Int64 × sv_V)) (l1 : Int32) (l2 : Int32) (l3 : Int32) (l4 : Int64) (l6 : Int32) (V : sv_V) : Option (Int64 × sv_V) := sx_let (l6 + 1) (fun x1 => k6 l1 l2 l3 l4 x1 V)
set_option maxRecDepth 20000 in
theorem tB_X4_sumOf_58 {g : sx_G} (hG : sx_Go g) {P : Option Value → sv_V → Prop} {r : Int64} {Vr : sv_V} (hP : P (some (.long r)) Vr) {N : Nat} {k6 : Int32 → Int32 → Int32 → Int64 → Int32 → sv_V → Option (Int64 × sv_V)} (hk6 : ∀ (l1 : Int32) (l2 : Int32) (l3 : Int32) (l4 : Int64) (l6 : Int32) (V : sv_V), k6 l1 l2 l3 l4 l6 V = some (r, Vr) → sv_N g qX4_sumOf 1 6 [(0, .ref 29), (1, .int l1), (2, .int l2), (3, .int l3), (4, .long l4), (6, .int l6)] [] V P) {l1 : Int32} {l2 : Int32} {l3 : Int32} {l4 : Int64} {l6 : Int32} {V : sv_V} (h : B_X4_sumOf_58 N k6 l1 l2 l3 l4 l6 V = some (r, Vr)) : sv_N g qX4_sumOf 1 58 [(0, .ref 29), (1, .int l1), (2, .int l2), (3, .int l3), (4, .long l4), (6, .int l6)] [] V P := by
  unfold B_X4_sumOf_58 at h
  obtain ⟨x1, hx1⟩ : ∃ z : Int32, z = l6 + 1 := ⟨_, rfl⟩
  have h := sx_letE hx1 h
  refine sx_iinc (pc := 58) (v := x1) (lo' := [(6, .int x1), (0, .ref 29), (1, .int l1), (2, .int l2), (3, .int l3), (4, .long l4)]) dX4_sumOf_58 sx_m5 (by rw [hx1]; rfl) (by decide) rfl ?_
  refine sx_goto (pc := 61) (tgt := 6) dX4_sumOf_61 (by decide) ?_
  refine sx_wk (sx_s1 sx_m1 (sx_s1 sx_m2 (sx_s1 sx_m3 (sx_s1 sx_m4 (sx_s1 sx_m5 (sx_s1 sx_m0 sx_s0)))))) ?_
  exact hk6 _ _ _ _ _ _ h
def B_X4_sumOf_30 (N : Nat) (k6 : Int32 → Int32 → Int32 → Int64 → Int32 → sv_V → Option (Int64 × sv_V)) (l1 : Int32) (l2 : Int32) (l3 : Int32) (l4 : Int64) (l6 : Int32) (V : sv_V) : Option (Int64 × sv_V) := (F_X2_u1 (l1 + l6) V).bind (fun (x4, V2) => sx_let (l4 + (x4.toInt64 <<< (((24 : Int32) - ((8 : Int32) * (l6 &&& (3 : Int32)))).toInt64 &&& 63))) (fun x5 => B_X4_sumOf_58 N k6 l1 l2 l3 x5 l6 V2))
set_option maxRecDepth 20000 in
theorem tB_X4_sumOf_30 {g : sx_G} (hG : sx_Go g) {P : Option Value → sv_V → Prop} {r : Int64} {Vr : sv_V} (hP : P (some (.long r)) Vr) {N : Nat} {k6 : Int32 → Int32 → Int32 → Int64 → Int32 → sv_V → Option (Int64 × sv_V)} (hk6 : ∀ (l1 : Int32) (l2 : Int32) (l3 : Int32) (l4 : Int64) (l6 : Int32) (V : sv_V), k6 l1 l2 l3 l4 l6 V = some (r, Vr) → sv_N g qX4_sumOf 1 6 [(0, .ref 29), (1, .int l1), (2, .int l2), (3, .int l3), (4, .long l4), (6, .int l6)] [] V P) {l1 : Int32} {l2 : Int32} {l3 : Int32} {l4 : Int64} {l6 : Int32} {V : sv_V} (h : B_X4_sumOf_30 N k6 l1 l2 l3 l4 l6 V = some (r, Vr)) : sv_N g qX4_sumOf 1 30 [(0, .ref 29), (1, .int l1), (2, .int l2), (3, .int l3), (4, .long l4), (6, .int l6)] [] V P := by
  unfold B_X4_sumOf_30 at h
  refine sx_lload (pc := 30) dX4_sumOf_30 sx_m4 ?_
  refine sx_aload_n (pc := 32) dX4_sumOf_32 sx_m0 ?_
  refine sv_getO (pc := 33) hG dX4_sumOf_33 f_4_9 lay_29 rfl cr_29_0 ?_
  refine sx_iload_n (pc := 36) dX4_sumOf_36 sx_m1 ?_
  refine sx_iload (pc := 37) dX4_sumOf_37 sx_m5 ?_
  refine sx_iadd (pc := 39) dX4_sumOf_39 ?_
  obtain ⟨⟨x4, V2⟩, g3, h⟩ := sx_bnd h
  refine sv_cV (pc := 40) (y := qX2_u1) (o := (some (.int x4))) (as := [.int (l1 + l6)]) (V1 := V2) hG dX4_sumOf_40 l_X4_110 y0X2_u1 yvX2_u1 rfl (Nat.le_of_ble_eq_true rfl) lay_2 kr_2 (by decide) (Nat.le_of_ble_eq_true rfl) rfl rfl rfl (t_X2_u1 hG ⟨rfl, rfl⟩ g3) ?_
  refine sx_i2l (pc := 43) dX4_sumOf_43 ?_
  refine sx_bipush (pc := 44) (v := 24) dX4_sumOf_44 (by decide) ?_
  refine sx_bipush (pc := 46) (v := 8) dX4_sumOf_46 (by decide) ?_
  refine sx_iload (pc := 48) dX4_sumOf_48 sx_m5 ?_
  refine sx_iconst (pc := 50) (v := 3) dX4_sumOf_50 (by decide) ?_
  refine sx_iand (pc := 51) dX4_sumOf_51 ?_
  refine sx_imul (pc := 52) dX4_sumOf_52 ?_
  refine sx_isub (pc := 53) dX4_sumOf_53 ?_
  refine sx_lshl (pc := 54) dX4_sumOf_54 ?_
  refine sx_ladd (pc := 55) dX4_sumOf_55 ?_
  refine sv_tJ (fun x5 hx5 => ?_)
  have h := sx_letE hx5 h
  refine sx_lstore (pc := 56) (lo' := [(4, .long x5), (0, .ref 29), (1, .int l1), (2, .int l2), (3, .int l3), (6, .int l6)]) dX4_sumOf_56 (by decide) rfl ?_
  refine sx_wk (sx_s1 sx_m1 (sx_s1 sx_m2 (sx_s1 sx_m3 (sx_s1 sx_m4 (sx_s1 sx_m0 (sx_s1 sx_m5 sx_s0)))))) ?_
  exact tB_X4_sumOf_58 hG hP hk6 h
def B_X4_sumOf_6 (N : Nat) (k6 : Int32 → Int32 → Int32 → Int64 → Int32 → sv_V → Option (Int64 × sv_V)) (l1 : Int32) (l2 : Int32) (l3 : Int32) (l4 : Int64) (l6 : Int32) (V : sv_V) : Option (Int64 × sv_V) := if l2 ≤ l6 then (some (l4 &&& (4294967295 : Int64), V)) else (if l3 = 0 then (B_X4_sumOf_30 N k6 l1 l2 l3 l4 l6 V) else (if l6 < (8 : Int32) then (B_X4_sumOf_30 N k6 l1 l2 l3 l4 l6 V) else (if l6 ≤ (11 : Int32) then (B_X4_sumOf_58 N k6 l1 l2 l3 l4 l6 V) else (B_X4_sumOf_30 N k6 l1 l2 l3 l4 l6 V))))
set_option maxRecDepth 20000 in
theorem tB_X4_sumOf_6 {g : sx_G} (hG : sx_Go g) {P : Option Value → sv_V → Prop} {r : Int64} {Vr : sv_V} (hP : P (some (.long r)) Vr) {N : Nat} {k6 : Int32 → Int32 → Int32 → Int64 → Int32 → sv_V → Option (Int64 × sv_V)} (hk6 : ∀ (l1 : Int32) (l2 : Int32) (l3 : Int32) (l4 : Int64) (l6 : Int32) (V : sv_V), k6 l1 l2 l3 l4 l6 V = some (r, Vr) → sv_N g qX4_sumOf 1 6 [(0, .ref 29), (1, .int l1), (2, .int l2), (3, .int l3), (4, .long l4), (6, .int l6)] [] V P) {l1 : Int32} {l2 : Int32} {l3 : Int32} {l4 : Int64} {l6 : Int32} {V : sv_V} (h : B_X4_sumOf_6 N k6 l1 l2 l3 l4 l6 V = some (r, Vr)) : sv_N g qX4_sumOf 1 6 [(0, .ref 29), (1, .int l1), (2, .int l2), (3, .int l3), (4, .long l4), (6, .int l6)] [] V P := by
  unfold B_X4_sumOf_6 at h
  refine sx_iload (pc := 6) dX4_sumOf_6 sx_m5 ?_
  refine sx_iload_n (pc := 8) dX4_sumOf_8 sx_m2 ?_
  refine sx_icmp_ge (pc := 9) (tgt := 64) dX4_sumOf_9 (by decide) (fun c6 => ?_) (fun c6 => ?_)
  · have h := sx_pos c6 h
    refine sx_lload (pc := 64) dX4_sumOf_64 sx_m4 ?_
    refine sx_ldc2 (pc := 66) dX4_sumOf_66 k_X4_113 ?_
    refine sx_land (pc := 69) dX4_sumOf_69 ?_
    exact sv_lret (pc := 70) dX4_sumOf_70 rfl h hP
  · have h := sx_neg c6 h
    refine sx_iload_n (pc := 12) dX4_sumOf_12 sx_m3 ?_
    refine sx_if_eq (pc := 13) (tgt := 30) dX4_sumOf_13 (by decide) (fun c7 => ?_) (fun c7 => ?_)
    · have h := sx_pos c7 h
      refine sx_wk (sx_s1 sx_m0 (sx_s1 sx_m1 (sx_s1 sx_m2 (sx_s1 sx_m3 (sx_s1 sx_m4 (sx_s1 sx_m5 sx_s0)))))) ?_
      exact tB_X4_sumOf_30 hG hP hk6 h
    · have h := sx_neg c7 h
      refine sx_iload (pc := 16) dX4_sumOf_16 sx_m5 ?_
      refine sx_bipush (pc := 18) (v := 8) dX4_sumOf_18 (by decide) ?_
      refine sx_icmp_lt (pc := 20) (tgt := 30) dX4_sumOf_20 (by decide) (fun c8 => ?_) (fun c8 => ?_)
      · have h := sx_pos c8 h
        refine sx_wk (sx_s1 sx_m0 (sx_s1 sx_m1 (sx_s1 sx_m2 (sx_s1 sx_m3 (sx_s1 sx_m4 (sx_s1 sx_m5 sx_s0)))))) ?_
        exact tB_X4_sumOf_30 hG hP hk6 h
      · have h := sx_neg c8 h
        refine sx_iload (pc := 23) dX4_sumOf_23 sx_m5 ?_
        refine sx_bipush (pc := 25) (v := 11) dX4_sumOf_25 (by decide) ?_
        refine sx_icmp_le (pc := 27) (tgt := 58) dX4_sumOf_27 (by decide) (fun c9 => ?_) (fun c9 => ?_)
        · have h := sx_pos c9 h
          refine sx_wk (sx_s1 sx_m0 (sx_s1 sx_m1 (sx_s1 sx_m2 (sx_s1 sx_m3 (sx_s1 sx_m4 (sx_s1 sx_m5 sx_s0)))))) ?_
          exact tB_X4_sumOf_58 hG hP hk6 h
        · have h := sx_neg c9 h
          refine sx_wk (sx_s1 sx_m0 (sx_s1 sx_m1 (sx_s1 sx_m2 (sx_s1 sx_m3 (sx_s1 sx_m4 (sx_s1 sx_m5 sx_s0)))))) ?_
          exact tB_X4_sumOf_30 hG hP hk6 h
theorem tL_X4_sumOf_6 {g : sx_G} (hG : sx_Go g) {P : Option Value → sv_V → Prop} {r : Int64} {Vr : sv_V} (hP : P (some (.long r)) Vr) {N : Nat}   : ∀ (n : Nat) (l1 : Int32) (l2 : Int32) (l3 : Int32) (l4 : Int64) (l6 : Int32) (V : sv_V), sx_lp6 (B_X4_sumOf_6 N ) n l1 l2 l3 l4 l6 V = some (r, Vr) → sv_N g qX4_sumOf 1 6 [(0, .ref 29), (1, .int l1), (2, .int l2), (3, .int l3), (4, .long l4), (6, .int l6)] [] V P :=
  sx_lp6_ind (fun k0 ih _ _ _ _ _ V h => tB_X4_sumOf_6 hG hP ih h)
def F_X4_sumOf (N : Nat) (l1 : Int32) (l2 : Int32) (l3 : Int32) (V : sv_V) : Option (Int64 × sv_V) := sx_lp6 (B_X4_sumOf_6 N ) N l1 l2 l3 (0 : Int64) (0 : Int32) V
set_option maxRecDepth 20000 in
theorem t_X4_sumOf {g : sx_G} (hG : sx_Go g) {P : Option Value → sv_V → Prop} {r : Int64} {Vr : sv_V} (hP : P (some (.long r)) Vr) {N : Nat} {l1 : Int32} {l2 : Int32} {l3 : Int32} {V : sv_V} (h : F_X4_sumOf N l1 l2 l3 V = some (r, Vr)) : sv_N g qX4_sumOf 1 0 [(0, .ref 29), (1, .int l1), (2, .int l2), (3, .int l3)] [] V P := by
  unfold F_X4_sumOf at h
  refine sx_lconst (pc := 0) (v := 0) dX4_sumOf_0 rfl ?_
  refine sx_lstore (pc := 1) (lo' := [(4, .long (0 : Int64)), (0, .ref 29), (1, .int l1), (2, .int l2), (3, .int l3)]) dX4_sumOf_1 (by decide) rfl ?_
  refine sx_iconst (pc := 3) (v := 0) dX4_sumOf_3 (by decide) ?_
  refine sx_istore (pc := 4) (lo' := [(6, .int (0 : Int32)), (4, .long (0 : Int64)), (0, .ref 29), (1, .int l1), (2, .int l2), (3, .int l3)]) dX4_sumOf_4 (by decide) rfl ?_
  refine sx_wk (sx_s1 sx_m2 (sx_s1 sx_m3 (sx_s1 sx_m4 (sx_s1 sx_m5 (sx_s1 sx_m1 (sx_s1 sx_m0 sx_s0)))))) ?_
  exact tL_X4_sumOf_6 hG hP  N _ _ _ _ _ _ h
theorem dX4_findTables_0 : decode cX4_findTables 0 = .ok (.iconst 0, 1) := by decide +kernel
theorem dX4_findTables_1 : decode cX4_findTables 1 = .ok (.istore_n 1, 1) := by decide +kernel
theorem dX4_findTables_2 : decode cX4_findTables 2 = .ok (.iload_n 1, 1) := by decide +kernel
theorem dX4_findTables_3 : decode cX4_findTables 3 = .ok (.getstatic 102, 3) := by decide +kernel
theorem dX4_findTables_6 : decode cX4_findTables 6 = .ok (.arraylength, 1) := by decide +kernel
theorem dX4_findTables_7 : decode cX4_findTables 7 = .ok (.if_icmp .ge 95, 3) := by decide +kernel
theorem dX4_findTables_10 : decode cX4_findTables 10 = .ok (.aload_n 0, 1) := by decide +kernel
theorem dX4_findTables_11 : decode cX4_findTables 11 = .ok (.getfield 9, 3) := by decide +kernel
theorem dX4_findTables_14 : decode cX4_findTables 14 = .ok (.getfield 115, 3) := by decide +kernel
theorem dX4_findTables_17 : decode cX4_findTables 17 = .ok (.iload_n 1, 1) := by decide +kernel
theorem dX4_findTables_18 : decode cX4_findTables 18 = .ok (.iconst 0, 1) := by decide +kernel
theorem dX4_findTables_19 : decode cX4_findTables 19 = .ok (.iastore, 1) := by decide +kernel
theorem dX4_findTables_20 : decode cX4_findTables 20 = .ok (.aload_n 0, 1) := by decide +kernel
theorem dX4_findTables_21 : decode cX4_findTables 21 = .ok (.getfield 9, 3) := by decide +kernel
theorem dX4_findTables_24 : decode cX4_findTables 24 = .ok (.getfield 118, 3) := by decide +kernel
theorem dX4_findTables_27 : decode cX4_findTables 27 = .ok (.iload_n 1, 1) := by decide +kernel
theorem dX4_findTables_28 : decode cX4_findTables 28 = .ok (.iconst 0, 1) := by decide +kernel
theorem dX4_findTables_29 : decode cX4_findTables 29 = .ok (.iastore, 1) := by decide +kernel
theorem dX4_findTables_30 : decode cX4_findTables 30 = .ok (.iconst 0, 1) := by decide +kernel
theorem dX4_findTables_31 : decode cX4_findTables 31 = .ok (.istore_n 2, 1) := by decide +kernel
theorem dX4_findTables_32 : decode cX4_findTables 32 = .ok (.iload_n 2, 1) := by decide +kernel
theorem dX4_findTables_33 : decode cX4_findTables 33 = .ok (.aload_n 0, 1) := by decide +kernel
theorem dX4_findTables_34 : decode cX4_findTables 34 = .ok (.getfield 9, 3) := by decide +kernel
theorem dX4_findTables_37 : decode cX4_findTables 37 = .ok (.getfield 80, 3) := by decide +kernel
theorem dX4_findTables_40 : decode cX4_findTables 40 = .ok (.if_icmp .ge 56, 3) := by decide +kernel
theorem dX4_findTables_43 : decode cX4_findTables 43 = .ok (.aload_n 0, 1) := by decide +kernel
theorem dX4_findTables_44 : decode cX4_findTables 44 = .ok (.iload_n 2, 1) := by decide +kernel
theorem dX4_findTables_45 : decode cX4_findTables 45 = .ok (.iconst 0, 1) := by decide +kernel
theorem dX4_findTables_46 : decode cX4_findTables 46 = .ok (.invokevirtual 83, 3) := by decide +kernel
theorem dX4_findTables_49 : decode cX4_findTables 49 = .ok (.l2i, 1) := by decide +kernel
theorem dX4_findTables_50 : decode cX4_findTables 50 = .ok (.getstatic 102, 3) := by decide +kernel
theorem dX4_findTables_53 : decode cX4_findTables 53 = .ok (.iload_n 1, 1) := by decide +kernel
theorem dX4_findTables_54 : decode cX4_findTables 54 = .ok (.iaload, 1) := by decide +kernel
theorem dX4_findTables_55 : decode cX4_findTables 55 = .ok (.if_icmp .ne 35, 3) := by decide +kernel
theorem dX4_findTables_58 : decode cX4_findTables 58 = .ok (.aload_n 0, 1) := by decide +kernel
theorem dX4_findTables_59 : decode cX4_findTables 59 = .ok (.getfield 9, 3) := by decide +kernel
theorem dX4_findTables_62 : decode cX4_findTables 62 = .ok (.getfield 115, 3) := by decide +kernel
theorem dX4_findTables_65 : decode cX4_findTables 65 = .ok (.iload_n 1, 1) := by decide +kernel
theorem dX4_findTables_66 : decode cX4_findTables 66 = .ok (.aload_n 0, 1) := by decide +kernel
theorem dX4_findTables_67 : decode cX4_findTables 67 = .ok (.iload_n 2, 1) := by decide +kernel
theorem dX4_findTables_68 : decode cX4_findTables 68 = .ok (.iconst 2, 1) := by decide +kernel
theorem dX4_findTables_69 : decode cX4_findTables 69 = .ok (.invokevirtual 83, 3) := by decide +kernel
theorem dX4_findTables_72 : decode cX4_findTables 72 = .ok (.l2i, 1) := by decide +kernel
theorem dX4_findTables_73 : decode cX4_findTables 73 = .ok (.iastore, 1) := by decide +kernel
theorem dX4_findTables_74 : decode cX4_findTables 74 = .ok (.aload_n 0, 1) := by decide +kernel
theorem dX4_findTables_75 : decode cX4_findTables 75 = .ok (.getfield 9, 3) := by decide +kernel
theorem dX4_findTables_78 : decode cX4_findTables 78 = .ok (.getfield 118, 3) := by decide +kernel
theorem dX4_findTables_81 : decode cX4_findTables 81 = .ok (.iload_n 1, 1) := by decide +kernel
theorem dX4_findTables_82 : decode cX4_findTables 82 = .ok (.aload_n 0, 1) := by decide +kernel
theorem dX4_findTables_83 : decode cX4_findTables 83 = .ok (.iload_n 2, 1) := by decide +kernel
theorem dX4_findTables_84 : decode cX4_findTables 84 = .ok (.iconst 3, 1) := by decide +kernel
theorem dX4_findTables_85 : decode cX4_findTables 85 = .ok (.invokevirtual 83, 3) := by decide +kernel
theorem dX4_findTables_88 : decode cX4_findTables 88 = .ok (.l2i, 1) := by decide +kernel
theorem dX4_findTables_89 : decode cX4_findTables 89 = .ok (.iastore, 1) := by decide +kernel
theorem dX4_findTables_90 : decode cX4_findTables 90 = .ok (.iinc 2 1, 3) := by decide +kernel
theorem dX4_findTables_93 : decode cX4_findTables 93 = .ok (.goto (-61), 3) := by decide +kernel
theorem dX4_findTables_96 : decode cX4_findTables 96 = .ok (.iinc 1 1, 3) := by decide +kernel
theorem dX4_findTables_99 : decode cX4_findTables 99 = .ok (.goto (-97), 3) := by decide +kernel
theorem dX4_findTables_102 : decode cX4_findTables 102 = .ok (.iconst 0, 1) := by decide +kernel
theorem dX4_findTables_103 : decode cX4_findTables 103 = .ok (.istore_n 1, 1) := by decide +kernel
theorem dX4_findTables_104 : decode cX4_findTables 104 = .ok (.iload_n 1, 1) := by decide +kernel
theorem dX4_findTables_105 : decode cX4_findTables 105 = .ok (.bipush 7, 2) := by decide +kernel
theorem dX4_findTables_107 : decode cX4_findTables 107 = .ok (.if_icmp .ge 22, 3) := by decide +kernel
theorem dX4_findTables_110 : decode cX4_findTables 110 = .ok (.aload_n 0, 1) := by decide +kernel
theorem dX4_findTables_111 : decode cX4_findTables 111 = .ok (.getfield 9, 3) := by decide +kernel
theorem dX4_findTables_114 : decode cX4_findTables 114 = .ok (.iload_n 1, 1) := by decide +kernel
theorem dX4_findTables_115 : decode cX4_findTables 115 = .ok (.invokevirtual 121, 3) := by decide +kernel
theorem dX4_findTables_118 : decode cX4_findTables 118 = .ok (.ifCond .ne 5, 3) := by decide +kernel
theorem dX4_findTables_121 : decode cX4_findTables 121 = .ok (.iconst 0, 1) := by decide +kernel
theorem dX4_findTables_122 : decode cX4_findTables 122 = .ok (.ireturn, 1) := by decide +kernel
theorem dX4_findTables_123 : decode cX4_findTables 123 = .ok (.iinc 1 1, 3) := by decide +kernel
theorem dX4_findTables_126 : decode cX4_findTables 126 = .ok (.goto (-22), 3) := by decide +kernel
theorem dX4_findTables_129 : decode cX4_findTables 129 = .ok (.iconst 1, 1) := by decide +kernel
theorem dX4_findTables_130 : decode cX4_findTables 130 = .ok (.ireturn, 1) := by decide +kernel
def B_X4_findTables_90 (N : Nat) (k2 : Int32 → sv_V → Option (Int32 × sv_V)) (k32 : Int32 → Int32 → sv_V → Option (Int32 × sv_V)) (l1 : Int32) (l2 : Int32) (V : sv_V) : Option (Int32 × sv_V) := sx_let (l2 + 1) (fun x1 => k32 l1 x1 V)
set_option maxRecDepth 20000 in
theorem tB_X4_findTables_90 {g : sx_G} (hG : sx_Go g) {P : Option Value → sv_V → Prop} {r : Int32} {Vr : sv_V} (hP : P (some (.int r)) Vr) {N : Nat} {k2 : Int32 → sv_V → Option (Int32 × sv_V)} {k32 : Int32 → Int32 → sv_V → Option (Int32 × sv_V)} (hk2 : ∀ (l1 : Int32) (V : sv_V), k2 l1 V = some (r, Vr) → sv_N g qX4_findTables 3 2 [(0, .ref 29), (1, .int l1)] [] V P) (hk32 : ∀ (l1 : Int32) (l2 : Int32) (V : sv_V), k32 l1 l2 V = some (r, Vr) → sv_N g qX4_findTables 3 32 [(0, .ref 29), (1, .int l1), (2, .int l2)] [] V P) {l1 : Int32} {l2 : Int32} {V : sv_V} (h : B_X4_findTables_90 N k2 k32 l1 l2 V = some (r, Vr)) : sv_N g qX4_findTables 3 90 [(0, .ref 29), (1, .int l1), (2, .int l2)] [] V P := by
  unfold B_X4_findTables_90 at h
  obtain ⟨x1, hx1⟩ : ∃ z : Int32, z = l2 + 1 := ⟨_, rfl⟩
  have h := sx_letE hx1 h
  refine sx_iinc (pc := 90) (v := x1) (lo' := [(2, .int x1), (0, .ref 29), (1, .int l1)]) dX4_findTables_90 sx_m2 (by rw [hx1]; rfl) (by decide) rfl ?_
  refine sx_goto (pc := 93) (tgt := 32) dX4_findTables_93 (by decide) ?_
  refine sx_wk (sx_s1 sx_m1 (sx_s1 sx_m2 (sx_s1 sx_m0 sx_s0))) ?_
  exact hk32 _ _ _ h
def B_X4_findTables_32 (N : Nat) (k2 : Int32 → sv_V → Option (Int32 × sv_V)) (k32 : Int32 → Int32 → sv_V → Option (Int32 × sv_V)) (l1 : Int32) (l2 : Int32) (V : sv_V) : Option (Int32 × sv_V) := if (V.1 2 5) ≤ l2 then (sx_let (l1 + 1) (fun x3 => k2 x3 V)) else ((F_X4_entry l2 (0 : Int32) V).bind (fun (x6, V4) => if sx_in l1 11 = true then if x6.toInt32 = (V4.1 1001 l1.toNatClampNeg) then ((F_X4_entry l2 (2 : Int32) V4).bind (fun (x11, V9) => if sx_in l1 11 = true then sx_let (sv_I V9 4 l1.toNatClampNeg x11.toInt32) (fun V13 => (F_X4_entry l2 (3 : Int32) V13).bind (fun (x16, V14) => if sx_in l1 11 = true then sx_let (sv_I V14 5 l1.toNatClampNeg x16.toInt32) (fun V18 => B_X4_findTables_90 N k2 k32 l1 l2 V18) else none)) else none)) else (B_X4_findTables_90 N k2 k32 l1 l2 V4) else none))
set_option maxRecDepth 20000 in
theorem tB_X4_findTables_32 {g : sx_G} (hG : sx_Go g) {P : Option Value → sv_V → Prop} {r : Int32} {Vr : sv_V} (hP : P (some (.int r)) Vr) {N : Nat} {k2 : Int32 → sv_V → Option (Int32 × sv_V)} {k32 : Int32 → Int32 → sv_V → Option (Int32 × sv_V)} (hk2 : ∀ (l1 : Int32) (V : sv_V), k2 l1 V = some (r, Vr) → sv_N g qX4_findTables 3 2 [(0, .ref 29), (1, .int l1)] [] V P) (hk32 : ∀ (l1 : Int32) (l2 : Int32) (V : sv_V), k32 l1 l2 V = some (r, Vr) → sv_N g qX4_findTables 3 32 [(0, .ref 29), (1, .int l1), (2, .int l2)] [] V P) {l1 : Int32} {l2 : Int32} {V : sv_V} (h : B_X4_findTables_32 N k2 k32 l1 l2 V = some (r, Vr)) : sv_N g qX4_findTables 3 32 [(0, .ref 29), (1, .int l1), (2, .int l2)] [] V P := by
  unfold B_X4_findTables_32 at h
  refine sx_iload_n (pc := 32) dX4_findTables_32 sx_m2 ?_
  refine sx_aload_n (pc := 33) dX4_findTables_33 sx_m0 ?_
  refine sv_getO (pc := 34) hG dX4_findTables_34 f_4_9 lay_29 rfl cr_29_0 ?_
  refine sv_getI (pc := 37) hG dX4_findTables_37 f_4_80 lay_2 rfl ?_
  refine sx_icmp_ge (pc := 40) (tgt := 96) dX4_findTables_40 (by decide) (fun c2 => ?_) (fun c2 => ?_)
  · have h := sx_pos c2 h
    obtain ⟨x3, hx3⟩ : ∃ z : Int32, z = l1 + 1 := ⟨_, rfl⟩
    have h := sx_letE hx3 h
    refine sx_iinc (pc := 96) (v := x3) (lo' := [(1, .int x3), (0, .ref 29), (2, .int l2)]) dX4_findTables_96 sx_m1 (by rw [hx3]; rfl) (by decide) rfl ?_
    refine sx_goto (pc := 99) (tgt := 2) dX4_findTables_99 (by decide) ?_
    refine sx_wk (sx_s1 sx_m1 (sx_s1 sx_m0 sx_s0)) ?_
    exact hk2 _ _ h
  · have h := sx_neg c2 h
    refine sx_aload_n (pc := 43) dX4_findTables_43 sx_m0 ?_
    refine sx_iload_n (pc := 44) dX4_findTables_44 sx_m2 ?_
    refine sx_iconst (pc := 45) (v := 0) dX4_findTables_45 (by decide) ?_
    obtain ⟨⟨x6, V4⟩, g5, h⟩ := sx_bnd h
    refine sv_cV (pc := 46) (y := qX4_entry) (o := (some (.long x6))) (as := [.int l2, .int (0 : Int32)]) (V1 := V4) hG dX4_findTables_46 l_X4_83 y0X4_entry yvX4_entry rfl (Nat.le_of_ble_eq_true rfl) lay_29 kr_4 (by decide) (Nat.le_of_ble_eq_true rfl) rfl rfl rfl (t_X4_entry hG ⟨rfl, rfl⟩ g5) ?_
    refine sx_l2i (pc := 49) dX4_findTables_49 ?_
    refine sv_getS (pc := 50) (j := 0) dX4_findTables_50 rfl n_X4_102 ?_
    refine sx_iload_n (pc := 53) dX4_findTables_53 sx_m1 ?_
    obtain ⟨g7, h⟩ := sx_grd h
    refine sv_xld (pc := 54) hG dX4_findTables_54 lay_1001 g7 ?_
    refine sx_icmp_ne (pc := 55) (tgt := 90) dX4_findTables_55 (by decide) (fun c8 => ?_) (fun c8 => ?_)
    · have h := sx_neg c8 h
      refine sx_wk (sx_s1 sx_m0 (sx_s1 sx_m1 (sx_s1 sx_m2 sx_s0))) ?_
      exact tB_X4_findTables_90 hG hP hk2 hk32 h
    · have h := sx_pos c8 h
      refine sx_aload_n (pc := 58) dX4_findTables_58 sx_m0 ?_
      refine sv_getO (pc := 59) hG dX4_findTables_59 f_4_9 lay_29 rfl cr_29_0 ?_
      refine sv_getA (pc := 62) hG dX4_findTables_62 f_4_115 lay_2 rfl cr_2_3 ?_
      refine sx_iload_n (pc := 65) dX4_findTables_65 sx_m1 ?_
      refine sx_aload_n (pc := 66) dX4_findTables_66 sx_m0 ?_
      refine sx_iload_n (pc := 67) dX4_findTables_67 sx_m2 ?_
      refine sx_iconst (pc := 68) (v := 2) dX4_findTables_68 (by decide) ?_
      obtain ⟨⟨x11, V9⟩, g10, h⟩ := sx_bnd h
      refine sv_cV (pc := 69) (y := qX4_entry) (o := (some (.long x11))) (as := [.int l2, .int (2 : Int32)]) (V1 := V9) hG dX4_findTables_69 l_X4_83 y0X4_entry yvX4_entry rfl (Nat.le_of_ble_eq_true rfl) lay_29 kr_4 (by decide) (Nat.le_of_ble_eq_true rfl) rfl rfl rfl (t_X4_entry hG ⟨rfl, rfl⟩ g10) ?_
      refine sx_l2i (pc := 72) dX4_findTables_72 ?_
      obtain ⟨g12, h⟩ := sx_grd h
      obtain ⟨V13, hV13⟩ : ∃ z : sv_V, z = sv_I V9 4 l1.toNatClampNeg x11.toInt32 := ⟨_, rfl⟩
      have h := sx_letE hV13 h
      refine sv_iast (pc := 73) hG dX4_findTables_73 lay_4 g12 hV13 ?_
      refine sx_aload_n (pc := 74) dX4_findTables_74 sx_m0 ?_
      refine sv_getO (pc := 75) hG dX4_findTables_75 f_4_9 lay_29 rfl cr_29_0 ?_
      refine sv_getA (pc := 78) hG dX4_findTables_78 f_4_118 lay_2 rfl cr_2_4 ?_
      refine sx_iload_n (pc := 81) dX4_findTables_81 sx_m1 ?_
      refine sx_aload_n (pc := 82) dX4_findTables_82 sx_m0 ?_
      refine sx_iload_n (pc := 83) dX4_findTables_83 sx_m2 ?_
      refine sx_iconst (pc := 84) (v := 3) dX4_findTables_84 (by decide) ?_
      obtain ⟨⟨x16, V14⟩, g15, h⟩ := sx_bnd h
      refine sv_cV (pc := 85) (y := qX4_entry) (o := (some (.long x16))) (as := [.int l2, .int (3 : Int32)]) (V1 := V14) hG dX4_findTables_85 l_X4_83 y0X4_entry yvX4_entry rfl (Nat.le_of_ble_eq_true rfl) lay_29 kr_4 (by decide) (Nat.le_of_ble_eq_true rfl) rfl rfl rfl (t_X4_entry hG ⟨rfl, rfl⟩ g15) ?_
      refine sx_l2i (pc := 88) dX4_findTables_88 ?_
      obtain ⟨g17, h⟩ := sx_grd h
      obtain ⟨V18, hV18⟩ : ∃ z : sv_V, z = sv_I V14 5 l1.toNatClampNeg x16.toInt32 := ⟨_, rfl⟩
      have h := sx_letE hV18 h
      refine sv_iast (pc := 89) hG dX4_findTables_89 lay_5 g17 hV18 ?_
      refine sx_wk (sx_s1 sx_m0 (sx_s1 sx_m1 (sx_s1 sx_m2 sx_s0))) ?_
      exact tB_X4_findTables_90 hG hP hk2 hk32 h
theorem tL_X4_findTables_32 {g : sx_G} (hG : sx_Go g) {P : Option Value → sv_V → Prop} {r : Int32} {Vr : sv_V} (hP : P (some (.int r)) Vr) {N : Nat} {k2 : Int32 → sv_V → Option (Int32 × sv_V)} (hk2 : ∀ (l1 : Int32) (V : sv_V), k2 l1 V = some (r, Vr) → sv_N g qX4_findTables 3 2 [(0, .ref 29), (1, .int l1)] [] V P) : ∀ (n : Nat) (l1 : Int32) (l2 : Int32) (V : sv_V), sx_lp3 (B_X4_findTables_32 N k2) n l1 l2 V = some (r, Vr) → sv_N g qX4_findTables 3 32 [(0, .ref 29), (1, .int l1), (2, .int l2)] [] V P :=
  sx_lp3_ind (fun k0 ih _ _ V h => tB_X4_findTables_32 hG hP hk2 ih h)
def B_X4_findTables_104 (N : Nat) (k104 : Int32 → sv_V → Option (Int32 × sv_V)) (l1 : Int32) (V : sv_V) : Option (Int32 × sv_V) := if (7 : Int32) ≤ l1 then (some ((1 : Int32), V)) else ((F_X2_hasTable l1 V).bind (fun (x22, V20) => if x22 = 0 then (some ((0 : Int32), V20)) else (sx_let (l1 + 1) (fun x24 => k104 x24 V20))))
set_option maxRecDepth 20000 in
theorem tB_X4_findTables_104 {g : sx_G} (hG : sx_Go g) {P : Option Value → sv_V → Prop} {r : Int32} {Vr : sv_V} (hP : P (some (.int r)) Vr) {N : Nat} {k104 : Int32 → sv_V → Option (Int32 × sv_V)} (hk104 : ∀ (l1 : Int32) (V : sv_V), k104 l1 V = some (r, Vr) → sv_N g qX4_findTables 3 104 [(0, .ref 29), (1, .int l1)] [] V P) {l1 : Int32} {V : sv_V} (h : B_X4_findTables_104 N k104 l1 V = some (r, Vr)) : sv_N g qX4_findTables 3 104 [(0, .ref 29), (1, .int l1)] [] V P := by
  unfold B_X4_findTables_104 at h
  refine sx_iload_n (pc := 104) dX4_findTables_104 sx_m1 ?_
  refine sx_bipush (pc := 105) (v := 7) dX4_findTables_105 (by decide) ?_
  refine sx_icmp_ge (pc := 107) (tgt := 129) dX4_findTables_107 (by decide) (fun c19 => ?_) (fun c19 => ?_)
  · have h := sx_pos c19 h
    refine sx_iconst (pc := 129) (v := 1) dX4_findTables_129 (by decide) ?_
    exact sv_zret (pc := 130) dX4_findTables_130 rfl rfl h hP
  · have h := sx_neg c19 h
    refine sx_aload_n (pc := 110) dX4_findTables_110 sx_m0 ?_
    refine sv_getO (pc := 111) hG dX4_findTables_111 f_4_9 lay_29 rfl cr_29_0 ?_
    refine sx_iload_n (pc := 114) dX4_findTables_114 sx_m1 ?_
    obtain ⟨⟨x22, V20⟩, g21, h⟩ := sx_bnd h
    refine sv_cV (pc := 115) (y := qX2_hasTable) (o := (some (.int x22))) (as := [.int l1]) (V1 := V20) hG dX4_findTables_115 l_X4_121 y0X2_hasTable yvX2_hasTable rfl (Nat.le_of_ble_eq_true rfl) lay_2 kr_2 (by decide) (Nat.le_of_ble_eq_true rfl) rfl rfl rfl (t_X2_hasTable hG ⟨rfl, rfl⟩ g21) ?_
    refine sx_if_ne (pc := 118) (tgt := 123) dX4_findTables_118 (by decide) (fun c23 => ?_) (fun c23 => ?_)
    · have h := sx_neg c23 h
      obtain ⟨x24, hx24⟩ : ∃ z : Int32, z = l1 + 1 := ⟨_, rfl⟩
      have h := sx_letE hx24 h
      refine sx_iinc (pc := 123) (v := x24) (lo' := [(1, .int x24), (0, .ref 29)]) dX4_findTables_123 sx_m1 (by rw [hx24]; rfl) (by decide) rfl ?_
      refine sx_goto (pc := 126) (tgt := 104) dX4_findTables_126 (by decide) ?_
      refine sx_wk (sx_s1 sx_m1 (sx_s1 sx_m0 sx_s0)) ?_
      exact hk104 _ _ h
    · have h := sx_pos c23 h
      refine sx_iconst (pc := 121) (v := 0) dX4_findTables_121 (by decide) ?_
      exact sv_zret (pc := 122) dX4_findTables_122 rfl rfl h hP
theorem tL_X4_findTables_104 {g : sx_G} (hG : sx_Go g) {P : Option Value → sv_V → Prop} {r : Int32} {Vr : sv_V} (hP : P (some (.int r)) Vr) {N : Nat}   : ∀ (n : Nat) (l1 : Int32) (V : sv_V), sx_lp2 (B_X4_findTables_104 N ) n l1 V = some (r, Vr) → sv_N g qX4_findTables 3 104 [(0, .ref 29), (1, .int l1)] [] V P :=
  sx_lp2_ind (fun k0 ih _ V h => tB_X4_findTables_104 hG hP ih h)
def B_X4_findTables_2 (N : Nat) (k2 : Int32 → sv_V → Option (Int32 × sv_V)) (l1 : Int32) (V : sv_V) : Option (Int32 × sv_V) := if (Int32.ofNat 11) ≤ l1 then (sx_lp2 (B_X4_findTables_104 N ) N (0 : Int32) V) else (if sx_in l1 11 = true then sx_let (sv_I V 4 l1.toNatClampNeg (0 : Int32)) (fun V27 => if sx_in l1 11 = true then sx_let (sv_I V27 5 l1.toNatClampNeg (0 : Int32)) (fun V29 => sx_lp3 (B_X4_findTables_32 N k2) N l1 (0 : Int32) V29) else none) else none)
set_option maxRecDepth 20000 in
theorem tB_X4_findTables_2 {g : sx_G} (hG : sx_Go g) {P : Option Value → sv_V → Prop} {r : Int32} {Vr : sv_V} (hP : P (some (.int r)) Vr) {N : Nat} {k2 : Int32 → sv_V → Option (Int32 × sv_V)} (hk2 : ∀ (l1 : Int32) (V : sv_V), k2 l1 V = some (r, Vr) → sv_N g qX4_findTables 3 2 [(0, .ref 29), (1, .int l1)] [] V P) {l1 : Int32} {V : sv_V} (h : B_X4_findTables_2 N k2 l1 V = some (r, Vr)) : sv_N g qX4_findTables 3 2 [(0, .ref 29), (1, .int l1)] [] V P := by
  unfold B_X4_findTables_2 at h
  refine sx_iload_n (pc := 2) dX4_findTables_2 sx_m1 ?_
  refine sv_getS (pc := 3) (j := 0) dX4_findTables_3 rfl n_X4_102 ?_
  refine sv_xlen (pc := 6) hG dX4_findTables_6 lay_1001 ?_
  refine sx_icmp_ge (pc := 7) (tgt := 102) dX4_findTables_7 (by decide) (fun c25 => ?_) (fun c25 => ?_)
  · have h := sx_pos c25 h
    refine sx_iconst (pc := 102) (v := 0) dX4_findTables_102 (by decide) ?_
    refine sx_istore_n (pc := 103) (lo' := [(1, .int (0 : Int32)), (0, .ref 29)]) dX4_findTables_103 (by decide) rfl ?_
    refine sx_wk (sx_s1 sx_m1 (sx_s1 sx_m0 sx_s0)) ?_
    exact tL_X4_findTables_104 hG hP  N _ _ h
  · have h := sx_neg c25 h
    refine sx_aload_n (pc := 10) dX4_findTables_10 sx_m0 ?_
    refine sv_getO (pc := 11) hG dX4_findTables_11 f_4_9 lay_29 rfl cr_29_0 ?_
    refine sv_getA (pc := 14) hG dX4_findTables_14 f_4_115 lay_2 rfl cr_2_3 ?_
    refine sx_iload_n (pc := 17) dX4_findTables_17 sx_m1 ?_
    refine sx_iconst (pc := 18) (v := 0) dX4_findTables_18 (by decide) ?_
    obtain ⟨g26, h⟩ := sx_grd h
    obtain ⟨V27, hV27⟩ : ∃ z : sv_V, z = sv_I V 4 l1.toNatClampNeg (0 : Int32) := ⟨_, rfl⟩
    have h := sx_letE hV27 h
    refine sv_iast (pc := 19) hG dX4_findTables_19 lay_4 g26 hV27 ?_
    refine sx_aload_n (pc := 20) dX4_findTables_20 sx_m0 ?_
    refine sv_getO (pc := 21) hG dX4_findTables_21 f_4_9 lay_29 rfl cr_29_0 ?_
    refine sv_getA (pc := 24) hG dX4_findTables_24 f_4_118 lay_2 rfl cr_2_4 ?_
    refine sx_iload_n (pc := 27) dX4_findTables_27 sx_m1 ?_
    refine sx_iconst (pc := 28) (v := 0) dX4_findTables_28 (by decide) ?_
    obtain ⟨g28, h⟩ := sx_grd h
    obtain ⟨V29, hV29⟩ : ∃ z : sv_V, z = sv_I V27 5 l1.toNatClampNeg (0 : Int32) := ⟨_, rfl⟩
    have h := sx_letE hV29 h
    refine sv_iast (pc := 29) hG dX4_findTables_29 lay_5 g28 hV29 ?_
    refine sx_iconst (pc := 30) (v := 0) dX4_findTables_30 (by decide) ?_
    refine sx_istore_n (pc := 31) (lo' := [(2, .int (0 : Int32)), (0, .ref 29), (1, .int l1)]) dX4_findTables_31 (by decide) rfl ?_
    refine sx_wk (sx_s1 sx_m1 (sx_s1 sx_m2 (sx_s1 sx_m0 sx_s0))) ?_
    exact tL_X4_findTables_32 hG hP hk2 N _ _ _ h
theorem tL_X4_findTables_2 {g : sx_G} (hG : sx_Go g) {P : Option Value → sv_V → Prop} {r : Int32} {Vr : sv_V} (hP : P (some (.int r)) Vr) {N : Nat}   : ∀ (n : Nat) (l1 : Int32) (V : sv_V), sx_lp2 (B_X4_findTables_2 N ) n l1 V = some (r, Vr) → sv_N g qX4_findTables 3 2 [(0, .ref 29), (1, .int l1)] [] V P :=
  sx_lp2_ind (fun k0 ih _ V h => tB_X4_findTables_2 hG hP ih h)
def F_X4_findTables (N : Nat)  (V : sv_V) : Option (Int32 × sv_V) := sx_lp2 (B_X4_findTables_2 N ) N (0 : Int32) V
set_option maxRecDepth 20000 in
theorem t_X4_findTables {g : sx_G} (hG : sx_Go g) {P : Option Value → sv_V → Prop} {r : Int32} {Vr : sv_V} (hP : P (some (.int r)) Vr) {N : Nat}  {V : sv_V} (h : F_X4_findTables N  V = some (r, Vr)) : sv_N g qX4_findTables 3 0 [(0, .ref 29)] [] V P := by
  unfold F_X4_findTables at h
  refine sx_iconst (pc := 0) (v := 0) dX4_findTables_0 (by decide) ?_
  refine sx_istore_n (pc := 1) (lo' := [(1, .int (0 : Int32)), (0, .ref 29)]) dX4_findTables_1 (by decide) rfl ?_
  refine sx_wk (sx_s1 sx_m1 (sx_s1 sx_m0 sx_s0)) ?_
  exact tL_X4_findTables_2 hG hP  N _ _ h
theorem dX4_headHolds_0 : decode cX4_headHolds 0 = .ok (.aload_n 0, 1) := by decide +kernel
theorem dX4_headHolds_1 : decode cX4_headHolds 1 = .ok (.getfield 9, 3) := by decide +kernel
theorem dX4_headHolds_4 : decode cX4_headHolds 4 = .ok (.getfield 115, 3) := by decide +kernel
theorem dX4_headHolds_7 : decode cX4_headHolds 7 = .ok (.iconst 2, 1) := by decide +kernel
theorem dX4_headHolds_8 : decode cX4_headHolds 8 = .ok (.iaload, 1) := by decide +kernel
theorem dX4_headHolds_9 : decode cX4_headHolds 9 = .ok (.istore_n 1, 1) := by decide +kernel
theorem dX4_headHolds_10 : decode cX4_headHolds 10 = .ok (.aload_n 0, 1) := by decide +kernel
theorem dX4_headHolds_11 : decode cX4_headHolds 11 = .ok (.getfield 9, 3) := by decide +kernel
theorem dX4_headHolds_14 : decode cX4_headHolds 14 = .ok (.aload_n 0, 1) := by decide +kernel
theorem dX4_headHolds_15 : decode cX4_headHolds 15 = .ok (.getfield 9, 3) := by decide +kernel
theorem dX4_headHolds_18 : decode cX4_headHolds 18 = .ok (.iload_n 1, 1) := by decide +kernel
theorem dX4_headHolds_19 : decode cX4_headHolds 19 = .ok (.bipush 18, 2) := by decide +kernel
theorem dX4_headHolds_21 : decode cX4_headHolds 21 = .ok (.iadd, 1) := by decide +kernel
theorem dX4_headHolds_22 : decode cX4_headHolds 22 = .ok (.invokevirtual 64, 3) := by decide +kernel
theorem dX4_headHolds_25 : decode cX4_headHolds 25 = .ok (.putfield 125, 3) := by decide +kernel
theorem dX4_headHolds_28 : decode cX4_headHolds 28 = .ok (.aload_n 0, 1) := by decide +kernel
theorem dX4_headHolds_29 : decode cX4_headHolds 29 = .ok (.getfield 9, 3) := by decide +kernel
theorem dX4_headHolds_32 : decode cX4_headHolds 32 = .ok (.aload_n 0, 1) := by decide +kernel
theorem dX4_headHolds_33 : decode cX4_headHolds 33 = .ok (.getfield 9, 3) := by decide +kernel
theorem dX4_headHolds_36 : decode cX4_headHolds 36 = .ok (.iload_n 1, 1) := by decide +kernel
theorem dX4_headHolds_37 : decode cX4_headHolds 37 = .ok (.bipush 50, 2) := by decide +kernel
theorem dX4_headHolds_39 : decode cX4_headHolds 39 = .ok (.iadd, 1) := by decide +kernel
theorem dX4_headHolds_40 : decode cX4_headHolds 40 = .ok (.invokevirtual 128, 3) := by decide +kernel
theorem dX4_headHolds_43 : decode cX4_headHolds 43 = .ok (.putfield 131, 3) := by decide +kernel
theorem dX4_headHolds_46 : decode cX4_headHolds 46 = .ok (.aload_n 0, 1) := by decide +kernel
theorem dX4_headHolds_47 : decode cX4_headHolds 47 = .ok (.getfield 9, 3) := by decide +kernel
theorem dX4_headHolds_50 : decode cX4_headHolds 50 = .ok (.getfield 118, 3) := by decide +kernel
theorem dX4_headHolds_53 : decode cX4_headHolds 53 = .ok (.iconst 2, 1) := by decide +kernel
theorem dX4_headHolds_54 : decode cX4_headHolds 54 = .ok (.iaload, 1) := by decide +kernel
theorem dX4_headHolds_55 : decode cX4_headHolds 55 = .ok (.bipush 54, 2) := by decide +kernel
theorem dX4_headHolds_57 : decode cX4_headHolds 57 = .ok (.if_icmp .ne 120, 3) := by decide +kernel
theorem dX4_headHolds_60 : decode cX4_headHolds 60 = .ok (.aload_n 0, 1) := by decide +kernel
theorem dX4_headHolds_61 : decode cX4_headHolds 61 = .ok (.getfield 9, 3) := by decide +kernel
theorem dX4_headHolds_64 : decode cX4_headHolds 64 = .ok (.iload_n 1, 1) := by decide +kernel
theorem dX4_headHolds_65 : decode cX4_headHolds 65 = .ok (.invokevirtual 74, 3) := by decide +kernel
theorem dX4_headHolds_68 : decode cX4_headHolds 68 = .ok (.ldc2_w 78, 3) := by decide +kernel
theorem dX4_headHolds_71 : decode cX4_headHolds 71 = .ok (.lcmp, 1) := by decide +kernel
theorem dX4_headHolds_72 : decode cX4_headHolds 72 = .ok (.ifCond .ne 105, 3) := by decide +kernel
theorem dX4_headHolds_75 : decode cX4_headHolds 75 = .ok (.aload_n 0, 1) := by decide +kernel
theorem dX4_headHolds_76 : decode cX4_headHolds 76 = .ok (.getfield 9, 3) := by decide +kernel
theorem dX4_headHolds_79 : decode cX4_headHolds 79 = .ok (.iload_n 1, 1) := by decide +kernel
theorem dX4_headHolds_80 : decode cX4_headHolds 80 = .ok (.bipush 12, 2) := by decide +kernel
theorem dX4_headHolds_82 : decode cX4_headHolds 82 = .ok (.iadd, 1) := by decide +kernel
theorem dX4_headHolds_83 : decode cX4_headHolds 83 = .ok (.invokevirtual 74, 3) := by decide +kernel
theorem dX4_headHolds_86 : decode cX4_headHolds 86 = .ok (.ldc2_w 134, 3) := by decide +kernel
theorem dX4_headHolds_89 : decode cX4_headHolds 89 = .ok (.lcmp, 1) := by decide +kernel
theorem dX4_headHolds_90 : decode cX4_headHolds 90 = .ok (.ifCond .ne 87, 3) := by decide +kernel
theorem dX4_headHolds_93 : decode cX4_headHolds 93 = .ok (.aload_n 0, 1) := by decide +kernel
theorem dX4_headHolds_94 : decode cX4_headHolds 94 = .ok (.getfield 9, 3) := by decide +kernel
theorem dX4_headHolds_97 : decode cX4_headHolds 97 = .ok (.getfield 125, 3) := by decide +kernel
theorem dX4_headHolds_100 : decode cX4_headHolds 100 = .ok (.bipush 16, 2) := by decide +kernel
theorem dX4_headHolds_102 : decode cX4_headHolds 102 = .ok (.if_icmp .lt 75, 3) := by decide +kernel
theorem dX4_headHolds_105 : decode cX4_headHolds 105 = .ok (.aload_n 0, 1) := by decide +kernel
theorem dX4_headHolds_106 : decode cX4_headHolds 106 = .ok (.getfield 9, 3) := by decide +kernel
theorem dX4_headHolds_109 : decode cX4_headHolds 109 = .ok (.getfield 125, 3) := by decide +kernel
theorem dX4_headHolds_112 : decode cX4_headHolds 112 = .ok (.sipush 16384, 3) := by decide +kernel
theorem dX4_headHolds_115 : decode cX4_headHolds 115 = .ok (.if_icmp .gt 62, 3) := by decide +kernel
theorem dX4_headHolds_118 : decode cX4_headHolds 118 = .ok (.aload_n 0, 1) := by decide +kernel
theorem dX4_headHolds_119 : decode cX4_headHolds 119 = .ok (.getfield 9, 3) := by decide +kernel
theorem dX4_headHolds_122 : decode cX4_headHolds 122 = .ok (.getfield 131, 3) := by decide +kernel
theorem dX4_headHolds_125 : decode cX4_headHolds 125 = .ok (.ifCond .eq 14, 3) := by decide +kernel
theorem dX4_headHolds_128 : decode cX4_headHolds 128 = .ok (.aload_n 0, 1) := by decide +kernel
theorem dX4_headHolds_129 : decode cX4_headHolds 129 = .ok (.getfield 9, 3) := by decide +kernel
theorem dX4_headHolds_132 : decode cX4_headHolds 132 = .ok (.getfield 131, 3) := by decide +kernel
theorem dX4_headHolds_135 : decode cX4_headHolds 135 = .ok (.iconst 1, 1) := by decide +kernel
theorem dX4_headHolds_136 : decode cX4_headHolds 136 = .ok (.if_icmp .ne 41, 3) := by decide +kernel
theorem dX4_headHolds_139 : decode cX4_headHolds 139 = .ok (.aload_n 0, 1) := by decide +kernel
theorem dX4_headHolds_140 : decode cX4_headHolds 140 = .ok (.getfield 9, 3) := by decide +kernel
theorem dX4_headHolds_143 : decode cX4_headHolds 143 = .ok (.iload_n 1, 1) := by decide +kernel
theorem dX4_headHolds_144 : decode cX4_headHolds 144 = .ok (.bipush 52, 2) := by decide +kernel
theorem dX4_headHolds_146 : decode cX4_headHolds 146 = .ok (.iadd, 1) := by decide +kernel
theorem dX4_headHolds_147 : decode cX4_headHolds 147 = .ok (.invokevirtual 128, 3) := by decide +kernel
theorem dX4_headHolds_150 : decode cX4_headHolds 150 = .ok (.ifCond .ne 27, 3) := by decide +kernel
theorem dX4_headHolds_153 : decode cX4_headHolds 153 = .ok (.aload_n 0, 1) := by decide +kernel
theorem dX4_headHolds_154 : decode cX4_headHolds 154 = .ok (.iconst 0, 1) := by decide +kernel
theorem dX4_headHolds_155 : decode cX4_headHolds 155 = .ok (.aload_n 0, 1) := by decide +kernel
theorem dX4_headHolds_156 : decode cX4_headHolds 156 = .ok (.getfield 9, 3) := by decide +kernel
theorem dX4_headHolds_159 : decode cX4_headHolds 159 = .ok (.getfield 70, 3) := by decide +kernel
theorem dX4_headHolds_162 : decode cX4_headHolds 162 = .ok (.iconst 0, 1) := by decide +kernel
theorem dX4_headHolds_163 : decode cX4_headHolds 163 = .ok (.invokevirtual 106, 3) := by decide +kernel
theorem dX4_headHolds_166 : decode cX4_headHolds 166 = .ok (.ldc2_w 136, 3) := by decide +kernel
theorem dX4_headHolds_169 : decode cX4_headHolds 169 = .ok (.lcmp, 1) := by decide +kernel
theorem dX4_headHolds_170 : decode cX4_headHolds 170 = .ok (.ifCond .ne 7, 3) := by decide +kernel
theorem dX4_headHolds_173 : decode cX4_headHolds 173 = .ok (.iconst 1, 1) := by decide +kernel
theorem dX4_headHolds_174 : decode cX4_headHolds 174 = .ok (.goto 4, 3) := by decide +kernel
theorem dX4_headHolds_177 : decode cX4_headHolds 177 = .ok (.iconst 0, 1) := by decide +kernel
theorem dX4_headHolds_178 : decode cX4_headHolds 178 = .ok (.ireturn, 1) := by decide +kernel
def B_X4_headHolds_139 (N : Nat)  (l1 : Int32) (V : sv_V) : Option (Int32 × sv_V) := (F_X2_s2 (l1 + (52 : Int32)) V).bind (fun (x3, V1) => if x3 = 0 then ((F_X4_sumOf N (0 : Int32) (V1.1 2 1) (0 : Int32) V1).bind (fun (x7, V5) => if (lg_cmp x7 (2981146554 : Int64)) = 0 then (some ((1 : Int32), V5)) else (some ((0 : Int32), V5)))) else (some ((0 : Int32), V1)))
set_option maxRecDepth 20000 in
theorem tB_X4_headHolds_139 {g : sx_G} (hG : sx_Go g) {P : Option Value → sv_V → Prop} {r : Int32} {Vr : sv_V} (hP : P (some (.int r)) Vr) {N : Nat}   {l1 : Int32} {V : sv_V} (h : B_X4_headHolds_139 N  l1 V = some (r, Vr)) : sv_N g qX4_headHolds 2 139 [(0, .ref 29), (1, .int l1)] [] V P := by
  unfold B_X4_headHolds_139 at h
  refine sx_aload_n (pc := 139) dX4_headHolds_139 sx_m0 ?_
  refine sv_getO (pc := 140) hG dX4_headHolds_140 f_4_9 lay_29 rfl cr_29_0 ?_
  refine sx_iload_n (pc := 143) dX4_headHolds_143 sx_m1 ?_
  refine sx_bipush (pc := 144) (v := 52) dX4_headHolds_144 (by decide) ?_
  refine sx_iadd (pc := 146) dX4_headHolds_146 ?_
  obtain ⟨⟨x3, V1⟩, g2, h⟩ := sx_bnd h
  refine sv_cV (pc := 147) (y := qX2_s2) (o := (some (.int x3))) (as := [.int (l1 + (52 : Int32))]) (V1 := V1) hG dX4_headHolds_147 l_X4_128 y0X2_s2 yvX2_s2 rfl (Nat.le_of_ble_eq_true rfl) lay_2 kr_2 (by decide) (Nat.le_of_ble_eq_true rfl) rfl rfl rfl (t_X2_s2 hG ⟨rfl, rfl⟩ g2) ?_
  refine sx_if_ne (pc := 150) (tgt := 177) dX4_headHolds_150 (by decide) (fun c4 => ?_) (fun c4 => ?_)
  · have h := sx_neg c4 h
    refine sx_iconst (pc := 177) (v := 0) dX4_headHolds_177 (by decide) ?_
    exact sv_zret (pc := 178) dX4_headHolds_178 rfl rfl h hP
  · have h := sx_pos c4 h
    refine sx_aload_n (pc := 153) dX4_headHolds_153 sx_m0 ?_
    refine sx_iconst (pc := 154) (v := 0) dX4_headHolds_154 (by decide) ?_
    refine sx_aload_n (pc := 155) dX4_headHolds_155 sx_m0 ?_
    refine sv_getO (pc := 156) hG dX4_headHolds_156 f_4_9 lay_29 rfl cr_29_0 ?_
    refine sv_getI (pc := 159) hG dX4_headHolds_159 f_4_70 lay_2 rfl ?_
    refine sx_iconst (pc := 162) (v := 0) dX4_headHolds_162 (by decide) ?_
    obtain ⟨⟨x7, V5⟩, g6, h⟩ := sx_bnd h
    refine sv_cV (pc := 163) (y := qX4_sumOf) (o := (some (.long x7))) (as := [.int (0 : Int32), .int (V1.1 2 1), .int (0 : Int32)]) (V1 := V5) hG dX4_headHolds_163 l_X4_106 y0X4_sumOf yvX4_sumOf rfl (Nat.le_of_ble_eq_true rfl) lay_29 kr_4 (by decide) (Nat.le_of_ble_eq_true rfl) rfl rfl rfl (t_X4_sumOf hG ⟨rfl, rfl⟩ g6) ?_
    refine sx_ldc2 (pc := 166) dX4_headHolds_166 k_X4_136 ?_
    refine sx_lcmp (pc := 169) dX4_headHolds_169 ?_
    refine sx_if_ne (pc := 170) (tgt := 177) dX4_headHolds_170 (by decide) (fun c8 => ?_) (fun c8 => ?_)
    · have h := sx_neg c8 h
      refine sx_iconst (pc := 177) (v := 0) dX4_headHolds_177 (by decide) ?_
      exact sv_zret (pc := 178) dX4_headHolds_178 rfl rfl h hP
    · have h := sx_pos c8 h
      refine sx_iconst (pc := 173) (v := 1) dX4_headHolds_173 (by decide) ?_
      refine sx_goto (pc := 174) (tgt := 178) dX4_headHolds_174 (by decide) ?_
      exact sv_zret (pc := 178) dX4_headHolds_178 rfl rfl h hP
def F_X4_headHolds (N : Nat)  (V : sv_V) : Option (Int32 × sv_V) := sx_let (V.1 4 (2 : Int32).toNatClampNeg) (fun x9 => (F_X2_u2 (x9 + (18 : Int32)) V).bind (fun (x12, V10) => sx_let (sv_I V10 2 6 x12) (fun V13 => (F_X2_s2 (x9 + (50 : Int32)) V13).bind (fun (x16, V14) => sx_let (sv_I V14 2 9 x16) (fun V17 => if (V17.1 5 (2 : Int32).toNatClampNeg) = (54 : Int32) then ((F_X2_u4 x9 V17).bind (fun (x21, V19) => if (lg_cmp x21 (65536 : Int64)) = 0 then ((F_X2_u4 (x9 + (12 : Int32)) V19).bind (fun (x25, V23) => if (lg_cmp x25 (1594834165 : Int64)) = 0 then (if (V23.1 2 6) < (16 : Int32) then (some ((0 : Int32), V23)) else (if (16384 : Int32) < (V23.1 2 6) then (some ((0 : Int32), V23)) else (if (V23.1 2 9) = 0 then (B_X4_headHolds_139 N  x9 V23) else (if (V23.1 2 9) = (1 : Int32) then (B_X4_headHolds_139 N  x9 V23) else (some ((0 : Int32), V23)))))) else (some ((0 : Int32), V23)))) else (some ((0 : Int32), V19)))) else (some ((0 : Int32), V17)))))))
set_option maxRecDepth 20000 in
theorem t_X4_headHolds {g : sx_G} (hG : sx_Go g) {P : Option Value → sv_V → Prop} {r : Int32} {Vr : sv_V} (hP : P (some (.int r)) Vr) {N : Nat}  {V : sv_V} (h : F_X4_headHolds N  V = some (r, Vr)) : sv_N g qX4_headHolds 2 0 [(0, .ref 29)] [] V P := by
  unfold F_X4_headHolds at h
  refine sx_aload_n (pc := 0) dX4_headHolds_0 sx_m0 ?_
  refine sv_getO (pc := 1) hG dX4_headHolds_1 f_4_9 lay_29 rfl cr_29_0 ?_
  refine sv_getA (pc := 4) hG dX4_headHolds_4 f_4_115 lay_2 rfl cr_2_3 ?_
  refine sx_iconst (pc := 7) (v := 2) dX4_headHolds_7 (by decide) ?_
  refine sv_iald (pc := 8) hG dX4_headHolds_8 lay_4 (by decide) ?_
  refine sv_tI (fun x9 hx9 => ?_)
  have h := sx_letE hx9 h
  refine sx_istore_n (pc := 9) (lo' := [(1, .int x9), (0, .ref 29)]) dX4_headHolds_9 (by decide) rfl ?_
  refine sx_aload_n (pc := 10) dX4_headHolds_10 sx_m1 ?_
  refine sv_getO (pc := 11) hG dX4_headHolds_11 f_4_9 lay_29 rfl cr_29_0 ?_
  refine sx_aload_n (pc := 14) dX4_headHolds_14 sx_m1 ?_
  refine sv_getO (pc := 15) hG dX4_headHolds_15 f_4_9 lay_29 rfl cr_29_0 ?_
  refine sx_iload_n (pc := 18) dX4_headHolds_18 sx_m0 ?_
  refine sx_bipush (pc := 19) (v := 18) dX4_headHolds_19 (by decide) ?_
  refine sx_iadd (pc := 21) dX4_headHolds_21 ?_
  obtain ⟨⟨x12, V10⟩, g11, h⟩ := sx_bnd h
  refine sv_cV (pc := 22) (y := qX2_u2) (o := (some (.int x12))) (as := [.int (x9 + (18 : Int32))]) (V1 := V10) hG dX4_headHolds_22 l_X4_64 y0X2_u2 yvX2_u2 rfl (Nat.le_of_ble_eq_true rfl) lay_2 kr_2 (by decide) (Nat.le_of_ble_eq_true rfl) rfl rfl rfl (t_X2_u2 hG ⟨rfl, rfl⟩ g11) ?_
  obtain ⟨V13, hV13⟩ : ∃ z : sv_V, z = sv_I V10 2 6 x12 := ⟨_, rfl⟩
  have h := sx_letE hV13 h
  refine sv_putI (pc := 25) hG dX4_headHolds_25 f_4_125 lay_2 rfl hV13 ?_
  refine sx_aload_n (pc := 28) dX4_headHolds_28 sx_m1 ?_
  refine sv_getO (pc := 29) hG dX4_headHolds_29 f_4_9 lay_29 rfl cr_29_0 ?_
  refine sx_aload_n (pc := 32) dX4_headHolds_32 sx_m1 ?_
  refine sv_getO (pc := 33) hG dX4_headHolds_33 f_4_9 lay_29 rfl cr_29_0 ?_
  refine sx_iload_n (pc := 36) dX4_headHolds_36 sx_m0 ?_
  refine sx_bipush (pc := 37) (v := 50) dX4_headHolds_37 (by decide) ?_
  refine sx_iadd (pc := 39) dX4_headHolds_39 ?_
  obtain ⟨⟨x16, V14⟩, g15, h⟩ := sx_bnd h
  refine sv_cV (pc := 40) (y := qX2_s2) (o := (some (.int x16))) (as := [.int (x9 + (50 : Int32))]) (V1 := V14) hG dX4_headHolds_40 l_X4_128 y0X2_s2 yvX2_s2 rfl (Nat.le_of_ble_eq_true rfl) lay_2 kr_2 (by decide) (Nat.le_of_ble_eq_true rfl) rfl rfl rfl (t_X2_s2 hG ⟨rfl, rfl⟩ g15) ?_
  obtain ⟨V17, hV17⟩ : ∃ z : sv_V, z = sv_I V14 2 9 x16 := ⟨_, rfl⟩
  have h := sx_letE hV17 h
  refine sv_putI (pc := 43) hG dX4_headHolds_43 f_4_131 lay_2 rfl hV17 ?_
  refine sx_aload_n (pc := 46) dX4_headHolds_46 sx_m1 ?_
  refine sv_getO (pc := 47) hG dX4_headHolds_47 f_4_9 lay_29 rfl cr_29_0 ?_
  refine sv_getA (pc := 50) hG dX4_headHolds_50 f_4_118 lay_2 rfl cr_2_4 ?_
  refine sx_iconst (pc := 53) (v := 2) dX4_headHolds_53 (by decide) ?_
  refine sv_iald (pc := 54) hG dX4_headHolds_54 lay_5 (by decide) ?_
  refine sx_bipush (pc := 55) (v := 54) dX4_headHolds_55 (by decide) ?_
  refine sx_icmp_ne (pc := 57) (tgt := 177) dX4_headHolds_57 (by decide) (fun c18 => ?_) (fun c18 => ?_)
  · have h := sx_neg c18 h
    refine sx_iconst (pc := 177) (v := 0) dX4_headHolds_177 (by decide) ?_
    exact sv_zret (pc := 178) dX4_headHolds_178 rfl rfl h hP
  · have h := sx_pos c18 h
    refine sx_aload_n (pc := 60) dX4_headHolds_60 sx_m1 ?_
    refine sv_getO (pc := 61) hG dX4_headHolds_61 f_4_9 lay_29 rfl cr_29_0 ?_
    refine sx_iload_n (pc := 64) dX4_headHolds_64 sx_m0 ?_
    obtain ⟨⟨x21, V19⟩, g20, h⟩ := sx_bnd h
    refine sv_cV (pc := 65) (y := qX2_u4) (o := (some (.long x21))) (as := [.int x9]) (V1 := V19) hG dX4_headHolds_65 l_X4_74 y0X2_u4 yvX2_u4 rfl (Nat.le_of_ble_eq_true rfl) lay_2 kr_2 (by decide) (Nat.le_of_ble_eq_true rfl) rfl rfl rfl (t_X2_u4 hG ⟨rfl, rfl⟩ g20) ?_
    refine sx_ldc2 (pc := 68) dX4_headHolds_68 k_X4_78 ?_
    refine sx_lcmp (pc := 71) dX4_headHolds_71 ?_
    refine sx_if_ne (pc := 72) (tgt := 177) dX4_headHolds_72 (by decide) (fun c22 => ?_) (fun c22 => ?_)
    · have h := sx_neg c22 h
      refine sx_iconst (pc := 177) (v := 0) dX4_headHolds_177 (by decide) ?_
      exact sv_zret (pc := 178) dX4_headHolds_178 rfl rfl h hP
    · have h := sx_pos c22 h
      refine sx_aload_n (pc := 75) dX4_headHolds_75 sx_m1 ?_
      refine sv_getO (pc := 76) hG dX4_headHolds_76 f_4_9 lay_29 rfl cr_29_0 ?_
      refine sx_iload_n (pc := 79) dX4_headHolds_79 sx_m0 ?_
      refine sx_bipush (pc := 80) (v := 12) dX4_headHolds_80 (by decide) ?_
      refine sx_iadd (pc := 82) dX4_headHolds_82 ?_
      obtain ⟨⟨x25, V23⟩, g24, h⟩ := sx_bnd h
      refine sv_cV (pc := 83) (y := qX2_u4) (o := (some (.long x25))) (as := [.int (x9 + (12 : Int32))]) (V1 := V23) hG dX4_headHolds_83 l_X4_74 y0X2_u4 yvX2_u4 rfl (Nat.le_of_ble_eq_true rfl) lay_2 kr_2 (by decide) (Nat.le_of_ble_eq_true rfl) rfl rfl rfl (t_X2_u4 hG ⟨rfl, rfl⟩ g24) ?_
      refine sx_ldc2 (pc := 86) dX4_headHolds_86 k_X4_134 ?_
      refine sx_lcmp (pc := 89) dX4_headHolds_89 ?_
      refine sx_if_ne (pc := 90) (tgt := 177) dX4_headHolds_90 (by decide) (fun c26 => ?_) (fun c26 => ?_)
      · have h := sx_neg c26 h
        refine sx_iconst (pc := 177) (v := 0) dX4_headHolds_177 (by decide) ?_
        exact sv_zret (pc := 178) dX4_headHolds_178 rfl rfl h hP
      · have h := sx_pos c26 h
        refine sx_aload_n (pc := 93) dX4_headHolds_93 sx_m1 ?_
        refine sv_getO (pc := 94) hG dX4_headHolds_94 f_4_9 lay_29 rfl cr_29_0 ?_
        refine sv_getI (pc := 97) hG dX4_headHolds_97 f_4_125 lay_2 rfl ?_
        refine sx_bipush (pc := 100) (v := 16) dX4_headHolds_100 (by decide) ?_
        refine sx_icmp_lt (pc := 102) (tgt := 177) dX4_headHolds_102 (by decide) (fun c27 => ?_) (fun c27 => ?_)
        · have h := sx_pos c27 h
          refine sx_iconst (pc := 177) (v := 0) dX4_headHolds_177 (by decide) ?_
          exact sv_zret (pc := 178) dX4_headHolds_178 rfl rfl h hP
        · have h := sx_neg c27 h
          refine sx_aload_n (pc := 105) dX4_headHolds_105 sx_m1 ?_
          refine sv_getO (pc := 106) hG dX4_headHolds_106 f_4_9 lay_29 rfl cr_29_0 ?_
          refine sv_getI (pc := 109) hG dX4_headHolds_109 f_4_125 lay_2 rfl ?_
          refine sx_sipush (pc := 112) (v := 16384) dX4_headHolds_112 (by decide) ?_
          refine sx_icmp_gt (pc := 115) (tgt := 177) dX4_headHolds_115 (by decide) (fun c28 => ?_) (fun c28 => ?_)
          · have h := sx_pos c28 h
            refine sx_iconst (pc := 177) (v := 0) dX4_headHolds_177 (by decide) ?_
            exact sv_zret (pc := 178) dX4_headHolds_178 rfl rfl h hP
          · have h := sx_neg c28 h
            refine sx_aload_n (pc := 118) dX4_headHolds_118 sx_m1 ?_
            refine sv_getO (pc := 119) hG dX4_headHolds_119 f_4_9 lay_29 rfl cr_29_0 ?_
            refine sv_getI (pc := 122) hG dX4_headHolds_122 f_4_131 lay_2 rfl ?_
            refine sx_if_eq (pc := 125) (tgt := 139) dX4_headHolds_125 (by decide) (fun c29 => ?_) (fun c29 => ?_)
            · have h := sx_pos c29 h
              refine sx_wk (sx_s1 sx_m1 (sx_s1 sx_m0 sx_s0)) ?_
              exact tB_X4_headHolds_139 hG hP  h
            · have h := sx_neg c29 h
              refine sx_aload_n (pc := 128) dX4_headHolds_128 sx_m1 ?_
              refine sv_getO (pc := 129) hG dX4_headHolds_129 f_4_9 lay_29 rfl cr_29_0 ?_
              refine sv_getI (pc := 132) hG dX4_headHolds_132 f_4_131 lay_2 rfl ?_
              refine sx_iconst (pc := 135) (v := 1) dX4_headHolds_135 (by decide) ?_
              refine sx_icmp_ne (pc := 136) (tgt := 177) dX4_headHolds_136 (by decide) (fun c30 => ?_) (fun c30 => ?_)
              · have h := sx_neg c30 h
                refine sx_iconst (pc := 177) (v := 0) dX4_headHolds_177 (by decide) ?_
                exact sv_zret (pc := 178) dX4_headHolds_178 rfl rfl h hP
              · have h := sx_pos c30 h
                refine sx_wk (sx_s1 sx_m1 (sx_s1 sx_m0 sx_s0)) ?_
                exact tB_X4_headHolds_139 hG hP  h
theorem dX4_maxpHolds_0 : decode cX4_maxpHolds 0 = .ok (.aload_n 0, 1) := by decide +kernel
theorem dX4_maxpHolds_1 : decode cX4_maxpHolds 1 = .ok (.getfield 9, 3) := by decide +kernel
theorem dX4_maxpHolds_4 : decode cX4_maxpHolds 4 = .ok (.getfield 115, 3) := by decide +kernel
theorem dX4_maxpHolds_7 : decode cX4_maxpHolds 7 = .ok (.bipush 6, 2) := by decide +kernel
theorem dX4_maxpHolds_9 : decode cX4_maxpHolds 9 = .ok (.iaload, 1) := by decide +kernel
theorem dX4_maxpHolds_10 : decode cX4_maxpHolds 10 = .ok (.istore_n 1, 1) := by decide +kernel
theorem dX4_maxpHolds_11 : decode cX4_maxpHolds 11 = .ok (.aload_n 0, 1) := by decide +kernel
theorem dX4_maxpHolds_12 : decode cX4_maxpHolds 12 = .ok (.getfield 9, 3) := by decide +kernel
theorem dX4_maxpHolds_15 : decode cX4_maxpHolds 15 = .ok (.aload_n 0, 1) := by decide +kernel
theorem dX4_maxpHolds_16 : decode cX4_maxpHolds 16 = .ok (.getfield 9, 3) := by decide +kernel
theorem dX4_maxpHolds_19 : decode cX4_maxpHolds 19 = .ok (.iload_n 1, 1) := by decide +kernel
theorem dX4_maxpHolds_20 : decode cX4_maxpHolds 20 = .ok (.iconst 4, 1) := by decide +kernel
theorem dX4_maxpHolds_21 : decode cX4_maxpHolds 21 = .ok (.iadd, 1) := by decide +kernel
theorem dX4_maxpHolds_22 : decode cX4_maxpHolds 22 = .ok (.invokevirtual 64, 3) := by decide +kernel
theorem dX4_maxpHolds_25 : decode cX4_maxpHolds 25 = .ok (.putfield 138, 3) := by decide +kernel
theorem dX4_maxpHolds_28 : decode cX4_maxpHolds 28 = .ok (.aload_n 0, 1) := by decide +kernel
theorem dX4_maxpHolds_29 : decode cX4_maxpHolds 29 = .ok (.getfield 9, 3) := by decide +kernel
theorem dX4_maxpHolds_32 : decode cX4_maxpHolds 32 = .ok (.getfield 118, 3) := by decide +kernel
theorem dX4_maxpHolds_35 : decode cX4_maxpHolds 35 = .ok (.bipush 6, 2) := by decide +kernel
theorem dX4_maxpHolds_37 : decode cX4_maxpHolds 37 = .ok (.iaload, 1) := by decide +kernel
theorem dX4_maxpHolds_38 : decode cX4_maxpHolds 38 = .ok (.bipush 32, 2) := by decide +kernel
theorem dX4_maxpHolds_40 : decode cX4_maxpHolds 40 = .ok (.if_icmp .ne 42, 3) := by decide +kernel
theorem dX4_maxpHolds_43 : decode cX4_maxpHolds 43 = .ok (.aload_n 0, 1) := by decide +kernel
theorem dX4_maxpHolds_44 : decode cX4_maxpHolds 44 = .ok (.getfield 9, 3) := by decide +kernel
theorem dX4_maxpHolds_47 : decode cX4_maxpHolds 47 = .ok (.iload_n 1, 1) := by decide +kernel
theorem dX4_maxpHolds_48 : decode cX4_maxpHolds 48 = .ok (.invokevirtual 74, 3) := by decide +kernel
theorem dX4_maxpHolds_51 : decode cX4_maxpHolds 51 = .ok (.ldc2_w 78, 3) := by decide +kernel
theorem dX4_maxpHolds_54 : decode cX4_maxpHolds 54 = .ok (.lcmp, 1) := by decide +kernel
theorem dX4_maxpHolds_55 : decode cX4_maxpHolds 55 = .ok (.ifCond .ne 27, 3) := by decide +kernel
theorem dX4_maxpHolds_58 : decode cX4_maxpHolds 58 = .ok (.aload_n 0, 1) := by decide +kernel
theorem dX4_maxpHolds_59 : decode cX4_maxpHolds 59 = .ok (.getfield 9, 3) := by decide +kernel
theorem dX4_maxpHolds_62 : decode cX4_maxpHolds 62 = .ok (.getfield 138, 3) := by decide +kernel
theorem dX4_maxpHolds_65 : decode cX4_maxpHolds 65 = .ok (.iconst 1, 1) := by decide +kernel
theorem dX4_maxpHolds_66 : decode cX4_maxpHolds 66 = .ok (.if_icmp .lt 16, 3) := by decide +kernel
theorem dX4_maxpHolds_69 : decode cX4_maxpHolds 69 = .ok (.aload_n 0, 1) := by decide +kernel
theorem dX4_maxpHolds_70 : decode cX4_maxpHolds 70 = .ok (.getfield 9, 3) := by decide +kernel
theorem dX4_maxpHolds_73 : decode cX4_maxpHolds 73 = .ok (.getfield 138, 3) := by decide +kernel
theorem dX4_maxpHolds_76 : decode cX4_maxpHolds 76 = .ok (.sipush 200, 3) := by decide +kernel
theorem dX4_maxpHolds_79 : decode cX4_maxpHolds 79 = .ok (.if_icmp .le 5, 3) := by decide +kernel
theorem dX4_maxpHolds_82 : decode cX4_maxpHolds 82 = .ok (.iconst 0, 1) := by decide +kernel
theorem dX4_maxpHolds_83 : decode cX4_maxpHolds 83 = .ok (.ireturn, 1) := by decide +kernel
theorem dX4_maxpHolds_84 : decode cX4_maxpHolds 84 = .ok (.iconst 0, 1) := by decide +kernel
theorem dX4_maxpHolds_85 : decode cX4_maxpHolds 85 = .ok (.istore_n 2, 1) := by decide +kernel
theorem dX4_maxpHolds_86 : decode cX4_maxpHolds 86 = .ok (.iload_n 2, 1) := by decide +kernel
theorem dX4_maxpHolds_87 : decode cX4_maxpHolds 87 = .ok (.getstatic 141, 3) := by decide +kernel
theorem dX4_maxpHolds_90 : decode cX4_maxpHolds 90 = .ok (.arraylength, 1) := by decide +kernel
theorem dX4_maxpHolds_91 : decode cX4_maxpHolds 91 = .ok (.if_icmp .ge 54, 3) := by decide +kernel
theorem dX4_maxpHolds_94 : decode cX4_maxpHolds 94 = .ok (.aload_n 0, 1) := by decide +kernel
theorem dX4_maxpHolds_95 : decode cX4_maxpHolds 95 = .ok (.getfield 9, 3) := by decide +kernel
theorem dX4_maxpHolds_98 : decode cX4_maxpHolds 98 = .ok (.iload_n 1, 1) := by decide +kernel
theorem dX4_maxpHolds_99 : decode cX4_maxpHolds 99 = .ok (.getstatic 141, 3) := by decide +kernel
theorem dX4_maxpHolds_102 : decode cX4_maxpHolds 102 = .ok (.iload_n 2, 1) := by decide +kernel
theorem dX4_maxpHolds_103 : decode cX4_maxpHolds 103 = .ok (.iaload, 1) := by decide +kernel
theorem dX4_maxpHolds_104 : decode cX4_maxpHolds 104 = .ok (.iadd, 1) := by decide +kernel
theorem dX4_maxpHolds_105 : decode cX4_maxpHolds 105 = .ok (.invokevirtual 64, 3) := by decide +kernel
theorem dX4_maxpHolds_108 : decode cX4_maxpHolds 108 = .ok (.istore_n 3, 1) := by decide +kernel
theorem dX4_maxpHolds_109 : decode cX4_maxpHolds 109 = .ok (.iload_n 3, 1) := by decide +kernel
theorem dX4_maxpHolds_110 : decode cX4_maxpHolds 110 = .ok (.getstatic 144, 3) := by decide +kernel
theorem dX4_maxpHolds_113 : decode cX4_maxpHolds 113 = .ok (.iload_n 2, 1) := by decide +kernel
theorem dX4_maxpHolds_114 : decode cX4_maxpHolds 114 = .ok (.iaload, 1) := by decide +kernel
theorem dX4_maxpHolds_115 : decode cX4_maxpHolds 115 = .ok (.if_icmp .lt 12, 3) := by decide +kernel
theorem dX4_maxpHolds_118 : decode cX4_maxpHolds 118 = .ok (.iload_n 3, 1) := by decide +kernel
theorem dX4_maxpHolds_119 : decode cX4_maxpHolds 119 = .ok (.getstatic 147, 3) := by decide +kernel
theorem dX4_maxpHolds_122 : decode cX4_maxpHolds 122 = .ok (.iload_n 2, 1) := by decide +kernel
theorem dX4_maxpHolds_123 : decode cX4_maxpHolds 123 = .ok (.iaload, 1) := by decide +kernel
theorem dX4_maxpHolds_124 : decode cX4_maxpHolds 124 = .ok (.if_icmp .le 5, 3) := by decide +kernel
theorem dX4_maxpHolds_127 : decode cX4_maxpHolds 127 = .ok (.iconst 0, 1) := by decide +kernel
theorem dX4_maxpHolds_128 : decode cX4_maxpHolds 128 = .ok (.ireturn, 1) := by decide +kernel
theorem dX4_maxpHolds_129 : decode cX4_maxpHolds 129 = .ok (.aload_n 0, 1) := by decide +kernel
theorem dX4_maxpHolds_130 : decode cX4_maxpHolds 130 = .ok (.getfield 9, 3) := by decide +kernel
theorem dX4_maxpHolds_133 : decode cX4_maxpHolds 133 = .ok (.getfield 150, 3) := by decide +kernel
theorem dX4_maxpHolds_136 : decode cX4_maxpHolds 136 = .ok (.iload_n 2, 1) := by decide +kernel
theorem dX4_maxpHolds_137 : decode cX4_maxpHolds 137 = .ok (.iload_n 3, 1) := by decide +kernel
theorem dX4_maxpHolds_138 : decode cX4_maxpHolds 138 = .ok (.iastore, 1) := by decide +kernel
theorem dX4_maxpHolds_139 : decode cX4_maxpHolds 139 = .ok (.iinc 2 1, 3) := by decide +kernel
theorem dX4_maxpHolds_142 : decode cX4_maxpHolds 142 = .ok (.goto (-56), 3) := by decide +kernel
theorem dX4_maxpHolds_145 : decode cX4_maxpHolds 145 = .ok (.aload_n 0, 1) := by decide +kernel
theorem dX4_maxpHolds_146 : decode cX4_maxpHolds 146 = .ok (.getfield 9, 3) := by decide +kernel
theorem dX4_maxpHolds_149 : decode cX4_maxpHolds 149 = .ok (.getfield 150, 3) := by decide +kernel
theorem dX4_maxpHolds_152 : decode cX4_maxpHolds 152 = .ok (.iconst 0, 1) := by decide +kernel
theorem dX4_maxpHolds_153 : decode cX4_maxpHolds 153 = .ok (.iaload, 1) := by decide +kernel
theorem dX4_maxpHolds_154 : decode cX4_maxpHolds 154 = .ok (.iconst 2, 1) := by decide +kernel
theorem dX4_maxpHolds_155 : decode cX4_maxpHolds 155 = .ok (.if_icmp .eq 15, 3) := by decide +kernel
theorem dX4_maxpHolds_158 : decode cX4_maxpHolds 158 = .ok (.aload_n 0, 1) := by decide +kernel
theorem dX4_maxpHolds_159 : decode cX4_maxpHolds 159 = .ok (.getfield 9, 3) := by decide +kernel
theorem dX4_maxpHolds_162 : decode cX4_maxpHolds 162 = .ok (.getfield 150, 3) := by decide +kernel
theorem dX4_maxpHolds_165 : decode cX4_maxpHolds 165 = .ok (.iconst 1, 1) := by decide +kernel
theorem dX4_maxpHolds_166 : decode cX4_maxpHolds 166 = .ok (.iaload, 1) := by decide +kernel
theorem dX4_maxpHolds_167 : decode cX4_maxpHolds 167 = .ok (.ifCond .ne 7, 3) := by decide +kernel
theorem dX4_maxpHolds_170 : decode cX4_maxpHolds 170 = .ok (.iconst 1, 1) := by decide +kernel
theorem dX4_maxpHolds_171 : decode cX4_maxpHolds 171 = .ok (.goto 4, 3) := by decide +kernel
theorem dX4_maxpHolds_174 : decode cX4_maxpHolds 174 = .ok (.iconst 0, 1) := by decide +kernel
theorem dX4_maxpHolds_175 : decode cX4_maxpHolds 175 = .ok (.ireturn, 1) := by decide +kernel
def B_X4_maxpHolds_170 (N : Nat)   (V : sv_V) : Option (Int32 × sv_V) := some ((1 : Int32), V)
set_option maxRecDepth 20000 in
theorem tB_X4_maxpHolds_170 {g : sx_G} (hG : sx_Go g) {P : Option Value → sv_V → Prop} {r : Int32} {Vr : sv_V} (hP : P (some (.int r)) Vr) {N : Nat}    {V : sv_V} (h : B_X4_maxpHolds_170 N   V = some (r, Vr)) : sv_N g qX4_maxpHolds 2 170 [] [] V P := by
  unfold B_X4_maxpHolds_170 at h
  refine sx_iconst (pc := 170) (v := 1) dX4_maxpHolds_170 (by decide) ?_
  refine sx_goto (pc := 171) (tgt := 175) dX4_maxpHolds_171 (by decide) ?_
  exact sv_zret (pc := 175) dX4_maxpHolds_175 rfl rfl h hP
def B_X4_maxpHolds_86 (N : Nat) (k86 : Int32 → Int32 → sv_V → Option (Int32 × sv_V)) (l1 : Int32) (l2 : Int32) (V : sv_V) : Option (Int32 × sv_V) := if (Int32.ofNat 7) ≤ l2 then (if (V.1 6 (0 : Int32).toNatClampNeg) = (2 : Int32) then (B_X4_maxpHolds_170 N   V) else (if (V.1 6 (1 : Int32).toNatClampNeg) = 0 then (B_X4_maxpHolds_170 N   V) else (some ((0 : Int32), V)))) else (if sx_in l2 7 = true then (F_X2_u2 (l1 + (V.1 1002 l2.toNatClampNeg)) V).bind (fun (x7, V5) => if sx_in l2 7 = true then if x7 < (V5.1 1004 l2.toNatClampNeg) then (some ((0 : Int32), V5)) else (if sx_in l2 7 = true then if x7 ≤ (V5.1 1005 l2.toNatClampNeg) then (if sx_in l2 7 = true then sx_let (sv_I V5 6 l2.toNatClampNeg x7) (fun V13 => sx_let (l2 + 1) (fun x14 => k86 l1 x14 V13)) else none) else (some ((0 : Int32), V5)) else none) else none) else none)
set_option maxRecDepth 20000 in
theorem tB_X4_maxpHolds_86 {g : sx_G} (hG : sx_Go g) {P : Option Value → sv_V → Prop} {r : Int32} {Vr : sv_V} (hP : P (some (.int r)) Vr) {N : Nat} {k86 : Int32 → Int32 → sv_V → Option (Int32 × sv_V)} (hk86 : ∀ (l1 : Int32) (l2 : Int32) (V : sv_V), k86 l1 l2 V = some (r, Vr) → sv_N g qX4_maxpHolds 2 86 [(0, .ref 29), (1, .int l1), (2, .int l2)] [] V P) {l1 : Int32} {l2 : Int32} {V : sv_V} (h : B_X4_maxpHolds_86 N k86 l1 l2 V = some (r, Vr)) : sv_N g qX4_maxpHolds 2 86 [(0, .ref 29), (1, .int l1), (2, .int l2)] [] V P := by
  unfold B_X4_maxpHolds_86 at h
  refine sx_iload_n (pc := 86) dX4_maxpHolds_86 sx_m2 ?_
  refine sv_getS (pc := 87) (j := 1) dX4_maxpHolds_87 rfl n_X4_141 ?_
  refine sv_xlen (pc := 90) hG dX4_maxpHolds_90 lay_1002 ?_
  refine sx_icmp_ge (pc := 91) (tgt := 145) dX4_maxpHolds_91 (by decide) (fun c1 => ?_) (fun c1 => ?_)
  · have h := sx_pos c1 h
    refine sx_aload_n (pc := 145) dX4_maxpHolds_145 sx_m0 ?_
    refine sv_getO (pc := 146) hG dX4_maxpHolds_146 f_4_9 lay_29 rfl cr_29_0 ?_
    refine sv_getA (pc := 149) hG dX4_maxpHolds_149 f_4_150 lay_2 rfl cr_2_10 ?_
    refine sx_iconst (pc := 152) (v := 0) dX4_maxpHolds_152 (by decide) ?_
    refine sv_iald (pc := 153) hG dX4_maxpHolds_153 lay_6 (by decide) ?_
    refine sx_iconst (pc := 154) (v := 2) dX4_maxpHolds_154 (by decide) ?_
    refine sx_icmp_eq (pc := 155) (tgt := 170) dX4_maxpHolds_155 (by decide) (fun c2 => ?_) (fun c2 => ?_)
    · have h := sx_pos c2 h
      refine sx_wk sx_s0 ?_
      exact tB_X4_maxpHolds_170 hG hP  h
    · have h := sx_neg c2 h
      refine sx_aload_n (pc := 158) dX4_maxpHolds_158 sx_m0 ?_
      refine sv_getO (pc := 159) hG dX4_maxpHolds_159 f_4_9 lay_29 rfl cr_29_0 ?_
      refine sv_getA (pc := 162) hG dX4_maxpHolds_162 f_4_150 lay_2 rfl cr_2_10 ?_
      refine sx_iconst (pc := 165) (v := 1) dX4_maxpHolds_165 (by decide) ?_
      refine sv_iald (pc := 166) hG dX4_maxpHolds_166 lay_6 (by decide) ?_
      refine sx_if_ne (pc := 167) (tgt := 174) dX4_maxpHolds_167 (by decide) (fun c3 => ?_) (fun c3 => ?_)
      · have h := sx_neg c3 h
        refine sx_iconst (pc := 174) (v := 0) dX4_maxpHolds_174 (by decide) ?_
        exact sv_zret (pc := 175) dX4_maxpHolds_175 rfl rfl h hP
      · have h := sx_pos c3 h
        refine sx_wk sx_s0 ?_
        exact tB_X4_maxpHolds_170 hG hP  h
  · have h := sx_neg c1 h
    refine sx_aload_n (pc := 94) dX4_maxpHolds_94 sx_m0 ?_
    refine sv_getO (pc := 95) hG dX4_maxpHolds_95 f_4_9 lay_29 rfl cr_29_0 ?_
    refine sx_iload_n (pc := 98) dX4_maxpHolds_98 sx_m1 ?_
    refine sv_getS (pc := 99) (j := 1) dX4_maxpHolds_99 rfl n_X4_141 ?_
    refine sx_iload_n (pc := 102) dX4_maxpHolds_102 sx_m2 ?_
    obtain ⟨g4, h⟩ := sx_grd h
    refine sv_xld (pc := 103) hG dX4_maxpHolds_103 lay_1002 g4 ?_
    refine sx_iadd (pc := 104) dX4_maxpHolds_104 ?_
    obtain ⟨⟨x7, V5⟩, g6, h⟩ := sx_bnd h
    refine sv_cV (pc := 105) (y := qX2_u2) (o := (some (.int x7))) (as := [.int (l1 + (V.1 1002 l2.toNatClampNeg))]) (V1 := V5) hG dX4_maxpHolds_105 l_X4_64 y0X2_u2 yvX2_u2 rfl (Nat.le_of_ble_eq_true rfl) lay_2 kr_2 (by decide) (Nat.le_of_ble_eq_true rfl) rfl rfl rfl (t_X2_u2 hG ⟨rfl, rfl⟩ g6) ?_
    refine sx_istore_n (pc := 108) (lo' := [(3, .int x7), (0, .ref 29), (1, .int l1), (2, .int l2)]) dX4_maxpHolds_108 (by decide) rfl ?_
    refine sx_iload_n (pc := 109) dX4_maxpHolds_109 sx_m0 ?_
    refine sv_getS (pc := 110) (j := 3) dX4_maxpHolds_110 rfl n_X4_144 ?_
    refine sx_iload_n (pc := 113) dX4_maxpHolds_113 sx_m3 ?_
    obtain ⟨g8, h⟩ := sx_grd h
    refine sv_xld (pc := 114) hG dX4_maxpHolds_114 lay_1004 g8 ?_
    refine sx_icmp_lt (pc := 115) (tgt := 127) dX4_maxpHolds_115 (by decide) (fun c9 => ?_) (fun c9 => ?_)
    · have h := sx_pos c9 h
      refine sx_iconst (pc := 127) (v := 0) dX4_maxpHolds_127 (by decide) ?_
      exact sv_zret (pc := 128) dX4_maxpHolds_128 rfl rfl h hP
    · have h := sx_neg c9 h
      refine sx_iload_n (pc := 118) dX4_maxpHolds_118 sx_m0 ?_
      refine sv_getS (pc := 119) (j := 4) dX4_maxpHolds_119 rfl n_X4_147 ?_
      refine sx_iload_n (pc := 122) dX4_maxpHolds_122 sx_m3 ?_
      obtain ⟨g10, h⟩ := sx_grd h
      refine sv_xld (pc := 123) hG dX4_maxpHolds_123 lay_1005 g10 ?_
      refine sx_icmp_le (pc := 124) (tgt := 129) dX4_maxpHolds_124 (by decide) (fun c11 => ?_) (fun c11 => ?_)
      · have h := sx_pos c11 h
        refine sx_aload_n (pc := 129) dX4_maxpHolds_129 sx_m1 ?_
        refine sv_getO (pc := 130) hG dX4_maxpHolds_130 f_4_9 lay_29 rfl cr_29_0 ?_
        refine sv_getA (pc := 133) hG dX4_maxpHolds_133 f_4_150 lay_2 rfl cr_2_10 ?_
        refine sx_iload_n (pc := 136) dX4_maxpHolds_136 sx_m3 ?_
        refine sx_iload_n (pc := 137) dX4_maxpHolds_137 sx_m0 ?_
        obtain ⟨g12, h⟩ := sx_grd h
        obtain ⟨V13, hV13⟩ : ∃ z : sv_V, z = sv_I V5 6 l2.toNatClampNeg x7 := ⟨_, rfl⟩
        have h := sx_letE hV13 h
        refine sv_iast (pc := 138) hG dX4_maxpHolds_138 lay_6 g12 hV13 ?_
        obtain ⟨x14, hx14⟩ : ∃ z : Int32, z = l2 + 1 := ⟨_, rfl⟩
        have h := sx_letE hx14 h
        refine sx_iinc (pc := 139) (v := x14) (lo' := [(2, .int x14), (3, .int x7), (0, .ref 29), (1, .int l1)]) dX4_maxpHolds_139 sx_m3 (by rw [hx14]; rfl) (by decide) rfl ?_
        refine sx_goto (pc := 142) (tgt := 86) dX4_maxpHolds_142 (by decide) ?_
        refine sx_wk (sx_s1 sx_m2 (sx_s1 sx_m3 (sx_s1 sx_m0 sx_s0))) ?_
        exact hk86 _ _ _ h
      · have h := sx_neg c11 h
        refine sx_iconst (pc := 127) (v := 0) dX4_maxpHolds_127 (by decide) ?_
        exact sv_zret (pc := 128) dX4_maxpHolds_128 rfl rfl h hP
theorem tL_X4_maxpHolds_86 {g : sx_G} (hG : sx_Go g) {P : Option Value → sv_V → Prop} {r : Int32} {Vr : sv_V} (hP : P (some (.int r)) Vr) {N : Nat}   : ∀ (n : Nat) (l1 : Int32) (l2 : Int32) (V : sv_V), sx_lp3 (B_X4_maxpHolds_86 N ) n l1 l2 V = some (r, Vr) → sv_N g qX4_maxpHolds 2 86 [(0, .ref 29), (1, .int l1), (2, .int l2)] [] V P :=
  sx_lp3_ind (fun k0 ih _ _ V h => tB_X4_maxpHolds_86 hG hP ih h)
def F_X4_maxpHolds (N : Nat)  (V : sv_V) : Option (Int32 × sv_V) := sx_let (V.1 4 (6 : Int32).toNatClampNeg) (fun x15 => (F_X2_u2 (x15 + (4 : Int32)) V).bind (fun (x18, V16) => sx_let (sv_I V16 2 7 x18) (fun V19 => if (V19.1 5 (6 : Int32).toNatClampNeg) = (32 : Int32) then ((F_X2_u4 x15 V19).bind (fun (x23, V21) => if (lg_cmp x23 (65536 : Int64)) = 0 then (if (V21.1 2 7) < (1 : Int32) then (some ((0 : Int32), V21)) else (if (V21.1 2 7) ≤ (200 : Int32) then (sx_lp3 (B_X4_maxpHolds_86 N ) N x15 (0 : Int32) V21) else (some ((0 : Int32), V21)))) else (some ((0 : Int32), V21)))) else (some ((0 : Int32), V19)))))
set_option maxRecDepth 20000 in
theorem t_X4_maxpHolds {g : sx_G} (hG : sx_Go g) {P : Option Value → sv_V → Prop} {r : Int32} {Vr : sv_V} (hP : P (some (.int r)) Vr) {N : Nat}  {V : sv_V} (h : F_X4_maxpHolds N  V = some (r, Vr)) : sv_N g qX4_maxpHolds 2 0 [(0, .ref 29)] [] V P := by
  unfold F_X4_maxpHolds at h
  refine sx_aload_n (pc := 0) dX4_maxpHolds_0 sx_m0 ?_
  refine sv_getO (pc := 1) hG dX4_maxpHolds_1 f_4_9 lay_29 rfl cr_29_0 ?_
  refine sv_getA (pc := 4) hG dX4_maxpHolds_4 f_4_115 lay_2 rfl cr_2_3 ?_
  refine sx_bipush (pc := 7) (v := 6) dX4_maxpHolds_7 (by decide) ?_
  refine sv_iald (pc := 9) hG dX4_maxpHolds_9 lay_4 (by decide) ?_
  refine sv_tI (fun x15 hx15 => ?_)
  have h := sx_letE hx15 h
  refine sx_istore_n (pc := 10) (lo' := [(1, .int x15), (0, .ref 29)]) dX4_maxpHolds_10 (by decide) rfl ?_
  refine sx_aload_n (pc := 11) dX4_maxpHolds_11 sx_m1 ?_
  refine sv_getO (pc := 12) hG dX4_maxpHolds_12 f_4_9 lay_29 rfl cr_29_0 ?_
  refine sx_aload_n (pc := 15) dX4_maxpHolds_15 sx_m1 ?_
  refine sv_getO (pc := 16) hG dX4_maxpHolds_16 f_4_9 lay_29 rfl cr_29_0 ?_
  refine sx_iload_n (pc := 19) dX4_maxpHolds_19 sx_m0 ?_
  refine sx_iconst (pc := 20) (v := 4) dX4_maxpHolds_20 (by decide) ?_
  refine sx_iadd (pc := 21) dX4_maxpHolds_21 ?_
  obtain ⟨⟨x18, V16⟩, g17, h⟩ := sx_bnd h
  refine sv_cV (pc := 22) (y := qX2_u2) (o := (some (.int x18))) (as := [.int (x15 + (4 : Int32))]) (V1 := V16) hG dX4_maxpHolds_22 l_X4_64 y0X2_u2 yvX2_u2 rfl (Nat.le_of_ble_eq_true rfl) lay_2 kr_2 (by decide) (Nat.le_of_ble_eq_true rfl) rfl rfl rfl (t_X2_u2 hG ⟨rfl, rfl⟩ g17) ?_
  obtain ⟨V19, hV19⟩ : ∃ z : sv_V, z = sv_I V16 2 7 x18 := ⟨_, rfl⟩
  have h := sx_letE hV19 h
  refine sv_putI (pc := 25) hG dX4_maxpHolds_25 f_4_138 lay_2 rfl hV19 ?_
  refine sx_aload_n (pc := 28) dX4_maxpHolds_28 sx_m1 ?_
  refine sv_getO (pc := 29) hG dX4_maxpHolds_29 f_4_9 lay_29 rfl cr_29_0 ?_
  refine sv_getA (pc := 32) hG dX4_maxpHolds_32 f_4_118 lay_2 rfl cr_2_4 ?_
  refine sx_bipush (pc := 35) (v := 6) dX4_maxpHolds_35 (by decide) ?_
  refine sv_iald (pc := 37) hG dX4_maxpHolds_37 lay_5 (by decide) ?_
  refine sx_bipush (pc := 38) (v := 32) dX4_maxpHolds_38 (by decide) ?_
  refine sx_icmp_ne (pc := 40) (tgt := 82) dX4_maxpHolds_40 (by decide) (fun c20 => ?_) (fun c20 => ?_)
  · have h := sx_neg c20 h
    refine sx_iconst (pc := 82) (v := 0) dX4_maxpHolds_82 (by decide) ?_
    exact sv_zret (pc := 83) dX4_maxpHolds_83 rfl rfl h hP
  · have h := sx_pos c20 h
    refine sx_aload_n (pc := 43) dX4_maxpHolds_43 sx_m1 ?_
    refine sv_getO (pc := 44) hG dX4_maxpHolds_44 f_4_9 lay_29 rfl cr_29_0 ?_
    refine sx_iload_n (pc := 47) dX4_maxpHolds_47 sx_m0 ?_
    obtain ⟨⟨x23, V21⟩, g22, h⟩ := sx_bnd h
    refine sv_cV (pc := 48) (y := qX2_u4) (o := (some (.long x23))) (as := [.int x15]) (V1 := V21) hG dX4_maxpHolds_48 l_X4_74 y0X2_u4 yvX2_u4 rfl (Nat.le_of_ble_eq_true rfl) lay_2 kr_2 (by decide) (Nat.le_of_ble_eq_true rfl) rfl rfl rfl (t_X2_u4 hG ⟨rfl, rfl⟩ g22) ?_
    refine sx_ldc2 (pc := 51) dX4_maxpHolds_51 k_X4_78 ?_
    refine sx_lcmp (pc := 54) dX4_maxpHolds_54 ?_
    refine sx_if_ne (pc := 55) (tgt := 82) dX4_maxpHolds_55 (by decide) (fun c24 => ?_) (fun c24 => ?_)
    · have h := sx_neg c24 h
      refine sx_iconst (pc := 82) (v := 0) dX4_maxpHolds_82 (by decide) ?_
      exact sv_zret (pc := 83) dX4_maxpHolds_83 rfl rfl h hP
    · have h := sx_pos c24 h
      refine sx_aload_n (pc := 58) dX4_maxpHolds_58 sx_m1 ?_
      refine sv_getO (pc := 59) hG dX4_maxpHolds_59 f_4_9 lay_29 rfl cr_29_0 ?_
      refine sv_getI (pc := 62) hG dX4_maxpHolds_62 f_4_138 lay_2 rfl ?_
      refine sx_iconst (pc := 65) (v := 1) dX4_maxpHolds_65 (by decide) ?_
      refine sx_icmp_lt (pc := 66) (tgt := 82) dX4_maxpHolds_66 (by decide) (fun c25 => ?_) (fun c25 => ?_)
      · have h := sx_pos c25 h
        refine sx_iconst (pc := 82) (v := 0) dX4_maxpHolds_82 (by decide) ?_
        exact sv_zret (pc := 83) dX4_maxpHolds_83 rfl rfl h hP
      · have h := sx_neg c25 h
        refine sx_aload_n (pc := 69) dX4_maxpHolds_69 sx_m1 ?_
        refine sv_getO (pc := 70) hG dX4_maxpHolds_70 f_4_9 lay_29 rfl cr_29_0 ?_
        refine sv_getI (pc := 73) hG dX4_maxpHolds_73 f_4_138 lay_2 rfl ?_
        refine sx_sipush (pc := 76) (v := 200) dX4_maxpHolds_76 (by decide) ?_
        refine sx_icmp_le (pc := 79) (tgt := 84) dX4_maxpHolds_79 (by decide) (fun c26 => ?_) (fun c26 => ?_)
        · have h := sx_pos c26 h
          refine sx_iconst (pc := 84) (v := 0) dX4_maxpHolds_84 (by decide) ?_
          refine sx_istore_n (pc := 85) (lo' := [(2, .int (0 : Int32)), (1, .int x15), (0, .ref 29)]) dX4_maxpHolds_85 (by decide) rfl ?_
          refine sx_wk (sx_s1 sx_m2 (sx_s1 sx_m1 (sx_s1 sx_m0 sx_s0))) ?_
          exact tL_X4_maxpHolds_86 hG hP  N _ _ _ h
        · have h := sx_neg c26 h
          refine sx_iconst (pc := 82) (v := 0) dX4_maxpHolds_82 (by decide) ?_
          exact sv_zret (pc := 83) dX4_maxpHolds_83 rfl rfl h hP
theorem dX4_hheaHolds_0 : decode cX4_hheaHolds 0 = .ok (.aload_n 0, 1) := by decide +kernel
theorem dX4_hheaHolds_1 : decode cX4_hheaHolds 1 = .ok (.getfield 9, 3) := by decide +kernel
theorem dX4_hheaHolds_4 : decode cX4_hheaHolds 4 = .ok (.aload_n 0, 1) := by decide +kernel
theorem dX4_hheaHolds_5 : decode cX4_hheaHolds 5 = .ok (.getfield 9, 3) := by decide +kernel
theorem dX4_hheaHolds_8 : decode cX4_hheaHolds 8 = .ok (.aload_n 0, 1) := by decide +kernel
theorem dX4_hheaHolds_9 : decode cX4_hheaHolds 9 = .ok (.getfield 9, 3) := by decide +kernel
theorem dX4_hheaHolds_12 : decode cX4_hheaHolds 12 = .ok (.getfield 115, 3) := by decide +kernel
theorem dX4_hheaHolds_15 : decode cX4_hheaHolds 15 = .ok (.iconst 3, 1) := by decide +kernel
theorem dX4_hheaHolds_16 : decode cX4_hheaHolds 16 = .ok (.iaload, 1) := by decide +kernel
theorem dX4_hheaHolds_17 : decode cX4_hheaHolds 17 = .ok (.bipush 34, 2) := by decide +kernel
theorem dX4_hheaHolds_19 : decode cX4_hheaHolds 19 = .ok (.iadd, 1) := by decide +kernel
theorem dX4_hheaHolds_20 : decode cX4_hheaHolds 20 = .ok (.invokevirtual 64, 3) := by decide +kernel
theorem dX4_hheaHolds_23 : decode cX4_hheaHolds 23 = .ok (.putfield 153, 3) := by decide +kernel
theorem dX4_hheaHolds_26 : decode cX4_hheaHolds 26 = .ok (.aload_n 0, 1) := by decide +kernel
theorem dX4_hheaHolds_27 : decode cX4_hheaHolds 27 = .ok (.getfield 9, 3) := by decide +kernel
theorem dX4_hheaHolds_30 : decode cX4_hheaHolds 30 = .ok (.getfield 118, 3) := by decide +kernel
theorem dX4_hheaHolds_33 : decode cX4_hheaHolds 33 = .ok (.iconst 3, 1) := by decide +kernel
theorem dX4_hheaHolds_34 : decode cX4_hheaHolds 34 = .ok (.iaload, 1) := by decide +kernel
theorem dX4_hheaHolds_35 : decode cX4_hheaHolds 35 = .ok (.bipush 36, 2) := by decide +kernel
theorem dX4_hheaHolds_37 : decode cX4_hheaHolds 37 = .ok (.if_icmp .ne 35, 3) := by decide +kernel
theorem dX4_hheaHolds_40 : decode cX4_hheaHolds 40 = .ok (.aload_n 0, 1) := by decide +kernel
theorem dX4_hheaHolds_41 : decode cX4_hheaHolds 41 = .ok (.getfield 9, 3) := by decide +kernel
theorem dX4_hheaHolds_44 : decode cX4_hheaHolds 44 = .ok (.getfield 153, 3) := by decide +kernel
theorem dX4_hheaHolds_47 : decode cX4_hheaHolds 47 = .ok (.iconst 1, 1) := by decide +kernel
theorem dX4_hheaHolds_48 : decode cX4_hheaHolds 48 = .ok (.if_icmp .lt 24, 3) := by decide +kernel
theorem dX4_hheaHolds_51 : decode cX4_hheaHolds 51 = .ok (.aload_n 0, 1) := by decide +kernel
theorem dX4_hheaHolds_52 : decode cX4_hheaHolds 52 = .ok (.getfield 9, 3) := by decide +kernel
theorem dX4_hheaHolds_55 : decode cX4_hheaHolds 55 = .ok (.getfield 153, 3) := by decide +kernel
theorem dX4_hheaHolds_58 : decode cX4_hheaHolds 58 = .ok (.aload_n 0, 1) := by decide +kernel
theorem dX4_hheaHolds_59 : decode cX4_hheaHolds 59 = .ok (.getfield 9, 3) := by decide +kernel
theorem dX4_hheaHolds_62 : decode cX4_hheaHolds 62 = .ok (.getfield 138, 3) := by decide +kernel
theorem dX4_hheaHolds_65 : decode cX4_hheaHolds 65 = .ok (.if_icmp .gt 7, 3) := by decide +kernel
theorem dX4_hheaHolds_68 : decode cX4_hheaHolds 68 = .ok (.iconst 1, 1) := by decide +kernel
theorem dX4_hheaHolds_69 : decode cX4_hheaHolds 69 = .ok (.goto 4, 3) := by decide +kernel
theorem dX4_hheaHolds_72 : decode cX4_hheaHolds 72 = .ok (.iconst 0, 1) := by decide +kernel
theorem dX4_hheaHolds_73 : decode cX4_hheaHolds 73 = .ok (.ireturn, 1) := by decide +kernel
def F_X4_hheaHolds  (V : sv_V) : Option (Int32 × sv_V) := (F_X2_u2 ((V.1 4 (3 : Int32).toNatClampNeg) + (34 : Int32)) V).bind (fun (x3, V1) => sx_let (sv_I V1 2 8 x3) (fun V4 => if (V4.1 5 (3 : Int32).toNatClampNeg) = (36 : Int32) then (if (V4.1 2 8) < (1 : Int32) then (some ((0 : Int32), V4)) else (if (V4.1 2 7) < (V4.1 2 8) then (some ((0 : Int32), V4)) else (some ((1 : Int32), V4)))) else (some ((0 : Int32), V4))))
set_option maxRecDepth 20000 in
theorem t_X4_hheaHolds {g : sx_G} (hG : sx_Go g) {P : Option Value → sv_V → Prop} {r : Int32} {Vr : sv_V} (hP : P (some (.int r)) Vr)  {V : sv_V} (h : F_X4_hheaHolds  V = some (r, Vr)) : sv_N g qX4_hheaHolds 1 0 [(0, .ref 29)] [] V P := by
  unfold F_X4_hheaHolds at h
  refine sx_aload_n (pc := 0) dX4_hheaHolds_0 sx_m0 ?_
  refine sv_getO (pc := 1) hG dX4_hheaHolds_1 f_4_9 lay_29 rfl cr_29_0 ?_
  refine sx_aload_n (pc := 4) dX4_hheaHolds_4 sx_m0 ?_
  refine sv_getO (pc := 5) hG dX4_hheaHolds_5 f_4_9 lay_29 rfl cr_29_0 ?_
  refine sx_aload_n (pc := 8) dX4_hheaHolds_8 sx_m0 ?_
  refine sv_getO (pc := 9) hG dX4_hheaHolds_9 f_4_9 lay_29 rfl cr_29_0 ?_
  refine sv_getA (pc := 12) hG dX4_hheaHolds_12 f_4_115 lay_2 rfl cr_2_3 ?_
  refine sx_iconst (pc := 15) (v := 3) dX4_hheaHolds_15 (by decide) ?_
  refine sv_iald (pc := 16) hG dX4_hheaHolds_16 lay_4 (by decide) ?_
  refine sx_bipush (pc := 17) (v := 34) dX4_hheaHolds_17 (by decide) ?_
  refine sx_iadd (pc := 19) dX4_hheaHolds_19 ?_
  obtain ⟨⟨x3, V1⟩, g2, h⟩ := sx_bnd h
  refine sv_cV (pc := 20) (y := qX2_u2) (o := (some (.int x3))) (as := [.int ((V.1 4 (3 : Int32).toNatClampNeg) + (34 : Int32))]) (V1 := V1) hG dX4_hheaHolds_20 l_X4_64 y0X2_u2 yvX2_u2 rfl (Nat.le_of_ble_eq_true rfl) lay_2 kr_2 (by decide) (Nat.le_of_ble_eq_true rfl) rfl rfl rfl (t_X2_u2 hG ⟨rfl, rfl⟩ g2) ?_
  obtain ⟨V4, hV4⟩ : ∃ z : sv_V, z = sv_I V1 2 8 x3 := ⟨_, rfl⟩
  have h := sx_letE hV4 h
  refine sv_putI (pc := 23) hG dX4_hheaHolds_23 f_4_153 lay_2 rfl hV4 ?_
  refine sx_aload_n (pc := 26) dX4_hheaHolds_26 sx_m0 ?_
  refine sv_getO (pc := 27) hG dX4_hheaHolds_27 f_4_9 lay_29 rfl cr_29_0 ?_
  refine sv_getA (pc := 30) hG dX4_hheaHolds_30 f_4_118 lay_2 rfl cr_2_4 ?_
  refine sx_iconst (pc := 33) (v := 3) dX4_hheaHolds_33 (by decide) ?_
  refine sv_iald (pc := 34) hG dX4_hheaHolds_34 lay_5 (by decide) ?_
  refine sx_bipush (pc := 35) (v := 36) dX4_hheaHolds_35 (by decide) ?_
  refine sx_icmp_ne (pc := 37) (tgt := 72) dX4_hheaHolds_37 (by decide) (fun c5 => ?_) (fun c5 => ?_)
  · have h := sx_neg c5 h
    refine sx_iconst (pc := 72) (v := 0) dX4_hheaHolds_72 (by decide) ?_
    exact sv_zret (pc := 73) dX4_hheaHolds_73 rfl rfl h hP
  · have h := sx_pos c5 h
    refine sx_aload_n (pc := 40) dX4_hheaHolds_40 sx_m0 ?_
    refine sv_getO (pc := 41) hG dX4_hheaHolds_41 f_4_9 lay_29 rfl cr_29_0 ?_
    refine sv_getI (pc := 44) hG dX4_hheaHolds_44 f_4_153 lay_2 rfl ?_
    refine sx_iconst (pc := 47) (v := 1) dX4_hheaHolds_47 (by decide) ?_
    refine sx_icmp_lt (pc := 48) (tgt := 72) dX4_hheaHolds_48 (by decide) (fun c6 => ?_) (fun c6 => ?_)
    · have h := sx_pos c6 h
      refine sx_iconst (pc := 72) (v := 0) dX4_hheaHolds_72 (by decide) ?_
      exact sv_zret (pc := 73) dX4_hheaHolds_73 rfl rfl h hP
    · have h := sx_neg c6 h
      refine sx_aload_n (pc := 51) dX4_hheaHolds_51 sx_m0 ?_
      refine sv_getO (pc := 52) hG dX4_hheaHolds_52 f_4_9 lay_29 rfl cr_29_0 ?_
      refine sv_getI (pc := 55) hG dX4_hheaHolds_55 f_4_153 lay_2 rfl ?_
      refine sx_aload_n (pc := 58) dX4_hheaHolds_58 sx_m0 ?_
      refine sv_getO (pc := 59) hG dX4_hheaHolds_59 f_4_9 lay_29 rfl cr_29_0 ?_
      refine sv_getI (pc := 62) hG dX4_hheaHolds_62 f_4_138 lay_2 rfl ?_
      refine sx_icmp_gt (pc := 65) (tgt := 72) dX4_hheaHolds_65 (by decide) (fun c7 => ?_) (fun c7 => ?_)
      · have h := sx_pos c7 h
        refine sx_iconst (pc := 72) (v := 0) dX4_hheaHolds_72 (by decide) ?_
        exact sv_zret (pc := 73) dX4_hheaHolds_73 rfl rfl h hP
      · have h := sx_neg c7 h
        refine sx_iconst (pc := 68) (v := 1) dX4_hheaHolds_68 (by decide) ?_
        refine sx_goto (pc := 69) (tgt := 73) dX4_hheaHolds_69 (by decide) ?_
        exact sv_zret (pc := 73) dX4_hheaHolds_73 rfl rfl h hP
theorem dX4_hmtxHolds_0 : decode cX4_hmtxHolds 0 = .ok (.aload_n 0, 1) := by decide +kernel
theorem dX4_hmtxHolds_1 : decode cX4_hmtxHolds 1 = .ok (.getfield 9, 3) := by decide +kernel
theorem dX4_hmtxHolds_4 : decode cX4_hmtxHolds 4 = .ok (.getfield 118, 3) := by decide +kernel
theorem dX4_hmtxHolds_7 : decode cX4_hmtxHolds 7 = .ok (.iconst 4, 1) := by decide +kernel
theorem dX4_hmtxHolds_8 : decode cX4_hmtxHolds 8 = .ok (.iaload, 1) := by decide +kernel
theorem dX4_hmtxHolds_9 : decode cX4_hmtxHolds 9 = .ok (.iconst 4, 1) := by decide +kernel
theorem dX4_hmtxHolds_10 : decode cX4_hmtxHolds 10 = .ok (.aload_n 0, 1) := by decide +kernel
theorem dX4_hmtxHolds_11 : decode cX4_hmtxHolds 11 = .ok (.getfield 9, 3) := by decide +kernel
theorem dX4_hmtxHolds_14 : decode cX4_hmtxHolds 14 = .ok (.getfield 153, 3) := by decide +kernel
theorem dX4_hmtxHolds_17 : decode cX4_hmtxHolds 17 = .ok (.imul, 1) := by decide +kernel
theorem dX4_hmtxHolds_18 : decode cX4_hmtxHolds 18 = .ok (.iconst 2, 1) := by decide +kernel
theorem dX4_hmtxHolds_19 : decode cX4_hmtxHolds 19 = .ok (.aload_n 0, 1) := by decide +kernel
theorem dX4_hmtxHolds_20 : decode cX4_hmtxHolds 20 = .ok (.getfield 9, 3) := by decide +kernel
theorem dX4_hmtxHolds_23 : decode cX4_hmtxHolds 23 = .ok (.getfield 138, 3) := by decide +kernel
theorem dX4_hmtxHolds_26 : decode cX4_hmtxHolds 26 = .ok (.aload_n 0, 1) := by decide +kernel
theorem dX4_hmtxHolds_27 : decode cX4_hmtxHolds 27 = .ok (.getfield 9, 3) := by decide +kernel
theorem dX4_hmtxHolds_30 : decode cX4_hmtxHolds 30 = .ok (.getfield 153, 3) := by decide +kernel
theorem dX4_hmtxHolds_33 : decode cX4_hmtxHolds 33 = .ok (.isub, 1) := by decide +kernel
theorem dX4_hmtxHolds_34 : decode cX4_hmtxHolds 34 = .ok (.imul, 1) := by decide +kernel
theorem dX4_hmtxHolds_35 : decode cX4_hmtxHolds 35 = .ok (.iadd, 1) := by decide +kernel
theorem dX4_hmtxHolds_36 : decode cX4_hmtxHolds 36 = .ok (.if_icmp .lt 7, 3) := by decide +kernel
theorem dX4_hmtxHolds_39 : decode cX4_hmtxHolds 39 = .ok (.iconst 1, 1) := by decide +kernel
theorem dX4_hmtxHolds_40 : decode cX4_hmtxHolds 40 = .ok (.goto 4, 3) := by decide +kernel
theorem dX4_hmtxHolds_43 : decode cX4_hmtxHolds 43 = .ok (.iconst 0, 1) := by decide +kernel
theorem dX4_hmtxHolds_44 : decode cX4_hmtxHolds 44 = .ok (.ireturn, 1) := by decide +kernel
def F_X4_hmtxHolds  (V : sv_V) : Option (Int32 × sv_V) := if (V.1 5 (4 : Int32).toNatClampNeg) < (((4 : Int32) * (V.1 2 8)) + ((2 : Int32) * ((V.1 2 7) - (V.1 2 8)))) then (some ((0 : Int32), V)) else (some ((1 : Int32), V))
set_option maxRecDepth 20000 in
theorem t_X4_hmtxHolds {g : sx_G} (hG : sx_Go g) {P : Option Value → sv_V → Prop} {r : Int32} {Vr : sv_V} (hP : P (some (.int r)) Vr)  {V : sv_V} (h : F_X4_hmtxHolds  V = some (r, Vr)) : sv_N g qX4_hmtxHolds 0 0 [(0, .ref 29)] [] V P := by
  unfold F_X4_hmtxHolds at h
  refine sx_aload_n (pc := 0) dX4_hmtxHolds_0 sx_m0 ?_
  refine sv_getO (pc := 1) hG dX4_hmtxHolds_1 f_4_9 lay_29 rfl cr_29_0 ?_
  refine sv_getA (pc := 4) hG dX4_hmtxHolds_4 f_4_118 lay_2 rfl cr_2_4 ?_
  refine sx_iconst (pc := 7) (v := 4) dX4_hmtxHolds_7 (by decide) ?_
  refine sv_iald (pc := 8) hG dX4_hmtxHolds_8 lay_5 (by decide) ?_
  refine sx_iconst (pc := 9) (v := 4) dX4_hmtxHolds_9 (by decide) ?_
  refine sx_aload_n (pc := 10) dX4_hmtxHolds_10 sx_m0 ?_
  refine sv_getO (pc := 11) hG dX4_hmtxHolds_11 f_4_9 lay_29 rfl cr_29_0 ?_
  refine sv_getI (pc := 14) hG dX4_hmtxHolds_14 f_4_153 lay_2 rfl ?_
  refine sx_imul (pc := 17) dX4_hmtxHolds_17 ?_
  refine sx_iconst (pc := 18) (v := 2) dX4_hmtxHolds_18 (by decide) ?_
  refine sx_aload_n (pc := 19) dX4_hmtxHolds_19 sx_m0 ?_
  refine sv_getO (pc := 20) hG dX4_hmtxHolds_20 f_4_9 lay_29 rfl cr_29_0 ?_
  refine sv_getI (pc := 23) hG dX4_hmtxHolds_23 f_4_138 lay_2 rfl ?_
  refine sx_aload_n (pc := 26) dX4_hmtxHolds_26 sx_m0 ?_
  refine sv_getO (pc := 27) hG dX4_hmtxHolds_27 f_4_9 lay_29 rfl cr_29_0 ?_
  refine sv_getI (pc := 30) hG dX4_hmtxHolds_30 f_4_153 lay_2 rfl ?_
  refine sx_isub (pc := 33) dX4_hmtxHolds_33 ?_
  refine sx_imul (pc := 34) dX4_hmtxHolds_34 ?_
  refine sx_iadd (pc := 35) dX4_hmtxHolds_35 ?_
  refine sx_icmp_lt (pc := 36) (tgt := 43) dX4_hmtxHolds_36 (by decide) (fun c1 => ?_) (fun c1 => ?_)
  · have h := sx_pos c1 h
    refine sx_iconst (pc := 43) (v := 0) dX4_hmtxHolds_43 (by decide) ?_
    exact sv_zret (pc := 44) dX4_hmtxHolds_44 rfl rfl h hP
  · have h := sx_neg c1 h
    refine sx_iconst (pc := 39) (v := 1) dX4_hmtxHolds_39 (by decide) ?_
    refine sx_goto (pc := 40) (tgt := 44) dX4_hmtxHolds_40 (by decide) ?_
    exact sv_zret (pc := 44) dX4_hmtxHolds_44 rfl rfl h hP
theorem dX4_placeInGlyf_0 : decode cX4_placeInGlyf 0 = .ok (.aload_n 0, 1) := by decide +kernel
theorem dX4_placeInGlyf_1 : decode cX4_placeInGlyf 1 = .ok (.getfield 9, 3) := by decide +kernel
theorem dX4_placeInGlyf_4 : decode cX4_placeInGlyf 4 = .ok (.getfield 115, 3) := by decide +kernel
theorem dX4_placeInGlyf_7 : decode cX4_placeInGlyf 7 = .ok (.iconst 5, 1) := by decide +kernel
theorem dX4_placeInGlyf_8 : decode cX4_placeInGlyf 8 = .ok (.iaload, 1) := by decide +kernel
theorem dX4_placeInGlyf_9 : decode cX4_placeInGlyf 9 = .ok (.istore_n 2, 1) := by decide +kernel
theorem dX4_placeInGlyf_10 : decode cX4_placeInGlyf 10 = .ok (.aload_n 0, 1) := by decide +kernel
theorem dX4_placeInGlyf_11 : decode cX4_placeInGlyf 11 = .ok (.getfield 9, 3) := by decide +kernel
theorem dX4_placeInGlyf_14 : decode cX4_placeInGlyf 14 = .ok (.getfield 131, 3) := by decide +kernel
theorem dX4_placeInGlyf_17 : decode cX4_placeInGlyf 17 = .ok (.ifCond .ne 23, 3) := by decide +kernel
theorem dX4_placeInGlyf_20 : decode cX4_placeInGlyf 20 = .ok (.ldc2_w 156, 3) := by decide +kernel
theorem dX4_placeInGlyf_23 : decode cX4_placeInGlyf 23 = .ok (.aload_n 0, 1) := by decide +kernel
theorem dX4_placeInGlyf_24 : decode cX4_placeInGlyf 24 = .ok (.getfield 9, 3) := by decide +kernel
theorem dX4_placeInGlyf_27 : decode cX4_placeInGlyf 27 = .ok (.iload_n 2, 1) := by decide +kernel
theorem dX4_placeInGlyf_28 : decode cX4_placeInGlyf 28 = .ok (.iconst 2, 1) := by decide +kernel
theorem dX4_placeInGlyf_29 : decode cX4_placeInGlyf 29 = .ok (.iload_n 1, 1) := by decide +kernel
theorem dX4_placeInGlyf_30 : decode cX4_placeInGlyf 30 = .ok (.imul, 1) := by decide +kernel
theorem dX4_placeInGlyf_31 : decode cX4_placeInGlyf 31 = .ok (.iadd, 1) := by decide +kernel
theorem dX4_placeInGlyf_32 : decode cX4_placeInGlyf 32 = .ok (.invokevirtual 64, 3) := by decide +kernel
theorem dX4_placeInGlyf_35 : decode cX4_placeInGlyf 35 = .ok (.i2l, 1) := by decide +kernel
theorem dX4_placeInGlyf_36 : decode cX4_placeInGlyf 36 = .ok (.lmul, 1) := by decide +kernel
theorem dX4_placeInGlyf_37 : decode cX4_placeInGlyf 37 = .ok (.goto 15, 3) := by decide +kernel
theorem dX4_placeInGlyf_40 : decode cX4_placeInGlyf 40 = .ok (.aload_n 0, 1) := by decide +kernel
theorem dX4_placeInGlyf_41 : decode cX4_placeInGlyf 41 = .ok (.getfield 9, 3) := by decide +kernel
theorem dX4_placeInGlyf_44 : decode cX4_placeInGlyf 44 = .ok (.iload_n 2, 1) := by decide +kernel
theorem dX4_placeInGlyf_45 : decode cX4_placeInGlyf 45 = .ok (.iconst 4, 1) := by decide +kernel
theorem dX4_placeInGlyf_46 : decode cX4_placeInGlyf 46 = .ok (.iload_n 1, 1) := by decide +kernel
theorem dX4_placeInGlyf_47 : decode cX4_placeInGlyf 47 = .ok (.imul, 1) := by decide +kernel
theorem dX4_placeInGlyf_48 : decode cX4_placeInGlyf 48 = .ok (.iadd, 1) := by decide +kernel
theorem dX4_placeInGlyf_49 : decode cX4_placeInGlyf 49 = .ok (.invokevirtual 74, 3) := by decide +kernel
theorem dX4_placeInGlyf_52 : decode cX4_placeInGlyf 52 = .ok (.lreturn, 1) := by decide +kernel
def F_X4_placeInGlyf (l1 : Int32) (V : sv_V) : Option (Int64 × sv_V) := sx_let (V.1 4 (5 : Int32).toNatClampNeg) (fun x1 => if (V.1 2 9) = 0 then ((F_X2_u2 (x1 + ((2 : Int32) * l1)) V).bind (fun (x8, V6) => some ((2 : Int64) * x8.toInt64, V6))) else ((F_X2_u4 (x1 + ((4 : Int32) * l1)) V).bind (fun (x5, V3) => some (x5, V3))))
set_option maxRecDepth 20000 in
theorem t_X4_placeInGlyf {g : sx_G} (hG : sx_Go g) {P : Option Value → sv_V → Prop} {r : Int64} {Vr : sv_V} (hP : P (some (.long r)) Vr) {l1 : Int32} {V : sv_V} (h : F_X4_placeInGlyf l1 V = some (r, Vr)) : sv_N g qX4_placeInGlyf 2 0 [(0, .ref 29), (1, .int l1)] [] V P := by
  unfold F_X4_placeInGlyf at h
  refine sx_aload_n (pc := 0) dX4_placeInGlyf_0 sx_m0 ?_
  refine sv_getO (pc := 1) hG dX4_placeInGlyf_1 f_4_9 lay_29 rfl cr_29_0 ?_
  refine sv_getA (pc := 4) hG dX4_placeInGlyf_4 f_4_115 lay_2 rfl cr_2_3 ?_
  refine sx_iconst (pc := 7) (v := 5) dX4_placeInGlyf_7 (by decide) ?_
  refine sv_iald (pc := 8) hG dX4_placeInGlyf_8 lay_4 (by decide) ?_
  refine sv_tI (fun x1 hx1 => ?_)
  have h := sx_letE hx1 h
  refine sx_istore_n (pc := 9) (lo' := [(2, .int x1), (0, .ref 29), (1, .int l1)]) dX4_placeInGlyf_9 (by decide) rfl ?_
  refine sx_aload_n (pc := 10) dX4_placeInGlyf_10 sx_m1 ?_
  refine sv_getO (pc := 11) hG dX4_placeInGlyf_11 f_4_9 lay_29 rfl cr_29_0 ?_
  refine sv_getI (pc := 14) hG dX4_placeInGlyf_14 f_4_131 lay_2 rfl ?_
  refine sx_if_ne (pc := 17) (tgt := 40) dX4_placeInGlyf_17 (by decide) (fun c2 => ?_) (fun c2 => ?_)
  · have h := sx_neg c2 h
    refine sx_aload_n (pc := 40) dX4_placeInGlyf_40 sx_m1 ?_
    refine sv_getO (pc := 41) hG dX4_placeInGlyf_41 f_4_9 lay_29 rfl cr_29_0 ?_
    refine sx_iload_n (pc := 44) dX4_placeInGlyf_44 sx_m0 ?_
    refine sx_iconst (pc := 45) (v := 4) dX4_placeInGlyf_45 (by decide) ?_
    refine sx_iload_n (pc := 46) dX4_placeInGlyf_46 sx_m2 ?_
    refine sx_imul (pc := 47) dX4_placeInGlyf_47 ?_
    refine sx_iadd (pc := 48) dX4_placeInGlyf_48 ?_
    obtain ⟨⟨x5, V3⟩, g4, h⟩ := sx_bnd h
    refine sv_cV (pc := 49) (y := qX2_u4) (o := (some (.long x5))) (as := [.int (x1 + ((4 : Int32) * l1))]) (V1 := V3) hG dX4_placeInGlyf_49 l_X4_74 y0X2_u4 yvX2_u4 rfl (Nat.le_of_ble_eq_true rfl) lay_2 kr_2 (by decide) (Nat.le_of_ble_eq_true rfl) rfl rfl rfl (t_X2_u4 hG ⟨rfl, rfl⟩ g4) ?_
    exact sv_lret (pc := 52) dX4_placeInGlyf_52 rfl h hP
  · have h := sx_pos c2 h
    refine sx_ldc2 (pc := 20) dX4_placeInGlyf_20 k_X4_156 ?_
    refine sx_aload_n (pc := 23) dX4_placeInGlyf_23 sx_m1 ?_
    refine sv_getO (pc := 24) hG dX4_placeInGlyf_24 f_4_9 lay_29 rfl cr_29_0 ?_
    refine sx_iload_n (pc := 27) dX4_placeInGlyf_27 sx_m0 ?_
    refine sx_iconst (pc := 28) (v := 2) dX4_placeInGlyf_28 (by decide) ?_
    refine sx_iload_n (pc := 29) dX4_placeInGlyf_29 sx_m2 ?_
    refine sx_imul (pc := 30) dX4_placeInGlyf_30 ?_
    refine sx_iadd (pc := 31) dX4_placeInGlyf_31 ?_
    obtain ⟨⟨x8, V6⟩, g7, h⟩ := sx_bnd h
    refine sv_cV (pc := 32) (y := qX2_u2) (o := (some (.int x8))) (as := [.int (x1 + ((2 : Int32) * l1))]) (V1 := V6) hG dX4_placeInGlyf_32 l_X4_64 y0X2_u2 yvX2_u2 rfl (Nat.le_of_ble_eq_true rfl) lay_2 kr_2 (by decide) (Nat.le_of_ble_eq_true rfl) rfl rfl rfl (t_X2_u2 hG ⟨rfl, rfl⟩ g7) ?_
    refine sx_i2l (pc := 35) dX4_placeInGlyf_35 ?_
    refine sx_lmul (pc := 36) dX4_placeInGlyf_36 ?_
    refine sx_goto (pc := 37) (tgt := 52) dX4_placeInGlyf_37 (by decide) ?_
    exact sv_lret (pc := 52) dX4_placeInGlyf_52 rfl h hP
theorem dX4_locaHolds_0 : decode cX4_locaHolds 0 = .ok (.aload_n 0, 1) := by decide +kernel
theorem dX4_locaHolds_1 : decode cX4_locaHolds 1 = .ok (.getfield 9, 3) := by decide +kernel
theorem dX4_locaHolds_4 : decode cX4_locaHolds 4 = .ok (.getfield 131, 3) := by decide +kernel
theorem dX4_locaHolds_7 : decode cX4_locaHolds 7 = .ok (.ifCond .ne 7, 3) := by decide +kernel
theorem dX4_locaHolds_10 : decode cX4_locaHolds 10 = .ok (.iconst 2, 1) := by decide +kernel
theorem dX4_locaHolds_11 : decode cX4_locaHolds 11 = .ok (.goto 4, 3) := by decide +kernel
theorem dX4_locaHolds_14 : decode cX4_locaHolds 14 = .ok (.iconst 4, 1) := by decide +kernel
theorem dX4_locaHolds_15 : decode cX4_locaHolds 15 = .ok (.istore_n 1, 1) := by decide +kernel
theorem dX4_locaHolds_16 : decode cX4_locaHolds 16 = .ok (.aload_n 0, 1) := by decide +kernel
theorem dX4_locaHolds_17 : decode cX4_locaHolds 17 = .ok (.getfield 9, 3) := by decide +kernel
theorem dX4_locaHolds_20 : decode cX4_locaHolds 20 = .ok (.getfield 118, 3) := by decide +kernel
theorem dX4_locaHolds_23 : decode cX4_locaHolds 23 = .ok (.iconst 5, 1) := by decide +kernel
theorem dX4_locaHolds_24 : decode cX4_locaHolds 24 = .ok (.iaload, 1) := by decide +kernel
theorem dX4_locaHolds_25 : decode cX4_locaHolds 25 = .ok (.iload_n 1, 1) := by decide +kernel
theorem dX4_locaHolds_26 : decode cX4_locaHolds 26 = .ok (.aload_n 0, 1) := by decide +kernel
theorem dX4_locaHolds_27 : decode cX4_locaHolds 27 = .ok (.getfield 9, 3) := by decide +kernel
theorem dX4_locaHolds_30 : decode cX4_locaHolds 30 = .ok (.getfield 138, 3) := by decide +kernel
theorem dX4_locaHolds_33 : decode cX4_locaHolds 33 = .ok (.iconst 1, 1) := by decide +kernel
theorem dX4_locaHolds_34 : decode cX4_locaHolds 34 = .ok (.iadd, 1) := by decide +kernel
theorem dX4_locaHolds_35 : decode cX4_locaHolds 35 = .ok (.imul, 1) := by decide +kernel
theorem dX4_locaHolds_36 : decode cX4_locaHolds 36 = .ok (.if_icmp .ge 5, 3) := by decide +kernel
theorem dX4_locaHolds_39 : decode cX4_locaHolds 39 = .ok (.iconst 0, 1) := by decide +kernel
theorem dX4_locaHolds_40 : decode cX4_locaHolds 40 = .ok (.ireturn, 1) := by decide +kernel
theorem dX4_locaHolds_41 : decode cX4_locaHolds 41 = .ok (.iconst 0, 1) := by decide +kernel
theorem dX4_locaHolds_42 : decode cX4_locaHolds 42 = .ok (.istore_n 2, 1) := by decide +kernel
theorem dX4_locaHolds_43 : decode cX4_locaHolds 43 = .ok (.iload_n 2, 1) := by decide +kernel
theorem dX4_locaHolds_44 : decode cX4_locaHolds 44 = .ok (.aload_n 0, 1) := by decide +kernel
theorem dX4_locaHolds_45 : decode cX4_locaHolds 45 = .ok (.getfield 9, 3) := by decide +kernel
theorem dX4_locaHolds_48 : decode cX4_locaHolds 48 = .ok (.getfield 138, 3) := by decide +kernel
theorem dX4_locaHolds_51 : decode cX4_locaHolds 51 = .ok (.if_icmp .ge 88, 3) := by decide +kernel
theorem dX4_locaHolds_54 : decode cX4_locaHolds 54 = .ok (.aload_n 0, 1) := by decide +kernel
theorem dX4_locaHolds_55 : decode cX4_locaHolds 55 = .ok (.iload_n 2, 1) := by decide +kernel
theorem dX4_locaHolds_56 : decode cX4_locaHolds 56 = .ok (.invokevirtual 158, 3) := by decide +kernel
theorem dX4_locaHolds_59 : decode cX4_locaHolds 59 = .ok (.lstore_n 3, 1) := by decide +kernel
theorem dX4_locaHolds_60 : decode cX4_locaHolds 60 = .ok (.aload_n 0, 1) := by decide +kernel
theorem dX4_locaHolds_61 : decode cX4_locaHolds 61 = .ok (.iload_n 2, 1) := by decide +kernel
theorem dX4_locaHolds_62 : decode cX4_locaHolds 62 = .ok (.iconst 1, 1) := by decide +kernel
theorem dX4_locaHolds_63 : decode cX4_locaHolds 63 = .ok (.iadd, 1) := by decide +kernel
theorem dX4_locaHolds_64 : decode cX4_locaHolds 64 = .ok (.invokevirtual 158, 3) := by decide +kernel
theorem dX4_locaHolds_67 : decode cX4_locaHolds 67 = .ok (.lstore 5, 2) := by decide +kernel
theorem dX4_locaHolds_69 : decode cX4_locaHolds 69 = .ok (.lload_n 3, 1) := by decide +kernel
theorem dX4_locaHolds_70 : decode cX4_locaHolds 70 = .ok (.lload 5, 2) := by decide +kernel
theorem dX4_locaHolds_72 : decode cX4_locaHolds 72 = .ok (.lcmp, 1) := by decide +kernel
theorem dX4_locaHolds_73 : decode cX4_locaHolds 73 = .ok (.ifCond .gt 19, 3) := by decide +kernel
theorem dX4_locaHolds_76 : decode cX4_locaHolds 76 = .ok (.lload 5, 2) := by decide +kernel
theorem dX4_locaHolds_78 : decode cX4_locaHolds 78 = .ok (.aload_n 0, 1) := by decide +kernel
theorem dX4_locaHolds_79 : decode cX4_locaHolds 79 = .ok (.getfield 9, 3) := by decide +kernel
theorem dX4_locaHolds_82 : decode cX4_locaHolds 82 = .ok (.getfield 118, 3) := by decide +kernel
theorem dX4_locaHolds_85 : decode cX4_locaHolds 85 = .ok (.iconst 1, 1) := by decide +kernel
theorem dX4_locaHolds_86 : decode cX4_locaHolds 86 = .ok (.iaload, 1) := by decide +kernel
theorem dX4_locaHolds_87 : decode cX4_locaHolds 87 = .ok (.i2l, 1) := by decide +kernel
theorem dX4_locaHolds_88 : decode cX4_locaHolds 88 = .ok (.lcmp, 1) := by decide +kernel
theorem dX4_locaHolds_89 : decode cX4_locaHolds 89 = .ok (.ifCond .le 5, 3) := by decide +kernel
theorem dX4_locaHolds_92 : decode cX4_locaHolds 92 = .ok (.iconst 0, 1) := by decide +kernel
theorem dX4_locaHolds_93 : decode cX4_locaHolds 93 = .ok (.ireturn, 1) := by decide +kernel
theorem dX4_locaHolds_94 : decode cX4_locaHolds 94 = .ok (.aload_n 0, 1) := by decide +kernel
theorem dX4_locaHolds_95 : decode cX4_locaHolds 95 = .ok (.getfield 9, 3) := by decide +kernel
theorem dX4_locaHolds_98 : decode cX4_locaHolds 98 = .ok (.getfield 161, 3) := by decide +kernel
theorem dX4_locaHolds_101 : decode cX4_locaHolds 101 = .ok (.iconst 0, 1) := by decide +kernel
theorem dX4_locaHolds_102 : decode cX4_locaHolds 102 = .ok (.aaload, 1) := by decide +kernel
theorem dX4_locaHolds_103 : decode cX4_locaHolds 103 = .ok (.iload_n 2, 1) := by decide +kernel
theorem dX4_locaHolds_104 : decode cX4_locaHolds 104 = .ok (.aload_n 0, 1) := by decide +kernel
theorem dX4_locaHolds_105 : decode cX4_locaHolds 105 = .ok (.getfield 9, 3) := by decide +kernel
theorem dX4_locaHolds_108 : decode cX4_locaHolds 108 = .ok (.getfield 115, 3) := by decide +kernel
theorem dX4_locaHolds_111 : decode cX4_locaHolds 111 = .ok (.iconst 1, 1) := by decide +kernel
theorem dX4_locaHolds_112 : decode cX4_locaHolds 112 = .ok (.iaload, 1) := by decide +kernel
theorem dX4_locaHolds_113 : decode cX4_locaHolds 113 = .ok (.lload_n 3, 1) := by decide +kernel
theorem dX4_locaHolds_114 : decode cX4_locaHolds 114 = .ok (.l2i, 1) := by decide +kernel
theorem dX4_locaHolds_115 : decode cX4_locaHolds 115 = .ok (.iadd, 1) := by decide +kernel
theorem dX4_locaHolds_116 : decode cX4_locaHolds 116 = .ok (.iastore, 1) := by decide +kernel
theorem dX4_locaHolds_117 : decode cX4_locaHolds 117 = .ok (.aload_n 0, 1) := by decide +kernel
theorem dX4_locaHolds_118 : decode cX4_locaHolds 118 = .ok (.getfield 9, 3) := by decide +kernel
theorem dX4_locaHolds_121 : decode cX4_locaHolds 121 = .ok (.getfield 161, 3) := by decide +kernel
theorem dX4_locaHolds_124 : decode cX4_locaHolds 124 = .ok (.iconst 1, 1) := by decide +kernel
theorem dX4_locaHolds_125 : decode cX4_locaHolds 125 = .ok (.aaload, 1) := by decide +kernel
theorem dX4_locaHolds_126 : decode cX4_locaHolds 126 = .ok (.iload_n 2, 1) := by decide +kernel
theorem dX4_locaHolds_127 : decode cX4_locaHolds 127 = .ok (.lload 5, 2) := by decide +kernel
theorem dX4_locaHolds_129 : decode cX4_locaHolds 129 = .ok (.lload_n 3, 1) := by decide +kernel
theorem dX4_locaHolds_130 : decode cX4_locaHolds 130 = .ok (.lsub, 1) := by decide +kernel
theorem dX4_locaHolds_131 : decode cX4_locaHolds 131 = .ok (.l2i, 1) := by decide +kernel
theorem dX4_locaHolds_132 : decode cX4_locaHolds 132 = .ok (.iastore, 1) := by decide +kernel
theorem dX4_locaHolds_133 : decode cX4_locaHolds 133 = .ok (.iinc 2 1, 3) := by decide +kernel
theorem dX4_locaHolds_136 : decode cX4_locaHolds 136 = .ok (.goto (-93), 3) := by decide +kernel
theorem dX4_locaHolds_139 : decode cX4_locaHolds 139 = .ok (.iconst 1, 1) := by decide +kernel
theorem dX4_locaHolds_140 : decode cX4_locaHolds 140 = .ok (.ireturn, 1) := by decide +kernel
def B_X4_locaHolds_43 (N : Nat) (k43 : Int32 → sv_V → Option (Int32 × sv_V)) (l2 : Int32) (V : sv_V) : Option (Int32 × sv_V) := if (V.1 2 7) ≤ l2 then (some ((1 : Int32), V)) else ((F_X4_placeInGlyf l2 V).bind (fun (x4, V2) => (F_X4_placeInGlyf (l2 + (1 : Int32)) V2).bind (fun (x7, V5) => if 0 < (lg_cmp x4 x7) then (some ((0 : Int32), V5)) else (if (lg_cmp x7 ((V5.1 5 (1 : Int32).toNatClampNeg).toInt64)) ≤ 0 then ((cr 7 (0 : Int32).toNatClampNeg).bind (fun b10 => (sv_len 0 b10).bind (fun n12 => if sx_in l2 n12 = true then sx_let (sv_I V5 b10 l2.toNatClampNeg ((V5.1 4 (1 : Int32).toNatClampNeg) + x4.toInt32)) (fun V15 => (cr 7 (1 : Int32).toNatClampNeg).bind (fun b16 => (sv_len 0 b16).bind (fun n18 => if sx_in l2 n18 = true then sx_let (sv_I V15 b16 l2.toNatClampNeg ((x7 - x4).toInt32)) (fun V21 => sx_let (l2 + 1) (fun x22 => k43 x22 V21)) else none))) else none))) else (some ((0 : Int32), V5))))))
set_option maxRecDepth 20000 in
theorem tB_X4_locaHolds_43 {g : sx_G} (hG : sx_Go g) {P : Option Value → sv_V → Prop} {r : Int32} {Vr : sv_V} (hP : P (some (.int r)) Vr) {N : Nat} {k43 : Int32 → sv_V → Option (Int32 × sv_V)} (hk43 : ∀ (l2 : Int32) (V : sv_V), k43 l2 V = some (r, Vr) → sv_N g qX4_locaHolds 3 43 [(0, .ref 29), (2, .int l2)] [] V P) {l2 : Int32} {V : sv_V} (h : B_X4_locaHolds_43 N k43 l2 V = some (r, Vr)) : sv_N g qX4_locaHolds 3 43 [(0, .ref 29), (2, .int l2)] [] V P := by
  unfold B_X4_locaHolds_43 at h
  refine sx_iload_n (pc := 43) dX4_locaHolds_43 sx_m1 ?_
  refine sx_aload_n (pc := 44) dX4_locaHolds_44 sx_m0 ?_
  refine sv_getO (pc := 45) hG dX4_locaHolds_45 f_4_9 lay_29 rfl cr_29_0 ?_
  refine sv_getI (pc := 48) hG dX4_locaHolds_48 f_4_138 lay_2 rfl ?_
  refine sx_icmp_ge (pc := 51) (tgt := 139) dX4_locaHolds_51 (by decide) (fun c1 => ?_) (fun c1 => ?_)
  · have h := sx_pos c1 h
    refine sx_iconst (pc := 139) (v := 1) dX4_locaHolds_139 (by decide) ?_
    exact sv_zret (pc := 140) dX4_locaHolds_140 rfl rfl h hP
  · have h := sx_neg c1 h
    refine sx_aload_n (pc := 54) dX4_locaHolds_54 sx_m0 ?_
    refine sx_iload_n (pc := 55) dX4_locaHolds_55 sx_m1 ?_
    obtain ⟨⟨x4, V2⟩, g3, h⟩ := sx_bnd h
    refine sv_cV (pc := 56) (y := qX4_placeInGlyf) (o := (some (.long x4))) (as := [.int l2]) (V1 := V2) hG dX4_locaHolds_56 l_X4_158 y0X4_placeInGlyf yvX4_placeInGlyf rfl (Nat.le_of_ble_eq_true rfl) lay_29 kr_4 (by decide) (Nat.le_of_ble_eq_true rfl) rfl rfl rfl (t_X4_placeInGlyf hG ⟨rfl, rfl⟩ g3) ?_
    refine sx_lstore_n (pc := 59) (lo' := [(3, .long x4), (0, .ref 29), (2, .int l2)]) dX4_locaHolds_59 (by decide) rfl ?_
    refine sx_aload_n (pc := 60) dX4_locaHolds_60 sx_m1 ?_
    refine sx_iload_n (pc := 61) dX4_locaHolds_61 sx_m2 ?_
    refine sx_iconst (pc := 62) (v := 1) dX4_locaHolds_62 (by decide) ?_
    refine sx_iadd (pc := 63) dX4_locaHolds_63 ?_
    obtain ⟨⟨x7, V5⟩, g6, h⟩ := sx_bnd h
    refine sv_cV (pc := 64) (y := qX4_placeInGlyf) (o := (some (.long x7))) (as := [.int (l2 + (1 : Int32))]) (V1 := V5) hG dX4_locaHolds_64 l_X4_158 y0X4_placeInGlyf yvX4_placeInGlyf rfl (Nat.le_of_ble_eq_true rfl) lay_29 kr_4 (by decide) (Nat.le_of_ble_eq_true rfl) rfl rfl rfl (t_X4_placeInGlyf hG ⟨rfl, rfl⟩ g6) ?_
    refine sx_lstore (pc := 67) (lo' := [(5, .long x7), (3, .long x4), (0, .ref 29), (2, .int l2)]) dX4_locaHolds_67 (by decide) rfl ?_
    refine sx_lload_n (pc := 69) dX4_locaHolds_69 sx_m1 ?_
    refine sx_lload (pc := 70) dX4_locaHolds_70 sx_m0 ?_
    refine sx_lcmp (pc := 72) dX4_locaHolds_72 ?_
    refine sx_if_gt (pc := 73) (tgt := 92) dX4_locaHolds_73 (by decide) (fun c8 => ?_) (fun c8 => ?_)
    · have h := sx_pos c8 h
      refine sx_iconst (pc := 92) (v := 0) dX4_locaHolds_92 (by decide) ?_
      exact sv_zret (pc := 93) dX4_locaHolds_93 rfl rfl h hP
    · have h := sx_neg c8 h
      refine sx_lload (pc := 76) dX4_locaHolds_76 sx_m0 ?_
      refine sx_aload_n (pc := 78) dX4_locaHolds_78 sx_m2 ?_
      refine sv_getO (pc := 79) hG dX4_locaHolds_79 f_4_9 lay_29 rfl cr_29_0 ?_
      refine sv_getA (pc := 82) hG dX4_locaHolds_82 f_4_118 lay_2 rfl cr_2_4 ?_
      refine sx_iconst (pc := 85) (v := 1) dX4_locaHolds_85 (by decide) ?_
      refine sv_iald (pc := 86) hG dX4_locaHolds_86 lay_5 (by decide) ?_
      refine sx_i2l (pc := 87) dX4_locaHolds_87 ?_
      refine sx_lcmp (pc := 88) dX4_locaHolds_88 ?_
      refine sx_if_le (pc := 89) (tgt := 94) dX4_locaHolds_89 (by decide) (fun c9 => ?_) (fun c9 => ?_)
      · have h := sx_pos c9 h
        refine sx_aload_n (pc := 94) dX4_locaHolds_94 sx_m2 ?_
        refine sv_getO (pc := 95) hG dX4_locaHolds_95 f_4_9 lay_29 rfl cr_29_0 ?_
        refine sv_getA (pc := 98) hG dX4_locaHolds_98 f_4_161 lay_2 rfl cr_2_16 ?_
        refine sx_iconst (pc := 101) (v := 0) dX4_locaHolds_101 (by decide) ?_
        obtain ⟨b10, g11, h⟩ := sx_bnd h
        refine sv_aald (pc := 102) hG dX4_locaHolds_102 (by decide) lay_7 (by decide) g11 ?_
        refine sx_iload_n (pc := 103) dX4_locaHolds_103 sx_m3 ?_
        refine sx_aload_n (pc := 104) dX4_locaHolds_104 sx_m2 ?_
        refine sv_getO (pc := 105) hG dX4_locaHolds_105 f_4_9 lay_29 rfl cr_29_0 ?_
        refine sv_getA (pc := 108) hG dX4_locaHolds_108 f_4_115 lay_2 rfl cr_2_3 ?_
        refine sx_iconst (pc := 111) (v := 1) dX4_locaHolds_111 (by decide) ?_
        refine sv_iald (pc := 112) hG dX4_locaHolds_112 lay_4 (by decide) ?_
        refine sx_lload_n (pc := 113) dX4_locaHolds_113 sx_m1 ?_
        refine sx_l2i (pc := 114) dX4_locaHolds_114 ?_
        refine sx_iadd (pc := 115) dX4_locaHolds_115 ?_
        obtain ⟨n12, g13, h⟩ := sx_bnd h
        obtain ⟨g14, h⟩ := sx_grd h
        obtain ⟨V15, hV15⟩ : ∃ z : sv_V, z = sv_I V5 b10 l2.toNatClampNeg ((V5.1 4 (1 : Int32).toNatClampNeg) + x4.toInt32) := ⟨_, rfl⟩
        have h := sx_letE hV15 h
        refine sv_iast (pc := 116) hG dX4_locaHolds_116 (sv_len_e g13) g14 hV15 ?_
        refine sx_aload_n (pc := 117) dX4_locaHolds_117 sx_m2 ?_
        refine sv_getO (pc := 118) hG dX4_locaHolds_118 f_4_9 lay_29 rfl cr_29_0 ?_
        refine sv_getA (pc := 121) hG dX4_locaHolds_121 f_4_161 lay_2 rfl cr_2_16 ?_
        refine sx_iconst (pc := 124) (v := 1) dX4_locaHolds_124 (by decide) ?_
        obtain ⟨b16, g17, h⟩ := sx_bnd h
        refine sv_aald (pc := 125) hG dX4_locaHolds_125 (by decide) lay_7 (by decide) g17 ?_
        refine sx_iload_n (pc := 126) dX4_locaHolds_126 sx_m3 ?_
        refine sx_lload (pc := 127) dX4_locaHolds_127 sx_m0 ?_
        refine sx_lload_n (pc := 129) dX4_locaHolds_129 sx_m1 ?_
        refine sx_lsub (pc := 130) dX4_locaHolds_130 ?_
        refine sx_l2i (pc := 131) dX4_locaHolds_131 ?_
        obtain ⟨n18, g19, h⟩ := sx_bnd h
        obtain ⟨g20, h⟩ := sx_grd h
        obtain ⟨V21, hV21⟩ : ∃ z : sv_V, z = sv_I V15 b16 l2.toNatClampNeg ((x7 - x4).toInt32) := ⟨_, rfl⟩
        have h := sx_letE hV21 h
        refine sv_iast (pc := 132) hG dX4_locaHolds_132 (sv_len_e g19) g20 hV21 ?_
        obtain ⟨x22, hx22⟩ : ∃ z : Int32, z = l2 + 1 := ⟨_, rfl⟩
        have h := sx_letE hx22 h
        refine sx_iinc (pc := 133) (v := x22) (lo' := [(2, .int x22), (5, .long x7), (3, .long x4), (0, .ref 29)]) dX4_locaHolds_133 sx_m3 (by rw [hx22]; rfl) (by decide) rfl ?_
        refine sx_goto (pc := 136) (tgt := 43) dX4_locaHolds_136 (by decide) ?_
        refine sx_wk (sx_s1 sx_m3 (sx_s1 sx_m0 sx_s0)) ?_
        exact hk43 _ _ h
      · have h := sx_neg c9 h
        refine sx_iconst (pc := 92) (v := 0) dX4_locaHolds_92 (by decide) ?_
        exact sv_zret (pc := 93) dX4_locaHolds_93 rfl rfl h hP
theorem tL_X4_locaHolds_43 {g : sx_G} (hG : sx_Go g) {P : Option Value → sv_V → Prop} {r : Int32} {Vr : sv_V} (hP : P (some (.int r)) Vr) {N : Nat}   : ∀ (n : Nat) (l2 : Int32) (V : sv_V), sx_lp2 (B_X4_locaHolds_43 N ) n l2 V = some (r, Vr) → sv_N g qX4_locaHolds 3 43 [(0, .ref 29), (2, .int l2)] [] V P :=
  sx_lp2_ind (fun k0 ih _ V h => tB_X4_locaHolds_43 hG hP ih h)
def B_X4_locaHolds_15 (N : Nat)  (s0 : Int32) (V : sv_V) : Option (Int32 × sv_V) := if (s0 * ((V.1 2 7) + (1 : Int32))) ≤ (V.1 5 (5 : Int32).toNatClampNeg) then (sx_lp2 (B_X4_locaHolds_43 N ) N (0 : Int32) V) else (some ((0 : Int32), V))
set_option maxRecDepth 20000 in
theorem tB_X4_locaHolds_15 {g : sx_G} (hG : sx_Go g) {P : Option Value → sv_V → Prop} {r : Int32} {Vr : sv_V} (hP : P (some (.int r)) Vr) {N : Nat}   {s0 : Int32} {V : sv_V} (h : B_X4_locaHolds_15 N  s0 V = some (r, Vr)) : sv_N g qX4_locaHolds 3 15 [(0, .ref 29)] [.int s0] V P := by
  unfold B_X4_locaHolds_15 at h
  refine sx_istore_n (pc := 15) (lo' := [(1, .int s0), (0, .ref 29)]) dX4_locaHolds_15 (by decide) rfl ?_
  refine sx_aload_n (pc := 16) dX4_locaHolds_16 sx_m1 ?_
  refine sv_getO (pc := 17) hG dX4_locaHolds_17 f_4_9 lay_29 rfl cr_29_0 ?_
  refine sv_getA (pc := 20) hG dX4_locaHolds_20 f_4_118 lay_2 rfl cr_2_4 ?_
  refine sx_iconst (pc := 23) (v := 5) dX4_locaHolds_23 (by decide) ?_
  refine sv_iald (pc := 24) hG dX4_locaHolds_24 lay_5 (by decide) ?_
  refine sx_iload_n (pc := 25) dX4_locaHolds_25 sx_m0 ?_
  refine sx_aload_n (pc := 26) dX4_locaHolds_26 sx_m1 ?_
  refine sv_getO (pc := 27) hG dX4_locaHolds_27 f_4_9 lay_29 rfl cr_29_0 ?_
  refine sv_getI (pc := 30) hG dX4_locaHolds_30 f_4_138 lay_2 rfl ?_
  refine sx_iconst (pc := 33) (v := 1) dX4_locaHolds_33 (by decide) ?_
  refine sx_iadd (pc := 34) dX4_locaHolds_34 ?_
  refine sx_imul (pc := 35) dX4_locaHolds_35 ?_
  refine sx_icmp_ge (pc := 36) (tgt := 41) dX4_locaHolds_36 (by decide) (fun c23 => ?_) (fun c23 => ?_)
  · have h := sx_pos c23 h
    refine sx_iconst (pc := 41) (v := 0) dX4_locaHolds_41 (by decide) ?_
    refine sx_istore_n (pc := 42) (lo' := [(2, .int (0 : Int32)), (1, .int s0), (0, .ref 29)]) dX4_locaHolds_42 (by decide) rfl ?_
    refine sx_wk (sx_s1 sx_m2 (sx_s1 sx_m0 sx_s0)) ?_
    exact tL_X4_locaHolds_43 hG hP  N _ _ h
  · have h := sx_neg c23 h
    refine sx_iconst (pc := 39) (v := 0) dX4_locaHolds_39 (by decide) ?_
    exact sv_zret (pc := 40) dX4_locaHolds_40 rfl rfl h hP
def F_X4_locaHolds (N : Nat)  (V : sv_V) : Option (Int32 × sv_V) := if (V.1 2 9) = 0 then (B_X4_locaHolds_15 N  (2 : Int32) V) else (B_X4_locaHolds_15 N  (4 : Int32) V)
set_option maxRecDepth 20000 in
theorem t_X4_locaHolds {g : sx_G} (hG : sx_Go g) {P : Option Value → sv_V → Prop} {r : Int32} {Vr : sv_V} (hP : P (some (.int r)) Vr) {N : Nat}  {V : sv_V} (h : F_X4_locaHolds N  V = some (r, Vr)) : sv_N g qX4_locaHolds 3 0 [(0, .ref 29)] [] V P := by
  unfold F_X4_locaHolds at h
  refine sx_aload_n (pc := 0) dX4_locaHolds_0 sx_m0 ?_
  refine sv_getO (pc := 1) hG dX4_locaHolds_1 f_4_9 lay_29 rfl cr_29_0 ?_
  refine sv_getI (pc := 4) hG dX4_locaHolds_4 f_4_131 lay_2 rfl ?_
  refine sx_if_ne (pc := 7) (tgt := 14) dX4_locaHolds_7 (by decide) (fun c24 => ?_) (fun c24 => ?_)
  · have h := sx_neg c24 h
    refine sx_iconst (pc := 14) (v := 4) dX4_locaHolds_14 (by decide) ?_
    refine sx_wk (sx_s1 sx_m0 sx_s0) ?_
    exact tB_X4_locaHolds_15 hG hP  h
  · have h := sx_pos c24 h
    refine sx_iconst (pc := 10) (v := 2) dX4_locaHolds_10 (by decide) ?_
    refine sx_goto (pc := 11) (tgt := 15) dX4_locaHolds_11 (by decide) ?_
    refine sx_wk (sx_s1 sx_m0 sx_s0) ?_
    exact tB_X4_locaHolds_15 hG hP  h
theorem dX4_mapPlace_0 : decode cX4_mapPlace 0 = .ok (.iconst 0, 1) := by decide +kernel
theorem dX4_mapPlace_1 : decode cX4_mapPlace 1 = .ok (.istore 4, 2) := by decide +kernel
theorem dX4_mapPlace_3 : decode cX4_mapPlace 3 = .ok (.iload 4, 2) := by decide +kernel
theorem dX4_mapPlace_5 : decode cX4_mapPlace 5 = .ok (.iload_n 1, 1) := by decide +kernel
theorem dX4_mapPlace_6 : decode cX4_mapPlace 6 = .ok (.if_icmp .ge 68, 3) := by decide +kernel
theorem dX4_mapPlace_9 : decode cX4_mapPlace 9 = .ok (.aload_n 0, 1) := by decide +kernel
theorem dX4_mapPlace_10 : decode cX4_mapPlace 10 = .ok (.getfield 9, 3) := by decide +kernel
theorem dX4_mapPlace_13 : decode cX4_mapPlace 13 = .ok (.getfield 115, 3) := by decide +kernel
theorem dX4_mapPlace_16 : decode cX4_mapPlace 16 = .ok (.iconst 0, 1) := by decide +kernel
theorem dX4_mapPlace_17 : decode cX4_mapPlace 17 = .ok (.iaload, 1) := by decide +kernel
theorem dX4_mapPlace_18 : decode cX4_mapPlace 18 = .ok (.iconst 4, 1) := by decide +kernel
theorem dX4_mapPlace_19 : decode cX4_mapPlace 19 = .ok (.iadd, 1) := by decide +kernel
theorem dX4_mapPlace_20 : decode cX4_mapPlace 20 = .ok (.bipush 8, 2) := by decide +kernel
theorem dX4_mapPlace_22 : decode cX4_mapPlace 22 = .ok (.iload 4, 2) := by decide +kernel
theorem dX4_mapPlace_24 : decode cX4_mapPlace 24 = .ok (.imul, 1) := by decide +kernel
theorem dX4_mapPlace_25 : decode cX4_mapPlace 25 = .ok (.iadd, 1) := by decide +kernel
theorem dX4_mapPlace_26 : decode cX4_mapPlace 26 = .ok (.istore 5, 2) := by decide +kernel
theorem dX4_mapPlace_28 : decode cX4_mapPlace 28 = .ok (.aload_n 0, 1) := by decide +kernel
theorem dX4_mapPlace_29 : decode cX4_mapPlace 29 = .ok (.getfield 9, 3) := by decide +kernel
theorem dX4_mapPlace_32 : decode cX4_mapPlace 32 = .ok (.iload 5, 2) := by decide +kernel
theorem dX4_mapPlace_34 : decode cX4_mapPlace 34 = .ok (.invokevirtual 64, 3) := by decide +kernel
theorem dX4_mapPlace_37 : decode cX4_mapPlace 37 = .ok (.iload_n 2, 1) := by decide +kernel
theorem dX4_mapPlace_38 : decode cX4_mapPlace 38 = .ok (.if_icmp .ne 30, 3) := by decide +kernel
theorem dX4_mapPlace_41 : decode cX4_mapPlace 41 = .ok (.aload_n 0, 1) := by decide +kernel
theorem dX4_mapPlace_42 : decode cX4_mapPlace 42 = .ok (.getfield 9, 3) := by decide +kernel
theorem dX4_mapPlace_45 : decode cX4_mapPlace 45 = .ok (.iload 5, 2) := by decide +kernel
theorem dX4_mapPlace_47 : decode cX4_mapPlace 47 = .ok (.iconst 2, 1) := by decide +kernel
theorem dX4_mapPlace_48 : decode cX4_mapPlace 48 = .ok (.iadd, 1) := by decide +kernel
theorem dX4_mapPlace_49 : decode cX4_mapPlace 49 = .ok (.invokevirtual 64, 3) := by decide +kernel
theorem dX4_mapPlace_52 : decode cX4_mapPlace 52 = .ok (.iload_n 3, 1) := by decide +kernel
theorem dX4_mapPlace_53 : decode cX4_mapPlace 53 = .ok (.if_icmp .ne 15, 3) := by decide +kernel
theorem dX4_mapPlace_56 : decode cX4_mapPlace 56 = .ok (.aload_n 0, 1) := by decide +kernel
theorem dX4_mapPlace_57 : decode cX4_mapPlace 57 = .ok (.getfield 9, 3) := by decide +kernel
theorem dX4_mapPlace_60 : decode cX4_mapPlace 60 = .ok (.iload 5, 2) := by decide +kernel
theorem dX4_mapPlace_62 : decode cX4_mapPlace 62 = .ok (.iconst 4, 1) := by decide +kernel
theorem dX4_mapPlace_63 : decode cX4_mapPlace 63 = .ok (.iadd, 1) := by decide +kernel
theorem dX4_mapPlace_64 : decode cX4_mapPlace 64 = .ok (.invokevirtual 74, 3) := by decide +kernel
theorem dX4_mapPlace_67 : decode cX4_mapPlace 67 = .ok (.lreturn, 1) := by decide +kernel
theorem dX4_mapPlace_68 : decode cX4_mapPlace 68 = .ok (.iinc 4 1, 3) := by decide +kernel
theorem dX4_mapPlace_71 : decode cX4_mapPlace 71 = .ok (.goto (-68), 3) := by decide +kernel
theorem dX4_mapPlace_74 : decode cX4_mapPlace 74 = .ok (.ldc2_w 169, 3) := by decide +kernel
theorem dX4_mapPlace_77 : decode cX4_mapPlace 77 = .ok (.lreturn, 1) := by decide +kernel
def B_X4_mapPlace_68 (N : Nat) (k3 : Int32 → Int32 → Int32 → Int32 → sv_V → Option (Int64 × sv_V)) (l1 : Int32) (l2 : Int32) (l3 : Int32) (l4 : Int32) (V : sv_V) : Option (Int64 × sv_V) := sx_let (l4 + 1) (fun x1 => k3 l1 l2 l3 x1 V)
set_option maxRecDepth 20000 in
theorem tB_X4_mapPlace_68 {g : sx_G} (hG : sx_Go g) {P : Option Value → sv_V → Prop} {r : Int64} {Vr : sv_V} (hP : P (some (.long r)) Vr) {N : Nat} {k3 : Int32 → Int32 → Int32 → Int32 → sv_V → Option (Int64 × sv_V)} (hk3 : ∀ (l1 : Int32) (l2 : Int32) (l3 : Int32) (l4 : Int32) (V : sv_V), k3 l1 l2 l3 l4 V = some (r, Vr) → sv_N g qX4_mapPlace 2 3 [(0, .ref 29), (1, .int l1), (2, .int l2), (3, .int l3), (4, .int l4)] [] V P) {l1 : Int32} {l2 : Int32} {l3 : Int32} {l4 : Int32} {V : sv_V} (h : B_X4_mapPlace_68 N k3 l1 l2 l3 l4 V = some (r, Vr)) : sv_N g qX4_mapPlace 2 68 [(0, .ref 29), (1, .int l1), (2, .int l2), (3, .int l3), (4, .int l4)] [] V P := by
  unfold B_X4_mapPlace_68 at h
  obtain ⟨x1, hx1⟩ : ∃ z : Int32, z = l4 + 1 := ⟨_, rfl⟩
  have h := sx_letE hx1 h
  refine sx_iinc (pc := 68) (v := x1) (lo' := [(4, .int x1), (0, .ref 29), (1, .int l1), (2, .int l2), (3, .int l3)]) dX4_mapPlace_68 sx_m4 (by rw [hx1]; rfl) (by decide) rfl ?_
  refine sx_goto (pc := 71) (tgt := 3) dX4_mapPlace_71 (by decide) ?_
  refine sx_wk (sx_s1 sx_m1 (sx_s1 sx_m2 (sx_s1 sx_m3 (sx_s1 sx_m4 (sx_s1 sx_m0 sx_s0))))) ?_
  exact hk3 _ _ _ _ _ h
def B_X4_mapPlace_3 (N : Nat) (k3 : Int32 → Int32 → Int32 → Int32 → sv_V → Option (Int64 × sv_V)) (l1 : Int32) (l2 : Int32) (l3 : Int32) (l4 : Int32) (V : sv_V) : Option (Int64 × sv_V) := if l1 ≤ l4 then (some ((-1 : Int64), V)) else (sx_let (((V.1 4 (0 : Int32).toNatClampNeg) + (4 : Int32)) + ((8 : Int32) * l4)) (fun x3 => (F_X2_u2 x3 V).bind (fun (x6, V4) => if x6 = l2 then ((F_X2_u2 (x3 + (2 : Int32)) V4).bind (fun (x10, V8) => if x10 = l3 then ((F_X2_u4 (x3 + (4 : Int32)) V8).bind (fun (x14, V12) => some (x14, V12))) else (B_X4_mapPlace_68 N k3 l1 l2 l3 l4 V8))) else (B_X4_mapPlace_68 N k3 l1 l2 l3 l4 V4))))
set_option maxRecDepth 20000 in
theorem tB_X4_mapPlace_3 {g : sx_G} (hG : sx_Go g) {P : Option Value → sv_V → Prop} {r : Int64} {Vr : sv_V} (hP : P (some (.long r)) Vr) {N : Nat} {k3 : Int32 → Int32 → Int32 → Int32 → sv_V → Option (Int64 × sv_V)} (hk3 : ∀ (l1 : Int32) (l2 : Int32) (l3 : Int32) (l4 : Int32) (V : sv_V), k3 l1 l2 l3 l4 V = some (r, Vr) → sv_N g qX4_mapPlace 2 3 [(0, .ref 29), (1, .int l1), (2, .int l2), (3, .int l3), (4, .int l4)] [] V P) {l1 : Int32} {l2 : Int32} {l3 : Int32} {l4 : Int32} {V : sv_V} (h : B_X4_mapPlace_3 N k3 l1 l2 l3 l4 V = some (r, Vr)) : sv_N g qX4_mapPlace 2 3 [(0, .ref 29), (1, .int l1), (2, .int l2), (3, .int l3), (4, .int l4)] [] V P := by
  unfold B_X4_mapPlace_3 at h
  refine sx_iload (pc := 3) dX4_mapPlace_3 sx_m4 ?_
  refine sx_iload_n (pc := 5) dX4_mapPlace_5 sx_m1 ?_
  refine sx_icmp_ge (pc := 6) (tgt := 74) dX4_mapPlace_6 (by decide) (fun c2 => ?_) (fun c2 => ?_)
  · have h := sx_pos c2 h
    refine sx_ldc2 (pc := 74) dX4_mapPlace_74 k_X4_169 ?_
    exact sv_lret (pc := 77) dX4_mapPlace_77 rfl h hP
  · have h := sx_neg c2 h
    refine sx_aload_n (pc := 9) dX4_mapPlace_9 sx_m0 ?_
    refine sv_getO (pc := 10) hG dX4_mapPlace_10 f_4_9 lay_29 rfl cr_29_0 ?_
    refine sv_getA (pc := 13) hG dX4_mapPlace_13 f_4_115 lay_2 rfl cr_2_3 ?_
    refine sx_iconst (pc := 16) (v := 0) dX4_mapPlace_16 (by decide) ?_
    refine sv_iald (pc := 17) hG dX4_mapPlace_17 lay_4 (by decide) ?_
    refine sx_iconst (pc := 18) (v := 4) dX4_mapPlace_18 (by decide) ?_
    refine sx_iadd (pc := 19) dX4_mapPlace_19 ?_
    refine sx_bipush (pc := 20) (v := 8) dX4_mapPlace_20 (by decide) ?_
    refine sx_iload (pc := 22) dX4_mapPlace_22 sx_m4 ?_
    refine sx_imul (pc := 24) dX4_mapPlace_24 ?_
    refine sx_iadd (pc := 25) dX4_mapPlace_25 ?_
    refine sv_tI (fun x3 hx3 => ?_)
    have h := sx_letE hx3 h
    refine sx_istore (pc := 26) (lo' := [(5, .int x3), (0, .ref 29), (1, .int l1), (2, .int l2), (3, .int l3), (4, .int l4)]) dX4_mapPlace_26 (by decide) rfl ?_
    refine sx_aload_n (pc := 28) dX4_mapPlace_28 sx_m1 ?_
    refine sv_getO (pc := 29) hG dX4_mapPlace_29 f_4_9 lay_29 rfl cr_29_0 ?_
    refine sx_iload (pc := 32) dX4_mapPlace_32 sx_m0 ?_
    obtain ⟨⟨x6, V4⟩, g5, h⟩ := sx_bnd h
    refine sv_cV (pc := 34) (y := qX2_u2) (o := (some (.int x6))) (as := [.int x3]) (V1 := V4) hG dX4_mapPlace_34 l_X4_64 y0X2_u2 yvX2_u2 rfl (Nat.le_of_ble_eq_true rfl) lay_2 kr_2 (by decide) (Nat.le_of_ble_eq_true rfl) rfl rfl rfl (t_X2_u2 hG ⟨rfl, rfl⟩ g5) ?_
    refine sx_iload_n (pc := 37) dX4_mapPlace_37 sx_m3 ?_
    refine sx_icmp_ne (pc := 38) (tgt := 68) dX4_mapPlace_38 (by decide) (fun c7 => ?_) (fun c7 => ?_)
    · have h := sx_neg c7 h
      refine sx_wk (sx_s1 sx_m1 (sx_s1 sx_m2 (sx_s1 sx_m3 (sx_s1 sx_m4 (sx_s1 sx_m5 sx_s0))))) ?_
      exact tB_X4_mapPlace_68 hG hP hk3 h
    · have h := sx_pos c7 h
      refine sx_aload_n (pc := 41) dX4_mapPlace_41 sx_m1 ?_
      refine sv_getO (pc := 42) hG dX4_mapPlace_42 f_4_9 lay_29 rfl cr_29_0 ?_
      refine sx_iload (pc := 45) dX4_mapPlace_45 sx_m0 ?_
      refine sx_iconst (pc := 47) (v := 2) dX4_mapPlace_47 (by decide) ?_
      refine sx_iadd (pc := 48) dX4_mapPlace_48 ?_
      obtain ⟨⟨x10, V8⟩, g9, h⟩ := sx_bnd h
      refine sv_cV (pc := 49) (y := qX2_u2) (o := (some (.int x10))) (as := [.int (x3 + (2 : Int32))]) (V1 := V8) hG dX4_mapPlace_49 l_X4_64 y0X2_u2 yvX2_u2 rfl (Nat.le_of_ble_eq_true rfl) lay_2 kr_2 (by decide) (Nat.le_of_ble_eq_true rfl) rfl rfl rfl (t_X2_u2 hG ⟨rfl, rfl⟩ g9) ?_
      refine sx_iload_n (pc := 52) dX4_mapPlace_52 sx_m4 ?_
      refine sx_icmp_ne (pc := 53) (tgt := 68) dX4_mapPlace_53 (by decide) (fun c11 => ?_) (fun c11 => ?_)
      · have h := sx_neg c11 h
        refine sx_wk (sx_s1 sx_m1 (sx_s1 sx_m2 (sx_s1 sx_m3 (sx_s1 sx_m4 (sx_s1 sx_m5 sx_s0))))) ?_
        exact tB_X4_mapPlace_68 hG hP hk3 h
      · have h := sx_pos c11 h
        refine sx_aload_n (pc := 56) dX4_mapPlace_56 sx_m1 ?_
        refine sv_getO (pc := 57) hG dX4_mapPlace_57 f_4_9 lay_29 rfl cr_29_0 ?_
        refine sx_iload (pc := 60) dX4_mapPlace_60 sx_m0 ?_
        refine sx_iconst (pc := 62) (v := 4) dX4_mapPlace_62 (by decide) ?_
        refine sx_iadd (pc := 63) dX4_mapPlace_63 ?_
        obtain ⟨⟨x14, V12⟩, g13, h⟩ := sx_bnd h
        refine sv_cV (pc := 64) (y := qX2_u4) (o := (some (.long x14))) (as := [.int (x3 + (4 : Int32))]) (V1 := V12) hG dX4_mapPlace_64 l_X4_74 y0X2_u4 yvX2_u4 rfl (Nat.le_of_ble_eq_true rfl) lay_2 kr_2 (by decide) (Nat.le_of_ble_eq_true rfl) rfl rfl rfl (t_X2_u4 hG ⟨rfl, rfl⟩ g13) ?_
        exact sv_lret (pc := 67) dX4_mapPlace_67 rfl h hP
theorem tL_X4_mapPlace_3 {g : sx_G} (hG : sx_Go g) {P : Option Value → sv_V → Prop} {r : Int64} {Vr : sv_V} (hP : P (some (.long r)) Vr) {N : Nat}   : ∀ (n : Nat) (l1 : Int32) (l2 : Int32) (l3 : Int32) (l4 : Int32) (V : sv_V), sx_lp5 (B_X4_mapPlace_3 N ) n l1 l2 l3 l4 V = some (r, Vr) → sv_N g qX4_mapPlace 2 3 [(0, .ref 29), (1, .int l1), (2, .int l2), (3, .int l3), (4, .int l4)] [] V P :=
  sx_lp5_ind (fun k0 ih _ _ _ _ V h => tB_X4_mapPlace_3 hG hP ih h)
def F_X4_mapPlace (N : Nat) (l1 : Int32) (l2 : Int32) (l3 : Int32) (V : sv_V) : Option (Int64 × sv_V) := sx_lp5 (B_X4_mapPlace_3 N ) N l1 l2 l3 (0 : Int32) V
set_option maxRecDepth 20000 in
theorem t_X4_mapPlace {g : sx_G} (hG : sx_Go g) {P : Option Value → sv_V → Prop} {r : Int64} {Vr : sv_V} (hP : P (some (.long r)) Vr) {N : Nat} {l1 : Int32} {l2 : Int32} {l3 : Int32} {V : sv_V} (h : F_X4_mapPlace N l1 l2 l3 V = some (r, Vr)) : sv_N g qX4_mapPlace 2 0 [(0, .ref 29), (1, .int l1), (2, .int l2), (3, .int l3)] [] V P := by
  unfold F_X4_mapPlace at h
  refine sx_iconst (pc := 0) (v := 0) dX4_mapPlace_0 (by decide) ?_
  refine sx_istore (pc := 1) (lo' := [(4, .int (0 : Int32)), (0, .ref 29), (1, .int l1), (2, .int l2), (3, .int l3)]) dX4_mapPlace_1 (by decide) rfl ?_
  refine sx_wk (sx_s1 sx_m1 (sx_s1 sx_m2 (sx_s1 sx_m3 (sx_s1 sx_m4 (sx_s1 sx_m0 sx_s0))))) ?_
  exact tL_X4_mapPlace_3 hG hP  N _ _ _ _ _ h
theorem dX4_noteMap_0 : decode cX4_noteMap 0 = .ok (.lload_n 1, 1) := by decide +kernel
theorem dX4_noteMap_1 : decode cX4_noteMap 1 = .ok (.iload_n 3, 1) := by decide +kernel
theorem dX4_noteMap_2 : decode cX4_noteMap 2 = .ok (.i2l, 1) := by decide +kernel
theorem dX4_noteMap_3 : decode cX4_noteMap 3 = .ok (.ladd, 1) := by decide +kernel
theorem dX4_noteMap_4 : decode cX4_noteMap 4 = .ok (.aload_n 0, 1) := by decide +kernel
theorem dX4_noteMap_5 : decode cX4_noteMap 5 = .ok (.getfield 9, 3) := by decide +kernel
theorem dX4_noteMap_8 : decode cX4_noteMap 8 = .ok (.getfield 118, 3) := by decide +kernel
theorem dX4_noteMap_11 : decode cX4_noteMap 11 = .ok (.iconst 0, 1) := by decide +kernel
theorem dX4_noteMap_12 : decode cX4_noteMap 12 = .ok (.iaload, 1) := by decide +kernel
theorem dX4_noteMap_13 : decode cX4_noteMap 13 = .ok (.i2l, 1) := by decide +kernel
theorem dX4_noteMap_14 : decode cX4_noteMap 14 = .ok (.lcmp, 1) := by decide +kernel
theorem dX4_noteMap_15 : decode cX4_noteMap 15 = .ok (.ifCond .le 5, 3) := by decide +kernel
theorem dX4_noteMap_18 : decode cX4_noteMap 18 = .ok (.iconst 0, 1) := by decide +kernel
theorem dX4_noteMap_19 : decode cX4_noteMap 19 = .ok (.ireturn, 1) := by decide +kernel
theorem dX4_noteMap_20 : decode cX4_noteMap 20 = .ok (.aload_n 0, 1) := by decide +kernel
theorem dX4_noteMap_21 : decode cX4_noteMap 21 = .ok (.getfield 9, 3) := by decide +kernel
theorem dX4_noteMap_24 : decode cX4_noteMap 24 = .ok (.aload_n 0, 1) := by decide +kernel
theorem dX4_noteMap_25 : decode cX4_noteMap 25 = .ok (.getfield 9, 3) := by decide +kernel
theorem dX4_noteMap_28 : decode cX4_noteMap 28 = .ok (.getfield 115, 3) := by decide +kernel
theorem dX4_noteMap_31 : decode cX4_noteMap 31 = .ok (.iconst 0, 1) := by decide +kernel
theorem dX4_noteMap_32 : decode cX4_noteMap 32 = .ok (.iaload, 1) := by decide +kernel
theorem dX4_noteMap_33 : decode cX4_noteMap 33 = .ok (.lload_n 1, 1) := by decide +kernel
theorem dX4_noteMap_34 : decode cX4_noteMap 34 = .ok (.l2i, 1) := by decide +kernel
theorem dX4_noteMap_35 : decode cX4_noteMap 35 = .ok (.iadd, 1) := by decide +kernel
theorem dX4_noteMap_36 : decode cX4_noteMap 36 = .ok (.putfield 181, 3) := by decide +kernel
theorem dX4_noteMap_39 : decode cX4_noteMap 39 = .ok (.aload_n 0, 1) := by decide +kernel
theorem dX4_noteMap_40 : decode cX4_noteMap 40 = .ok (.getfield 9, 3) := by decide +kernel
theorem dX4_noteMap_43 : decode cX4_noteMap 43 = .ok (.iload 4, 2) := by decide +kernel
theorem dX4_noteMap_45 : decode cX4_noteMap 45 = .ok (.putfield 184, 3) := by decide +kernel
theorem dX4_noteMap_48 : decode cX4_noteMap 48 = .ok (.aload_n 0, 1) := by decide +kernel
theorem dX4_noteMap_49 : decode cX4_noteMap 49 = .ok (.getfield 9, 3) := by decide +kernel
theorem dX4_noteMap_52 : decode cX4_noteMap 52 = .ok (.aload_n 0, 1) := by decide +kernel
theorem dX4_noteMap_53 : decode cX4_noteMap 53 = .ok (.getfield 9, 3) := by decide +kernel
theorem dX4_noteMap_56 : decode cX4_noteMap 56 = .ok (.getfield 181, 3) := by decide +kernel
theorem dX4_noteMap_59 : decode cX4_noteMap 59 = .ok (.invokevirtual 64, 3) := by decide +kernel
theorem dX4_noteMap_62 : decode cX4_noteMap 62 = .ok (.iload 4, 2) := by decide +kernel
theorem dX4_noteMap_64 : decode cX4_noteMap 64 = .ok (.if_icmp .ne 7, 3) := by decide +kernel
theorem dX4_noteMap_67 : decode cX4_noteMap 67 = .ok (.iconst 1, 1) := by decide +kernel
theorem dX4_noteMap_68 : decode cX4_noteMap 68 = .ok (.goto 4, 3) := by decide +kernel
theorem dX4_noteMap_71 : decode cX4_noteMap 71 = .ok (.iconst 0, 1) := by decide +kernel
theorem dX4_noteMap_72 : decode cX4_noteMap 72 = .ok (.ireturn, 1) := by decide +kernel
def F_X4_noteMap (l1 : Int64) (l3 : Int32) (l4 : Int32) (V : sv_V) : Option (Int32 × sv_V) := if (lg_cmp (l1 + l3.toInt64) ((V.1 5 (0 : Int32).toNatClampNeg).toInt64)) ≤ 0 then (sx_let (sv_I V 2 12 ((V.1 4 (0 : Int32).toNatClampNeg) + l1.toInt32)) (fun V2 => sx_let (sv_I V2 2 11 l4) (fun V3 => (F_X2_u2 (V3.1 2 12) V3).bind (fun (x6, V4) => if x6 = l4 then (some ((1 : Int32), V4)) else (some ((0 : Int32), V4)))))) else (some ((0 : Int32), V))
set_option maxRecDepth 20000 in
theorem t_X4_noteMap {g : sx_G} (hG : sx_Go g) {P : Option Value → sv_V → Prop} {r : Int32} {Vr : sv_V} (hP : P (some (.int r)) Vr) {l1 : Int64} {l3 : Int32} {l4 : Int32} {V : sv_V} (h : F_X4_noteMap l1 l3 l4 V = some (r, Vr)) : sv_N g qX4_noteMap 1 0 [(0, .ref 29), (1, .long l1), (3, .int l3), (4, .int l4)] [] V P := by
  unfold F_X4_noteMap at h
  refine sx_lload_n (pc := 0) dX4_noteMap_0 sx_m1 ?_
  refine sx_iload_n (pc := 1) dX4_noteMap_1 sx_m2 ?_
  refine sx_i2l (pc := 2) dX4_noteMap_2 ?_
  refine sx_ladd (pc := 3) dX4_noteMap_3 ?_
  refine sx_aload_n (pc := 4) dX4_noteMap_4 sx_m0 ?_
  refine sv_getO (pc := 5) hG dX4_noteMap_5 f_4_9 lay_29 rfl cr_29_0 ?_
  refine sv_getA (pc := 8) hG dX4_noteMap_8 f_4_118 lay_2 rfl cr_2_4 ?_
  refine sx_iconst (pc := 11) (v := 0) dX4_noteMap_11 (by decide) ?_
  refine sv_iald (pc := 12) hG dX4_noteMap_12 lay_5 (by decide) ?_
  refine sx_i2l (pc := 13) dX4_noteMap_13 ?_
  refine sx_lcmp (pc := 14) dX4_noteMap_14 ?_
  refine sx_if_le (pc := 15) (tgt := 20) dX4_noteMap_15 (by decide) (fun c1 => ?_) (fun c1 => ?_)
  · have h := sx_pos c1 h
    refine sx_aload_n (pc := 20) dX4_noteMap_20 sx_m0 ?_
    refine sv_getO (pc := 21) hG dX4_noteMap_21 f_4_9 lay_29 rfl cr_29_0 ?_
    refine sx_aload_n (pc := 24) dX4_noteMap_24 sx_m0 ?_
    refine sv_getO (pc := 25) hG dX4_noteMap_25 f_4_9 lay_29 rfl cr_29_0 ?_
    refine sv_getA (pc := 28) hG dX4_noteMap_28 f_4_115 lay_2 rfl cr_2_3 ?_
    refine sx_iconst (pc := 31) (v := 0) dX4_noteMap_31 (by decide) ?_
    refine sv_iald (pc := 32) hG dX4_noteMap_32 lay_4 (by decide) ?_
    refine sx_lload_n (pc := 33) dX4_noteMap_33 sx_m1 ?_
    refine sx_l2i (pc := 34) dX4_noteMap_34 ?_
    refine sx_iadd (pc := 35) dX4_noteMap_35 ?_
    obtain ⟨V2, hV2⟩ : ∃ z : sv_V, z = sv_I V 2 12 ((V.1 4 (0 : Int32).toNatClampNeg) + l1.toInt32) := ⟨_, rfl⟩
    have h := sx_letE hV2 h
    refine sv_putI (pc := 36) hG dX4_noteMap_36 f_4_181 lay_2 rfl hV2 ?_
    refine sx_aload_n (pc := 39) dX4_noteMap_39 sx_m0 ?_
    refine sv_getO (pc := 40) hG dX4_noteMap_40 f_4_9 lay_29 rfl cr_29_0 ?_
    refine sx_iload (pc := 43) dX4_noteMap_43 sx_m3 ?_
    obtain ⟨V3, hV3⟩ : ∃ z : sv_V, z = sv_I V2 2 11 l4 := ⟨_, rfl⟩
    have h := sx_letE hV3 h
    refine sv_putI (pc := 45) hG dX4_noteMap_45 f_4_184 lay_2 rfl hV3 ?_
    refine sx_aload_n (pc := 48) dX4_noteMap_48 sx_m0 ?_
    refine sv_getO (pc := 49) hG dX4_noteMap_49 f_4_9 lay_29 rfl cr_29_0 ?_
    refine sx_aload_n (pc := 52) dX4_noteMap_52 sx_m0 ?_
    refine sv_getO (pc := 53) hG dX4_noteMap_53 f_4_9 lay_29 rfl cr_29_0 ?_
    refine sv_getI (pc := 56) hG dX4_noteMap_56 f_4_181 lay_2 rfl ?_
    obtain ⟨⟨x6, V4⟩, g5, h⟩ := sx_bnd h
    refine sv_cV (pc := 59) (y := qX2_u2) (o := (some (.int x6))) (as := [.int (V3.1 2 12)]) (V1 := V4) hG dX4_noteMap_59 l_X4_64 y0X2_u2 yvX2_u2 rfl (Nat.le_of_ble_eq_true rfl) lay_2 kr_2 (by decide) (Nat.le_of_ble_eq_true rfl) rfl rfl rfl (t_X2_u2 hG ⟨rfl, rfl⟩ g5) ?_
    refine sx_iload (pc := 62) dX4_noteMap_62 sx_m3 ?_
    refine sx_icmp_ne (pc := 64) (tgt := 71) dX4_noteMap_64 (by decide) (fun c7 => ?_) (fun c7 => ?_)
    · have h := sx_neg c7 h
      refine sx_iconst (pc := 71) (v := 0) dX4_noteMap_71 (by decide) ?_
      exact sv_zret (pc := 72) dX4_noteMap_72 rfl rfl h hP
    · have h := sx_pos c7 h
      refine sx_iconst (pc := 67) (v := 1) dX4_noteMap_67 (by decide) ?_
      refine sx_goto (pc := 68) (tgt := 72) dX4_noteMap_68 (by decide) ?_
      exact sv_zret (pc := 72) dX4_noteMap_72 rfl rfl h hP
  · have h := sx_neg c1 h
    refine sx_iconst (pc := 18) (v := 0) dX4_noteMap_18 (by decide) ?_
    exact sv_zret (pc := 19) dX4_noteMap_19 rfl rfl h hP
theorem dX4_byteMapHolds_0 : decode cX4_byteMapHolds 0 = .ok (.aload_n 0, 1) := by decide +kernel
theorem dX4_byteMapHolds_1 : decode cX4_byteMapHolds 1 = .ok (.getfield 9, 3) := by decide +kernel
theorem dX4_byteMapHolds_4 : decode cX4_byteMapHolds 4 = .ok (.sipush 262, 3) := by decide +kernel
theorem dX4_byteMapHolds_7 : decode cX4_byteMapHolds 7 = .ok (.putfield 187, 3) := by decide +kernel
theorem dX4_byteMapHolds_10 : decode cX4_byteMapHolds 10 = .ok (.aload_n 0, 1) := by decide +kernel
theorem dX4_byteMapHolds_11 : decode cX4_byteMapHolds 11 = .ok (.getfield 9, 3) := by decide +kernel
theorem dX4_byteMapHolds_14 : decode cX4_byteMapHolds 14 = .ok (.sipush 256, 3) := by decide +kernel
theorem dX4_byteMapHolds_17 : decode cX4_byteMapHolds 17 = .ok (.putfield 190, 3) := by decide +kernel
theorem dX4_byteMapHolds_20 : decode cX4_byteMapHolds 20 = .ok (.aload_n 0, 1) := by decide +kernel
theorem dX4_byteMapHolds_21 : decode cX4_byteMapHolds 21 = .ok (.lload_n 1, 1) := by decide +kernel
theorem dX4_byteMapHolds_22 : decode cX4_byteMapHolds 22 = .ok (.sipush 262, 3) := by decide +kernel
theorem dX4_byteMapHolds_25 : decode cX4_byteMapHolds 25 = .ok (.iconst 0, 1) := by decide +kernel
theorem dX4_byteMapHolds_26 : decode cX4_byteMapHolds 26 = .ok (.invokevirtual 193, 3) := by decide +kernel
theorem dX4_byteMapHolds_29 : decode cX4_byteMapHolds 29 = .ok (.ifCond .eq 29, 3) := by decide +kernel
theorem dX4_byteMapHolds_32 : decode cX4_byteMapHolds 32 = .ok (.aload_n 0, 1) := by decide +kernel
theorem dX4_byteMapHolds_33 : decode cX4_byteMapHolds 33 = .ok (.getfield 9, 3) := by decide +kernel
theorem dX4_byteMapHolds_36 : decode cX4_byteMapHolds 36 = .ok (.aload_n 0, 1) := by decide +kernel
theorem dX4_byteMapHolds_37 : decode cX4_byteMapHolds 37 = .ok (.getfield 9, 3) := by decide +kernel
theorem dX4_byteMapHolds_40 : decode cX4_byteMapHolds 40 = .ok (.getfield 181, 3) := by decide +kernel
theorem dX4_byteMapHolds_43 : decode cX4_byteMapHolds 43 = .ok (.iconst 2, 1) := by decide +kernel
theorem dX4_byteMapHolds_44 : decode cX4_byteMapHolds 44 = .ok (.iadd, 1) := by decide +kernel
theorem dX4_byteMapHolds_45 : decode cX4_byteMapHolds 45 = .ok (.invokevirtual 64, 3) := by decide +kernel
theorem dX4_byteMapHolds_48 : decode cX4_byteMapHolds 48 = .ok (.sipush 262, 3) := by decide +kernel
theorem dX4_byteMapHolds_51 : decode cX4_byteMapHolds 51 = .ok (.if_icmp .ne 7, 3) := by decide +kernel
theorem dX4_byteMapHolds_54 : decode cX4_byteMapHolds 54 = .ok (.iconst 1, 1) := by decide +kernel
theorem dX4_byteMapHolds_55 : decode cX4_byteMapHolds 55 = .ok (.goto 4, 3) := by decide +kernel
theorem dX4_byteMapHolds_58 : decode cX4_byteMapHolds 58 = .ok (.iconst 0, 1) := by decide +kernel
theorem dX4_byteMapHolds_59 : decode cX4_byteMapHolds 59 = .ok (.ireturn, 1) := by decide +kernel
def F_X4_byteMapHolds (l1 : Int64) (V : sv_V) : Option (Int32 × sv_V) := sx_let (sv_I V 2 13 (262 : Int32)) (fun V1 => sx_let (sv_I V1 2 14 (256 : Int32)) (fun V2 => (F_X4_noteMap l1 (262 : Int32) (0 : Int32) V2).bind (fun (x5, V3) => if x5 = 0 then (some ((0 : Int32), V3)) else ((F_X2_u2 ((V3.1 2 12) + (2 : Int32)) V3).bind (fun (x9, V7) => if x9 = (262 : Int32) then (some ((1 : Int32), V7)) else (some ((0 : Int32), V7)))))))
set_option maxRecDepth 20000 in
theorem t_X4_byteMapHolds {g : sx_G} (hG : sx_Go g) {P : Option Value → sv_V → Prop} {r : Int32} {Vr : sv_V} (hP : P (some (.int r)) Vr) {l1 : Int64} {V : sv_V} (h : F_X4_byteMapHolds l1 V = some (r, Vr)) : sv_N g qX4_byteMapHolds 2 0 [(0, .ref 29), (1, .long l1)] [] V P := by
  unfold F_X4_byteMapHolds at h
  refine sx_aload_n (pc := 0) dX4_byteMapHolds_0 sx_m0 ?_
  refine sv_getO (pc := 1) hG dX4_byteMapHolds_1 f_4_9 lay_29 rfl cr_29_0 ?_
  refine sx_sipush (pc := 4) (v := 262) dX4_byteMapHolds_4 (by decide) ?_
  obtain ⟨V1, hV1⟩ : ∃ z : sv_V, z = sv_I V 2 13 (262 : Int32) := ⟨_, rfl⟩
  have h := sx_letE hV1 h
  refine sv_putI (pc := 7) hG dX4_byteMapHolds_7 f_4_187 lay_2 rfl hV1 ?_
  refine sx_aload_n (pc := 10) dX4_byteMapHolds_10 sx_m0 ?_
  refine sv_getO (pc := 11) hG dX4_byteMapHolds_11 f_4_9 lay_29 rfl cr_29_0 ?_
  refine sx_sipush (pc := 14) (v := 256) dX4_byteMapHolds_14 (by decide) ?_
  obtain ⟨V2, hV2⟩ : ∃ z : sv_V, z = sv_I V1 2 14 (256 : Int32) := ⟨_, rfl⟩
  have h := sx_letE hV2 h
  refine sv_putI (pc := 17) hG dX4_byteMapHolds_17 f_4_190 lay_2 rfl hV2 ?_
  refine sx_aload_n (pc := 20) dX4_byteMapHolds_20 sx_m0 ?_
  refine sx_lload_n (pc := 21) dX4_byteMapHolds_21 sx_m1 ?_
  refine sx_sipush (pc := 22) (v := 262) dX4_byteMapHolds_22 (by decide) ?_
  refine sx_iconst (pc := 25) (v := 0) dX4_byteMapHolds_25 (by decide) ?_
  obtain ⟨⟨x5, V3⟩, g4, h⟩ := sx_bnd h
  refine sv_cV (pc := 26) (y := qX4_noteMap) (o := (some (.int x5))) (as := [.long l1, .int (262 : Int32), .int (0 : Int32)]) (V1 := V3) hG dX4_byteMapHolds_26 l_X4_193 y0X4_noteMap yvX4_noteMap rfl (Nat.le_of_ble_eq_true rfl) lay_29 kr_4 (by decide) (Nat.le_of_ble_eq_true rfl) rfl rfl rfl (t_X4_noteMap hG ⟨rfl, rfl⟩ g4) ?_
  refine sx_if_eq (pc := 29) (tgt := 58) dX4_byteMapHolds_29 (by decide) (fun c6 => ?_) (fun c6 => ?_)
  · have h := sx_pos c6 h
    refine sx_iconst (pc := 58) (v := 0) dX4_byteMapHolds_58 (by decide) ?_
    exact sv_zret (pc := 59) dX4_byteMapHolds_59 rfl rfl h hP
  · have h := sx_neg c6 h
    refine sx_aload_n (pc := 32) dX4_byteMapHolds_32 sx_m0 ?_
    refine sv_getO (pc := 33) hG dX4_byteMapHolds_33 f_4_9 lay_29 rfl cr_29_0 ?_
    refine sx_aload_n (pc := 36) dX4_byteMapHolds_36 sx_m0 ?_
    refine sv_getO (pc := 37) hG dX4_byteMapHolds_37 f_4_9 lay_29 rfl cr_29_0 ?_
    refine sv_getI (pc := 40) hG dX4_byteMapHolds_40 f_4_181 lay_2 rfl ?_
    refine sx_iconst (pc := 43) (v := 2) dX4_byteMapHolds_43 (by decide) ?_
    refine sx_iadd (pc := 44) dX4_byteMapHolds_44 ?_
    obtain ⟨⟨x9, V7⟩, g8, h⟩ := sx_bnd h
    refine sv_cV (pc := 45) (y := qX2_u2) (o := (some (.int x9))) (as := [.int ((V3.1 2 12) + (2 : Int32))]) (V1 := V7) hG dX4_byteMapHolds_45 l_X4_64 y0X2_u2 yvX2_u2 rfl (Nat.le_of_ble_eq_true rfl) lay_2 kr_2 (by decide) (Nat.le_of_ble_eq_true rfl) rfl rfl rfl (t_X2_u2 hG ⟨rfl, rfl⟩ g8) ?_
    refine sx_sipush (pc := 48) (v := 262) dX4_byteMapHolds_48 (by decide) ?_
    refine sx_icmp_ne (pc := 51) (tgt := 58) dX4_byteMapHolds_51 (by decide) (fun c10 => ?_) (fun c10 => ?_)
    · have h := sx_neg c10 h
      refine sx_iconst (pc := 58) (v := 0) dX4_byteMapHolds_58 (by decide) ?_
      exact sv_zret (pc := 59) dX4_byteMapHolds_59 rfl rfl h hP
    · have h := sx_pos c10 h
      refine sx_iconst (pc := 54) (v := 1) dX4_byteMapHolds_54 (by decide) ?_
      refine sx_goto (pc := 55) (tgt := 59) dX4_byteMapHolds_55 (by decide) ?_
      exact sv_zret (pc := 59) dX4_byteMapHolds_59 rfl rfl h hP
theorem dX4_segmentsHold_0 : decode cX4_segmentsHold 0 = .ok (.aload_n 0, 1) := by decide +kernel
theorem dX4_segmentsHold_1 : decode cX4_segmentsHold 1 = .ok (.lload_n 1, 1) := by decide +kernel
theorem dX4_segmentsHold_2 : decode cX4_segmentsHold 2 = .ok (.bipush 14, 2) := by decide +kernel
theorem dX4_segmentsHold_4 : decode cX4_segmentsHold 4 = .ok (.iconst 4, 1) := by decide +kernel
theorem dX4_segmentsHold_5 : decode cX4_segmentsHold 5 = .ok (.invokevirtual 193, 3) := by decide +kernel
theorem dX4_segmentsHold_8 : decode cX4_segmentsHold 8 = .ok (.ifCond .ne 5, 3) := by decide +kernel
theorem dX4_segmentsHold_11 : decode cX4_segmentsHold 11 = .ok (.iconst 0, 1) := by decide +kernel
theorem dX4_segmentsHold_12 : decode cX4_segmentsHold 12 = .ok (.ireturn, 1) := by decide +kernel
theorem dX4_segmentsHold_13 : decode cX4_segmentsHold 13 = .ok (.aload_n 0, 1) := by decide +kernel
theorem dX4_segmentsHold_14 : decode cX4_segmentsHold 14 = .ok (.getfield 9, 3) := by decide +kernel
theorem dX4_segmentsHold_17 : decode cX4_segmentsHold 17 = .ok (.getfield 181, 3) := by decide +kernel
theorem dX4_segmentsHold_20 : decode cX4_segmentsHold 20 = .ok (.istore_n 3, 1) := by decide +kernel
theorem dX4_segmentsHold_21 : decode cX4_segmentsHold 21 = .ok (.aload_n 0, 1) := by decide +kernel
theorem dX4_segmentsHold_22 : decode cX4_segmentsHold 22 = .ok (.getfield 9, 3) := by decide +kernel
theorem dX4_segmentsHold_25 : decode cX4_segmentsHold 25 = .ok (.iload_n 3, 1) := by decide +kernel
theorem dX4_segmentsHold_26 : decode cX4_segmentsHold 26 = .ok (.bipush 6, 2) := by decide +kernel
theorem dX4_segmentsHold_28 : decode cX4_segmentsHold 28 = .ok (.iadd, 1) := by decide +kernel
theorem dX4_segmentsHold_29 : decode cX4_segmentsHold 29 = .ok (.invokevirtual 64, 3) := by decide +kernel
theorem dX4_segmentsHold_32 : decode cX4_segmentsHold 32 = .ok (.istore 4, 2) := by decide +kernel
theorem dX4_segmentsHold_34 : decode cX4_segmentsHold 34 = .ok (.iload 4, 2) := by decide +kernel
theorem dX4_segmentsHold_36 : decode cX4_segmentsHold 36 = .ok (.iconst 2, 1) := by decide +kernel
theorem dX4_segmentsHold_37 : decode cX4_segmentsHold 37 = .ok (.idiv, 1) := by decide +kernel
theorem dX4_segmentsHold_38 : decode cX4_segmentsHold 38 = .ok (.istore 5, 2) := by decide +kernel
theorem dX4_segmentsHold_40 : decode cX4_segmentsHold 40 = .ok (.aload_n 0, 1) := by decide +kernel
theorem dX4_segmentsHold_41 : decode cX4_segmentsHold 41 = .ok (.getfield 9, 3) := by decide +kernel
theorem dX4_segmentsHold_44 : decode cX4_segmentsHold 44 = .ok (.aload_n 0, 1) := by decide +kernel
theorem dX4_segmentsHold_45 : decode cX4_segmentsHold 45 = .ok (.getfield 9, 3) := by decide +kernel
theorem dX4_segmentsHold_48 : decode cX4_segmentsHold 48 = .ok (.iload_n 3, 1) := by decide +kernel
theorem dX4_segmentsHold_49 : decode cX4_segmentsHold 49 = .ok (.iconst 2, 1) := by decide +kernel
theorem dX4_segmentsHold_50 : decode cX4_segmentsHold 50 = .ok (.iadd, 1) := by decide +kernel
theorem dX4_segmentsHold_51 : decode cX4_segmentsHold 51 = .ok (.invokevirtual 64, 3) := by decide +kernel
theorem dX4_segmentsHold_54 : decode cX4_segmentsHold 54 = .ok (.putfield 187, 3) := by decide +kernel
theorem dX4_segmentsHold_57 : decode cX4_segmentsHold 57 = .ok (.aload_n 0, 1) := by decide +kernel
theorem dX4_segmentsHold_58 : decode cX4_segmentsHold 58 = .ok (.getfield 9, 3) := by decide +kernel
theorem dX4_segmentsHold_61 : decode cX4_segmentsHold 61 = .ok (.iload 5, 2) := by decide +kernel
theorem dX4_segmentsHold_63 : decode cX4_segmentsHold 63 = .ok (.putfield 190, 3) := by decide +kernel
theorem dX4_segmentsHold_66 : decode cX4_segmentsHold 66 = .ok (.lload_n 1, 1) := by decide +kernel
theorem dX4_segmentsHold_67 : decode cX4_segmentsHold 67 = .ok (.aload_n 0, 1) := by decide +kernel
theorem dX4_segmentsHold_68 : decode cX4_segmentsHold 68 = .ok (.getfield 9, 3) := by decide +kernel
theorem dX4_segmentsHold_71 : decode cX4_segmentsHold 71 = .ok (.getfield 187, 3) := by decide +kernel
theorem dX4_segmentsHold_74 : decode cX4_segmentsHold 74 = .ok (.i2l, 1) := by decide +kernel
theorem dX4_segmentsHold_75 : decode cX4_segmentsHold 75 = .ok (.ladd, 1) := by decide +kernel
theorem dX4_segmentsHold_76 : decode cX4_segmentsHold 76 = .ok (.aload_n 0, 1) := by decide +kernel
theorem dX4_segmentsHold_77 : decode cX4_segmentsHold 77 = .ok (.getfield 9, 3) := by decide +kernel
theorem dX4_segmentsHold_80 : decode cX4_segmentsHold 80 = .ok (.getfield 118, 3) := by decide +kernel
theorem dX4_segmentsHold_83 : decode cX4_segmentsHold 83 = .ok (.iconst 0, 1) := by decide +kernel
theorem dX4_segmentsHold_84 : decode cX4_segmentsHold 84 = .ok (.iaload, 1) := by decide +kernel
theorem dX4_segmentsHold_85 : decode cX4_segmentsHold 85 = .ok (.i2l, 1) := by decide +kernel
theorem dX4_segmentsHold_86 : decode cX4_segmentsHold 86 = .ok (.lcmp, 1) := by decide +kernel
theorem dX4_segmentsHold_87 : decode cX4_segmentsHold 87 = .ok (.ifCond .gt 41, 3) := by decide +kernel
theorem dX4_segmentsHold_90 : decode cX4_segmentsHold 90 = .ok (.iload 4, 2) := by decide +kernel
theorem dX4_segmentsHold_92 : decode cX4_segmentsHold 92 = .ok (.iconst 2, 1) := by decide +kernel
theorem dX4_segmentsHold_93 : decode cX4_segmentsHold 93 = .ok (.irem, 1) := by decide +kernel
theorem dX4_segmentsHold_94 : decode cX4_segmentsHold 94 = .ok (.ifCond .ne 34, 3) := by decide +kernel
theorem dX4_segmentsHold_97 : decode cX4_segmentsHold 97 = .ok (.iload 5, 2) := by decide +kernel
theorem dX4_segmentsHold_99 : decode cX4_segmentsHold 99 = .ok (.iconst 1, 1) := by decide +kernel
theorem dX4_segmentsHold_100 : decode cX4_segmentsHold 100 = .ok (.if_icmp .lt 28, 3) := by decide +kernel
theorem dX4_segmentsHold_103 : decode cX4_segmentsHold 103 = .ok (.iload 5, 2) := by decide +kernel
theorem dX4_segmentsHold_105 : decode cX4_segmentsHold 105 = .ok (.bipush 40, 2) := by decide +kernel
theorem dX4_segmentsHold_107 : decode cX4_segmentsHold 107 = .ok (.if_icmp .gt 21, 3) := by decide +kernel
theorem dX4_segmentsHold_110 : decode cX4_segmentsHold 110 = .ok (.bipush 16, 2) := by decide +kernel
theorem dX4_segmentsHold_112 : decode cX4_segmentsHold 112 = .ok (.bipush 8, 2) := by decide +kernel
theorem dX4_segmentsHold_114 : decode cX4_segmentsHold 114 = .ok (.iload 5, 2) := by decide +kernel
theorem dX4_segmentsHold_116 : decode cX4_segmentsHold 116 = .ok (.imul, 1) := by decide +kernel
theorem dX4_segmentsHold_117 : decode cX4_segmentsHold 117 = .ok (.iadd, 1) := by decide +kernel
theorem dX4_segmentsHold_118 : decode cX4_segmentsHold 118 = .ok (.aload_n 0, 1) := by decide +kernel
theorem dX4_segmentsHold_119 : decode cX4_segmentsHold 119 = .ok (.getfield 9, 3) := by decide +kernel
theorem dX4_segmentsHold_122 : decode cX4_segmentsHold 122 = .ok (.getfield 187, 3) := by decide +kernel
theorem dX4_segmentsHold_125 : decode cX4_segmentsHold 125 = .ok (.if_icmp .le 5, 3) := by decide +kernel
theorem dX4_segmentsHold_128 : decode cX4_segmentsHold 128 = .ok (.iconst 0, 1) := by decide +kernel
theorem dX4_segmentsHold_129 : decode cX4_segmentsHold 129 = .ok (.ireturn, 1) := by decide +kernel
theorem dX4_segmentsHold_130 : decode cX4_segmentsHold 130 = .ok (.iconst (-1), 1) := by decide +kernel
theorem dX4_segmentsHold_131 : decode cX4_segmentsHold 131 = .ok (.istore 6, 2) := by decide +kernel
theorem dX4_segmentsHold_133 : decode cX4_segmentsHold 133 = .ok (.iconst 0, 1) := by decide +kernel
theorem dX4_segmentsHold_134 : decode cX4_segmentsHold 134 = .ok (.istore 7, 2) := by decide +kernel
theorem dX4_segmentsHold_136 : decode cX4_segmentsHold 136 = .ok (.iload 7, 2) := by decide +kernel
theorem dX4_segmentsHold_138 : decode cX4_segmentsHold 138 = .ok (.iload 5, 2) := by decide +kernel
theorem dX4_segmentsHold_140 : decode cX4_segmentsHold 140 = .ok (.if_icmp .ge 101, 3) := by decide +kernel
theorem dX4_segmentsHold_143 : decode cX4_segmentsHold 143 = .ok (.aload_n 0, 1) := by decide +kernel
theorem dX4_segmentsHold_144 : decode cX4_segmentsHold 144 = .ok (.getfield 9, 3) := by decide +kernel
theorem dX4_segmentsHold_147 : decode cX4_segmentsHold 147 = .ok (.iload_n 3, 1) := by decide +kernel
theorem dX4_segmentsHold_148 : decode cX4_segmentsHold 148 = .ok (.bipush 14, 2) := by decide +kernel
theorem dX4_segmentsHold_150 : decode cX4_segmentsHold 150 = .ok (.iadd, 1) := by decide +kernel
theorem dX4_segmentsHold_151 : decode cX4_segmentsHold 151 = .ok (.iconst 2, 1) := by decide +kernel
theorem dX4_segmentsHold_152 : decode cX4_segmentsHold 152 = .ok (.iload 7, 2) := by decide +kernel
theorem dX4_segmentsHold_154 : decode cX4_segmentsHold 154 = .ok (.imul, 1) := by decide +kernel
theorem dX4_segmentsHold_155 : decode cX4_segmentsHold 155 = .ok (.iadd, 1) := by decide +kernel
theorem dX4_segmentsHold_156 : decode cX4_segmentsHold 156 = .ok (.invokevirtual 64, 3) := by decide +kernel
theorem dX4_segmentsHold_159 : decode cX4_segmentsHold 159 = .ok (.istore 8, 2) := by decide +kernel
theorem dX4_segmentsHold_161 : decode cX4_segmentsHold 161 = .ok (.aload_n 0, 1) := by decide +kernel
theorem dX4_segmentsHold_162 : decode cX4_segmentsHold 162 = .ok (.getfield 9, 3) := by decide +kernel
theorem dX4_segmentsHold_165 : decode cX4_segmentsHold 165 = .ok (.iload_n 3, 1) := by decide +kernel
theorem dX4_segmentsHold_166 : decode cX4_segmentsHold 166 = .ok (.bipush 16, 2) := by decide +kernel
theorem dX4_segmentsHold_168 : decode cX4_segmentsHold 168 = .ok (.iadd, 1) := by decide +kernel
theorem dX4_segmentsHold_169 : decode cX4_segmentsHold 169 = .ok (.iconst 2, 1) := by decide +kernel
theorem dX4_segmentsHold_170 : decode cX4_segmentsHold 170 = .ok (.iload 5, 2) := by decide +kernel
theorem dX4_segmentsHold_172 : decode cX4_segmentsHold 172 = .ok (.imul, 1) := by decide +kernel
theorem dX4_segmentsHold_173 : decode cX4_segmentsHold 173 = .ok (.iadd, 1) := by decide +kernel
theorem dX4_segmentsHold_174 : decode cX4_segmentsHold 174 = .ok (.iconst 2, 1) := by decide +kernel
theorem dX4_segmentsHold_175 : decode cX4_segmentsHold 175 = .ok (.iload 7, 2) := by decide +kernel
theorem dX4_segmentsHold_177 : decode cX4_segmentsHold 177 = .ok (.imul, 1) := by decide +kernel
theorem dX4_segmentsHold_178 : decode cX4_segmentsHold 178 = .ok (.iadd, 1) := by decide +kernel
theorem dX4_segmentsHold_179 : decode cX4_segmentsHold 179 = .ok (.invokevirtual 64, 3) := by decide +kernel
theorem dX4_segmentsHold_182 : decode cX4_segmentsHold 182 = .ok (.istore 9, 2) := by decide +kernel
theorem dX4_segmentsHold_184 : decode cX4_segmentsHold 184 = .ok (.aload_n 0, 1) := by decide +kernel
theorem dX4_segmentsHold_185 : decode cX4_segmentsHold 185 = .ok (.getfield 9, 3) := by decide +kernel
theorem dX4_segmentsHold_188 : decode cX4_segmentsHold 188 = .ok (.iload_n 3, 1) := by decide +kernel
theorem dX4_segmentsHold_189 : decode cX4_segmentsHold 189 = .ok (.bipush 16, 2) := by decide +kernel
theorem dX4_segmentsHold_191 : decode cX4_segmentsHold 191 = .ok (.iadd, 1) := by decide +kernel
theorem dX4_segmentsHold_192 : decode cX4_segmentsHold 192 = .ok (.bipush 6, 2) := by decide +kernel
theorem dX4_segmentsHold_194 : decode cX4_segmentsHold 194 = .ok (.iload 5, 2) := by decide +kernel
theorem dX4_segmentsHold_196 : decode cX4_segmentsHold 196 = .ok (.imul, 1) := by decide +kernel
theorem dX4_segmentsHold_197 : decode cX4_segmentsHold 197 = .ok (.iadd, 1) := by decide +kernel
theorem dX4_segmentsHold_198 : decode cX4_segmentsHold 198 = .ok (.iconst 2, 1) := by decide +kernel
theorem dX4_segmentsHold_199 : decode cX4_segmentsHold 199 = .ok (.iload 7, 2) := by decide +kernel
theorem dX4_segmentsHold_201 : decode cX4_segmentsHold 201 = .ok (.imul, 1) := by decide +kernel
theorem dX4_segmentsHold_202 : decode cX4_segmentsHold 202 = .ok (.iadd, 1) := by decide +kernel
theorem dX4_segmentsHold_203 : decode cX4_segmentsHold 203 = .ok (.invokevirtual 64, 3) := by decide +kernel
theorem dX4_segmentsHold_206 : decode cX4_segmentsHold 206 = .ok (.istore 10, 2) := by decide +kernel
theorem dX4_segmentsHold_208 : decode cX4_segmentsHold 208 = .ok (.iload 8, 2) := by decide +kernel
theorem dX4_segmentsHold_210 : decode cX4_segmentsHold 210 = .ok (.iload 6, 2) := by decide +kernel
theorem dX4_segmentsHold_212 : decode cX4_segmentsHold 212 = .ok (.if_icmp .le 17, 3) := by decide +kernel
theorem dX4_segmentsHold_215 : decode cX4_segmentsHold 215 = .ok (.iload 9, 2) := by decide +kernel
theorem dX4_segmentsHold_217 : decode cX4_segmentsHold 217 = .ok (.iload 8, 2) := by decide +kernel
theorem dX4_segmentsHold_219 : decode cX4_segmentsHold 219 = .ok (.if_icmp .gt 10, 3) := by decide +kernel
theorem dX4_segmentsHold_222 : decode cX4_segmentsHold 222 = .ok (.iload 10, 2) := by decide +kernel
theorem dX4_segmentsHold_224 : decode cX4_segmentsHold 224 = .ok (.iconst 2, 1) := by decide +kernel
theorem dX4_segmentsHold_225 : decode cX4_segmentsHold 225 = .ok (.irem, 1) := by decide +kernel
theorem dX4_segmentsHold_226 : decode cX4_segmentsHold 226 = .ok (.ifCond .eq 5, 3) := by decide +kernel
theorem dX4_segmentsHold_229 : decode cX4_segmentsHold 229 = .ok (.iconst 0, 1) := by decide +kernel
theorem dX4_segmentsHold_230 : decode cX4_segmentsHold 230 = .ok (.ireturn, 1) := by decide +kernel
theorem dX4_segmentsHold_231 : decode cX4_segmentsHold 231 = .ok (.iload 8, 2) := by decide +kernel
theorem dX4_segmentsHold_233 : decode cX4_segmentsHold 233 = .ok (.istore 6, 2) := by decide +kernel
theorem dX4_segmentsHold_235 : decode cX4_segmentsHold 235 = .ok (.iinc 7 1, 3) := by decide +kernel
theorem dX4_segmentsHold_238 : decode cX4_segmentsHold 238 = .ok (.goto (-102), 3) := by decide +kernel
theorem dX4_segmentsHold_241 : decode cX4_segmentsHold 241 = .ok (.iload 6, 2) := by decide +kernel
theorem dX4_segmentsHold_243 : decode cX4_segmentsHold 243 = .ok (.ldc 197, 2) := by decide +kernel
theorem dX4_segmentsHold_245 : decode cX4_segmentsHold 245 = .ok (.if_icmp .ne 7, 3) := by decide +kernel
theorem dX4_segmentsHold_248 : decode cX4_segmentsHold 248 = .ok (.iconst 1, 1) := by decide +kernel
theorem dX4_segmentsHold_249 : decode cX4_segmentsHold 249 = .ok (.goto 4, 3) := by decide +kernel
theorem dX4_segmentsHold_252 : decode cX4_segmentsHold 252 = .ok (.iconst 0, 1) := by decide +kernel
theorem dX4_segmentsHold_253 : decode cX4_segmentsHold 253 = .ok (.ireturn, 1) := by decide +kernel
def B_X4_segmentsHold_136 (N : Nat) (k136 : Int32 → Int32 → Int32 → Int32 → sv_V → Option (Int32 × sv_V)) (l3 : Int32) (l5 : Int32) (l6 : Int32) (l7 : Int32) (V : sv_V) : Option (Int32 × sv_V) := if l5 ≤ l7 then (if l6 = (65535 : Int32) then (some ((1 : Int32), V)) else (some ((0 : Int32), V))) else ((F_X2_u2 ((l3 + (14 : Int32)) + ((2 : Int32) * l7)) V).bind (fun (x5, V3) => (F_X2_u2 (((l3 + (16 : Int32)) + ((2 : Int32) * l5)) + ((2 : Int32) * l7)) V3).bind (fun (x8, V6) => (F_X2_u2 (((l3 + (16 : Int32)) + ((6 : Int32) * l5)) + ((2 : Int32) * l7)) V6).bind (fun (x11, V9) => if x5 ≤ l6 then (some ((0 : Int32), V9)) else (if x5 < x8 then (some ((0 : Int32), V9)) else (if (x11 - x11 / (2 : Int32) * (2 : Int32)) = 0 then (sx_let (l7 + 1) (fun x15 => k136 l3 l5 x5 x15 V9)) else (some ((0 : Int32), V9))))))))
set_option maxRecDepth 20000 in
theorem tB_X4_segmentsHold_136 {g : sx_G} (hG : sx_Go g) {P : Option Value → sv_V → Prop} {r : Int32} {Vr : sv_V} (hP : P (some (.int r)) Vr) {N : Nat} {k136 : Int32 → Int32 → Int32 → Int32 → sv_V → Option (Int32 × sv_V)} (hk136 : ∀ (l3 : Int32) (l5 : Int32) (l6 : Int32) (l7 : Int32) (V : sv_V), k136 l3 l5 l6 l7 V = some (r, Vr) → sv_N g qX4_segmentsHold 2 136 [(0, .ref 29), (3, .int l3), (5, .int l5), (6, .int l6), (7, .int l7)] [] V P) {l3 : Int32} {l5 : Int32} {l6 : Int32} {l7 : Int32} {V : sv_V} (h : B_X4_segmentsHold_136 N k136 l3 l5 l6 l7 V = some (r, Vr)) : sv_N g qX4_segmentsHold 2 136 [(0, .ref 29), (3, .int l3), (5, .int l5), (6, .int l6), (7, .int l7)] [] V P := by
  unfold B_X4_segmentsHold_136 at h
  refine sx_iload (pc := 136) dX4_segmentsHold_136 sx_m4 ?_
  refine sx_iload (pc := 138) dX4_segmentsHold_138 sx_m2 ?_
  refine sx_icmp_ge (pc := 140) (tgt := 241) dX4_segmentsHold_140 (by decide) (fun c1 => ?_) (fun c1 => ?_)
  · have h := sx_pos c1 h
    refine sx_iload (pc := 241) dX4_segmentsHold_241 sx_m3 ?_
    refine sx_ldc (pc := 243) dX4_segmentsHold_243 k_X4_197 ?_
    refine sx_icmp_ne (pc := 245) (tgt := 252) dX4_segmentsHold_245 (by decide) (fun c2 => ?_) (fun c2 => ?_)
    · have h := sx_neg c2 h
      refine sx_iconst (pc := 252) (v := 0) dX4_segmentsHold_252 (by decide) ?_
      exact sv_zret (pc := 253) dX4_segmentsHold_253 rfl rfl h hP
    · have h := sx_pos c2 h
      refine sx_iconst (pc := 248) (v := 1) dX4_segmentsHold_248 (by decide) ?_
      refine sx_goto (pc := 249) (tgt := 253) dX4_segmentsHold_249 (by decide) ?_
      exact sv_zret (pc := 253) dX4_segmentsHold_253 rfl rfl h hP
  · have h := sx_neg c1 h
    refine sx_aload_n (pc := 143) dX4_segmentsHold_143 sx_m0 ?_
    refine sv_getO (pc := 144) hG dX4_segmentsHold_144 f_4_9 lay_29 rfl cr_29_0 ?_
    refine sx_iload_n (pc := 147) dX4_segmentsHold_147 sx_m1 ?_
    refine sx_bipush (pc := 148) (v := 14) dX4_segmentsHold_148 (by decide) ?_
    refine sx_iadd (pc := 150) dX4_segmentsHold_150 ?_
    refine sx_iconst (pc := 151) (v := 2) dX4_segmentsHold_151 (by decide) ?_
    refine sx_iload (pc := 152) dX4_segmentsHold_152 sx_m4 ?_
    refine sx_imul (pc := 154) dX4_segmentsHold_154 ?_
    refine sx_iadd (pc := 155) dX4_segmentsHold_155 ?_
    obtain ⟨⟨x5, V3⟩, g4, h⟩ := sx_bnd h
    refine sv_cV (pc := 156) (y := qX2_u2) (o := (some (.int x5))) (as := [.int ((l3 + (14 : Int32)) + ((2 : Int32) * l7))]) (V1 := V3) hG dX4_segmentsHold_156 l_X4_64 y0X2_u2 yvX2_u2 rfl (Nat.le_of_ble_eq_true rfl) lay_2 kr_2 (by decide) (Nat.le_of_ble_eq_true rfl) rfl rfl rfl (t_X2_u2 hG ⟨rfl, rfl⟩ g4) ?_
    refine sx_istore (pc := 159) (lo' := [(8, .int x5), (0, .ref 29), (3, .int l3), (5, .int l5), (6, .int l6), (7, .int l7)]) dX4_segmentsHold_159 (by decide) rfl ?_
    refine sx_aload_n (pc := 161) dX4_segmentsHold_161 sx_m1 ?_
    refine sv_getO (pc := 162) hG dX4_segmentsHold_162 f_4_9 lay_29 rfl cr_29_0 ?_
    refine sx_iload_n (pc := 165) dX4_segmentsHold_165 sx_m2 ?_
    refine sx_bipush (pc := 166) (v := 16) dX4_segmentsHold_166 (by decide) ?_
    refine sx_iadd (pc := 168) dX4_segmentsHold_168 ?_
    refine sx_iconst (pc := 169) (v := 2) dX4_segmentsHold_169 (by decide) ?_
    refine sx_iload (pc := 170) dX4_segmentsHold_170 sx_m3 ?_
    refine sx_imul (pc := 172) dX4_segmentsHold_172 ?_
    refine sx_iadd (pc := 173) dX4_segmentsHold_173 ?_
    refine sx_iconst (pc := 174) (v := 2) dX4_segmentsHold_174 (by decide) ?_
    refine sx_iload (pc := 175) dX4_segmentsHold_175 sx_m5 ?_
    refine sx_imul (pc := 177) dX4_segmentsHold_177 ?_
    refine sx_iadd (pc := 178) dX4_segmentsHold_178 ?_
    obtain ⟨⟨x8, V6⟩, g7, h⟩ := sx_bnd h
    refine sv_cV (pc := 179) (y := qX2_u2) (o := (some (.int x8))) (as := [.int (((l3 + (16 : Int32)) + ((2 : Int32) * l5)) + ((2 : Int32) * l7))]) (V1 := V6) hG dX4_segmentsHold_179 l_X4_64 y0X2_u2 yvX2_u2 rfl (Nat.le_of_ble_eq_true rfl) lay_2 kr_2 (by decide) (Nat.le_of_ble_eq_true rfl) rfl rfl rfl (t_X2_u2 hG ⟨rfl, rfl⟩ g7) ?_
    refine sx_istore (pc := 182) (lo' := [(9, .int x8), (8, .int x5), (0, .ref 29), (3, .int l3), (5, .int l5), (6, .int l6), (7, .int l7)]) dX4_segmentsHold_182 (by decide) rfl ?_
    refine sx_aload_n (pc := 184) dX4_segmentsHold_184 sx_m2 ?_
    refine sv_getO (pc := 185) hG dX4_segmentsHold_185 f_4_9 lay_29 rfl cr_29_0 ?_
    refine sx_iload_n (pc := 188) dX4_segmentsHold_188 sx_m3 ?_
    refine sx_bipush (pc := 189) (v := 16) dX4_segmentsHold_189 (by decide) ?_
    refine sx_iadd (pc := 191) dX4_segmentsHold_191 ?_
    refine sx_bipush (pc := 192) (v := 6) dX4_segmentsHold_192 (by decide) ?_
    refine sx_iload (pc := 194) dX4_segmentsHold_194 sx_m4 ?_
    refine sx_imul (pc := 196) dX4_segmentsHold_196 ?_
    refine sx_iadd (pc := 197) dX4_segmentsHold_197 ?_
    refine sx_iconst (pc := 198) (v := 2) dX4_segmentsHold_198 (by decide) ?_
    refine sx_iload (pc := 199) dX4_segmentsHold_199 sx_m6 ?_
    refine sx_imul (pc := 201) dX4_segmentsHold_201 ?_
    refine sx_iadd (pc := 202) dX4_segmentsHold_202 ?_
    obtain ⟨⟨x11, V9⟩, g10, h⟩ := sx_bnd h
    refine sv_cV (pc := 203) (y := qX2_u2) (o := (some (.int x11))) (as := [.int (((l3 + (16 : Int32)) + ((6 : Int32) * l5)) + ((2 : Int32) * l7))]) (V1 := V9) hG dX4_segmentsHold_203 l_X4_64 y0X2_u2 yvX2_u2 rfl (Nat.le_of_ble_eq_true rfl) lay_2 kr_2 (by decide) (Nat.le_of_ble_eq_true rfl) rfl rfl rfl (t_X2_u2 hG ⟨rfl, rfl⟩ g10) ?_
    refine sx_istore (pc := 206) (lo' := [(10, .int x11), (9, .int x8), (8, .int x5), (0, .ref 29), (3, .int l3), (5, .int l5), (6, .int l6), (7, .int l7)]) dX4_segmentsHold_206 (by decide) rfl ?_
    refine sx_iload (pc := 208) dX4_segmentsHold_208 sx_m2 ?_
    refine sx_iload (pc := 210) dX4_segmentsHold_210 sx_m6 ?_
    refine sx_icmp_le (pc := 212) (tgt := 229) dX4_segmentsHold_212 (by decide) (fun c12 => ?_) (fun c12 => ?_)
    · have h := sx_pos c12 h
      refine sx_iconst (pc := 229) (v := 0) dX4_segmentsHold_229 (by decide) ?_
      exact sv_zret (pc := 230) dX4_segmentsHold_230 rfl rfl h hP
    · have h := sx_neg c12 h
      refine sx_iload (pc := 215) dX4_segmentsHold_215 sx_m1 ?_
      refine sx_iload (pc := 217) dX4_segmentsHold_217 sx_m2 ?_
      refine sx_icmp_gt (pc := 219) (tgt := 229) dX4_segmentsHold_219 (by decide) (fun c13 => ?_) (fun c13 => ?_)
      · have h := sx_pos c13 h
        refine sx_iconst (pc := 229) (v := 0) dX4_segmentsHold_229 (by decide) ?_
        exact sv_zret (pc := 230) dX4_segmentsHold_230 rfl rfl h hP
      · have h := sx_neg c13 h
        refine sx_iload (pc := 222) dX4_segmentsHold_222 sx_m0 ?_
        refine sx_iconst (pc := 224) (v := 2) dX4_segmentsHold_224 (by decide) ?_
        refine sx_irem (pc := 225) dX4_segmentsHold_225 (by decide) ?_
        refine sx_if_eq (pc := 226) (tgt := 231) dX4_segmentsHold_226 (by decide) (fun c14 => ?_) (fun c14 => ?_)
        · have h := sx_pos c14 h
          refine sx_iload (pc := 231) dX4_segmentsHold_231 sx_m2 ?_
          refine sx_istore (pc := 233) (lo' := [(6, .int x5), (10, .int x11), (9, .int x8), (8, .int x5), (0, .ref 29), (3, .int l3), (5, .int l5), (7, .int l7)]) dX4_segmentsHold_233 (by decide) rfl ?_
          obtain ⟨x15, hx15⟩ : ∃ z : Int32, z = l7 + 1 := ⟨_, rfl⟩
          have h := sx_letE hx15 h
          refine sx_iinc (pc := 235) (v := x15) (lo' := [(7, .int x15), (6, .int x5), (10, .int x11), (9, .int x8), (8, .int x5), (0, .ref 29), (3, .int l3), (5, .int l5)]) dX4_segmentsHold_235 sx_m7 (by rw [hx15]; rfl) (by decide) rfl ?_
          refine sx_goto (pc := 238) (tgt := 136) dX4_segmentsHold_238 (by decide) ?_
          refine sx_wk (sx_s1 sx_m5 (sx_s1 sx_m6 (sx_s1 sx_m7 (sx_s1 sx_m1 (sx_s1 sx_m0 sx_s0))))) ?_
          exact hk136 _ _ _ _ _ h
        · have h := sx_neg c14 h
          refine sx_iconst (pc := 229) (v := 0) dX4_segmentsHold_229 (by decide) ?_
          exact sv_zret (pc := 230) dX4_segmentsHold_230 rfl rfl h hP
theorem tL_X4_segmentsHold_136 {g : sx_G} (hG : sx_Go g) {P : Option Value → sv_V → Prop} {r : Int32} {Vr : sv_V} (hP : P (some (.int r)) Vr) {N : Nat}   : ∀ (n : Nat) (l3 : Int32) (l5 : Int32) (l6 : Int32) (l7 : Int32) (V : sv_V), sx_lp5 (B_X4_segmentsHold_136 N ) n l3 l5 l6 l7 V = some (r, Vr) → sv_N g qX4_segmentsHold 2 136 [(0, .ref 29), (3, .int l3), (5, .int l5), (6, .int l6), (7, .int l7)] [] V P :=
  sx_lp5_ind (fun k0 ih _ _ _ _ V h => tB_X4_segmentsHold_136 hG hP ih h)
def F_X4_segmentsHold (N : Nat) (l1 : Int64) (V : sv_V) : Option (Int32 × sv_V) := (F_X4_noteMap l1 (14 : Int32) (4 : Int32) V).bind (fun (x18, V16) => if x18 = 0 then (some ((0 : Int32), V16)) else (sx_let (V16.1 2 12) (fun x20 => (F_X2_u2 (x20 + (6 : Int32)) V16).bind (fun (x23, V21) => sx_let (x23 / (2 : Int32)) (fun x24 => (F_X2_u2 (x20 + (2 : Int32)) V21).bind (fun (x27, V25) => sx_let (sv_I V25 2 13 x27) (fun V28 => sx_let (sv_I V28 2 14 x24) (fun V29 => if 0 < (lg_cmp (l1 + ((V29.1 2 13).toInt64)) ((V29.1 5 (0 : Int32).toNatClampNeg).toInt64)) then (some ((0 : Int32), V29)) else (if (x23 - x23 / (2 : Int32) * (2 : Int32)) = 0 then (if x24 < (1 : Int32) then (some ((0 : Int32), V29)) else (if (40 : Int32) < x24 then (some ((0 : Int32), V29)) else (if ((16 : Int32) + ((8 : Int32) * x24)) ≤ (V29.1 2 13) then (sx_lp5 (B_X4_segmentsHold_136 N ) N x20 x24 (-1 : Int32) (0 : Int32) V29) else (some ((0 : Int32), V29))))) else (some ((0 : Int32), V29)))))))))))
set_option maxRecDepth 20000 in
theorem t_X4_segmentsHold {g : sx_G} (hG : sx_Go g) {P : Option Value → sv_V → Prop} {r : Int32} {Vr : sv_V} (hP : P (some (.int r)) Vr) {N : Nat} {l1 : Int64} {V : sv_V} (h : F_X4_segmentsHold N l1 V = some (r, Vr)) : sv_N g qX4_segmentsHold 2 0 [(0, .ref 29), (1, .long l1)] [] V P := by
  unfold F_X4_segmentsHold at h
  refine sx_aload_n (pc := 0) dX4_segmentsHold_0 sx_m0 ?_
  refine sx_lload_n (pc := 1) dX4_segmentsHold_1 sx_m1 ?_
  refine sx_bipush (pc := 2) (v := 14) dX4_segmentsHold_2 (by decide) ?_
  refine sx_iconst (pc := 4) (v := 4) dX4_segmentsHold_4 (by decide) ?_
  obtain ⟨⟨x18, V16⟩, g17, h⟩ := sx_bnd h
  refine sv_cV (pc := 5) (y := qX4_noteMap) (o := (some (.int x18))) (as := [.long l1, .int (14 : Int32), .int (4 : Int32)]) (V1 := V16) hG dX4_segmentsHold_5 l_X4_193 y0X4_noteMap yvX4_noteMap rfl (Nat.le_of_ble_eq_true rfl) lay_29 kr_4 (by decide) (Nat.le_of_ble_eq_true rfl) rfl rfl rfl (t_X4_noteMap hG ⟨rfl, rfl⟩ g17) ?_
  refine sx_if_ne (pc := 8) (tgt := 13) dX4_segmentsHold_8 (by decide) (fun c19 => ?_) (fun c19 => ?_)
  · have h := sx_neg c19 h
    refine sx_aload_n (pc := 13) dX4_segmentsHold_13 sx_m0 ?_
    refine sv_getO (pc := 14) hG dX4_segmentsHold_14 f_4_9 lay_29 rfl cr_29_0 ?_
    refine sv_getI (pc := 17) hG dX4_segmentsHold_17 f_4_181 lay_2 rfl ?_
    refine sv_tI (fun x20 hx20 => ?_)
    have h := sx_letE hx20 h
    refine sx_istore_n (pc := 20) (lo' := [(3, .int x20), (0, .ref 29), (1, .long l1)]) dX4_segmentsHold_20 (by decide) rfl ?_
    refine sx_aload_n (pc := 21) dX4_segmentsHold_21 sx_m1 ?_
    refine sv_getO (pc := 22) hG dX4_segmentsHold_22 f_4_9 lay_29 rfl cr_29_0 ?_
    refine sx_iload_n (pc := 25) dX4_segmentsHold_25 sx_m0 ?_
    refine sx_bipush (pc := 26) (v := 6) dX4_segmentsHold_26 (by decide) ?_
    refine sx_iadd (pc := 28) dX4_segmentsHold_28 ?_
    obtain ⟨⟨x23, V21⟩, g22, h⟩ := sx_bnd h
    refine sv_cV (pc := 29) (y := qX2_u2) (o := (some (.int x23))) (as := [.int (x20 + (6 : Int32))]) (V1 := V21) hG dX4_segmentsHold_29 l_X4_64 y0X2_u2 yvX2_u2 rfl (Nat.le_of_ble_eq_true rfl) lay_2 kr_2 (by decide) (Nat.le_of_ble_eq_true rfl) rfl rfl rfl (t_X2_u2 hG ⟨rfl, rfl⟩ g22) ?_
    refine sx_istore (pc := 32) (lo' := [(4, .int x23), (3, .int x20), (0, .ref 29), (1, .long l1)]) dX4_segmentsHold_32 (by decide) rfl ?_
    refine sx_iload (pc := 34) dX4_segmentsHold_34 sx_m0 ?_
    refine sx_iconst (pc := 36) (v := 2) dX4_segmentsHold_36 (by decide) ?_
    refine sx_idiv (pc := 37) dX4_segmentsHold_37 (by decide) ?_
    refine sv_tI (fun x24 hx24 => ?_)
    have h := sx_letE hx24 h
    refine sx_istore (pc := 38) (lo' := [(5, .int x24), (4, .int x23), (3, .int x20), (0, .ref 29), (1, .long l1)]) dX4_segmentsHold_38 (by decide) rfl ?_
    refine sx_aload_n (pc := 40) dX4_segmentsHold_40 sx_m3 ?_
    refine sv_getO (pc := 41) hG dX4_segmentsHold_41 f_4_9 lay_29 rfl cr_29_0 ?_
    refine sx_aload_n (pc := 44) dX4_segmentsHold_44 sx_m3 ?_
    refine sv_getO (pc := 45) hG dX4_segmentsHold_45 f_4_9 lay_29 rfl cr_29_0 ?_
    refine sx_iload_n (pc := 48) dX4_segmentsHold_48 sx_m2 ?_
    refine sx_iconst (pc := 49) (v := 2) dX4_segmentsHold_49 (by decide) ?_
    refine sx_iadd (pc := 50) dX4_segmentsHold_50 ?_
    obtain ⟨⟨x27, V25⟩, g26, h⟩ := sx_bnd h
    refine sv_cV (pc := 51) (y := qX2_u2) (o := (some (.int x27))) (as := [.int (x20 + (2 : Int32))]) (V1 := V25) hG dX4_segmentsHold_51 l_X4_64 y0X2_u2 yvX2_u2 rfl (Nat.le_of_ble_eq_true rfl) lay_2 kr_2 (by decide) (Nat.le_of_ble_eq_true rfl) rfl rfl rfl (t_X2_u2 hG ⟨rfl, rfl⟩ g26) ?_
    obtain ⟨V28, hV28⟩ : ∃ z : sv_V, z = sv_I V25 2 13 x27 := ⟨_, rfl⟩
    have h := sx_letE hV28 h
    refine sv_putI (pc := 54) hG dX4_segmentsHold_54 f_4_187 lay_2 rfl hV28 ?_
    refine sx_aload_n (pc := 57) dX4_segmentsHold_57 sx_m3 ?_
    refine sv_getO (pc := 58) hG dX4_segmentsHold_58 f_4_9 lay_29 rfl cr_29_0 ?_
    refine sx_iload (pc := 61) dX4_segmentsHold_61 sx_m0 ?_
    obtain ⟨V29, hV29⟩ : ∃ z : sv_V, z = sv_I V28 2 14 x24 := ⟨_, rfl⟩
    have h := sx_letE hV29 h
    refine sv_putI (pc := 63) hG dX4_segmentsHold_63 f_4_190 lay_2 rfl hV29 ?_
    refine sx_lload_n (pc := 66) dX4_segmentsHold_66 sx_m4 ?_
    refine sx_aload_n (pc := 67) dX4_segmentsHold_67 sx_m3 ?_
    refine sv_getO (pc := 68) hG dX4_segmentsHold_68 f_4_9 lay_29 rfl cr_29_0 ?_
    refine sv_getI (pc := 71) hG dX4_segmentsHold_71 f_4_187 lay_2 rfl ?_
    refine sx_i2l (pc := 74) dX4_segmentsHold_74 ?_
    refine sx_ladd (pc := 75) dX4_segmentsHold_75 ?_
    refine sx_aload_n (pc := 76) dX4_segmentsHold_76 sx_m3 ?_
    refine sv_getO (pc := 77) hG dX4_segmentsHold_77 f_4_9 lay_29 rfl cr_29_0 ?_
    refine sv_getA (pc := 80) hG dX4_segmentsHold_80 f_4_118 lay_2 rfl cr_2_4 ?_
    refine sx_iconst (pc := 83) (v := 0) dX4_segmentsHold_83 (by decide) ?_
    refine sv_iald (pc := 84) hG dX4_segmentsHold_84 lay_5 (by decide) ?_
    refine sx_i2l (pc := 85) dX4_segmentsHold_85 ?_
    refine sx_lcmp (pc := 86) dX4_segmentsHold_86 ?_
    refine sx_if_gt (pc := 87) (tgt := 128) dX4_segmentsHold_87 (by decide) (fun c30 => ?_) (fun c30 => ?_)
    · have h := sx_pos c30 h
      refine sx_iconst (pc := 128) (v := 0) dX4_segmentsHold_128 (by decide) ?_
      exact sv_zret (pc := 129) dX4_segmentsHold_129 rfl rfl h hP
    · have h := sx_neg c30 h
      refine sx_iload (pc := 90) dX4_segmentsHold_90 sx_m1 ?_
      refine sx_iconst (pc := 92) (v := 2) dX4_segmentsHold_92 (by decide) ?_
      refine sx_irem (pc := 93) dX4_segmentsHold_93 (by decide) ?_
      refine sx_if_ne (pc := 94) (tgt := 128) dX4_segmentsHold_94 (by decide) (fun c31 => ?_) (fun c31 => ?_)
      · have h := sx_neg c31 h
        refine sx_iconst (pc := 128) (v := 0) dX4_segmentsHold_128 (by decide) ?_
        exact sv_zret (pc := 129) dX4_segmentsHold_129 rfl rfl h hP
      · have h := sx_pos c31 h
        refine sx_iload (pc := 97) dX4_segmentsHold_97 sx_m0 ?_
        refine sx_iconst (pc := 99) (v := 1) dX4_segmentsHold_99 (by decide) ?_
        refine sx_icmp_lt (pc := 100) (tgt := 128) dX4_segmentsHold_100 (by decide) (fun c32 => ?_) (fun c32 => ?_)
        · have h := sx_pos c32 h
          refine sx_iconst (pc := 128) (v := 0) dX4_segmentsHold_128 (by decide) ?_
          exact sv_zret (pc := 129) dX4_segmentsHold_129 rfl rfl h hP
        · have h := sx_neg c32 h
          refine sx_iload (pc := 103) dX4_segmentsHold_103 sx_m0 ?_
          refine sx_bipush (pc := 105) (v := 40) dX4_segmentsHold_105 (by decide) ?_
          refine sx_icmp_gt (pc := 107) (tgt := 128) dX4_segmentsHold_107 (by decide) (fun c33 => ?_) (fun c33 => ?_)
          · have h := sx_pos c33 h
            refine sx_iconst (pc := 128) (v := 0) dX4_segmentsHold_128 (by decide) ?_
            exact sv_zret (pc := 129) dX4_segmentsHold_129 rfl rfl h hP
          · have h := sx_neg c33 h
            refine sx_bipush (pc := 110) (v := 16) dX4_segmentsHold_110 (by decide) ?_
            refine sx_bipush (pc := 112) (v := 8) dX4_segmentsHold_112 (by decide) ?_
            refine sx_iload (pc := 114) dX4_segmentsHold_114 sx_m0 ?_
            refine sx_imul (pc := 116) dX4_segmentsHold_116 ?_
            refine sx_iadd (pc := 117) dX4_segmentsHold_117 ?_
            refine sx_aload_n (pc := 118) dX4_segmentsHold_118 sx_m3 ?_
            refine sv_getO (pc := 119) hG dX4_segmentsHold_119 f_4_9 lay_29 rfl cr_29_0 ?_
            refine sv_getI (pc := 122) hG dX4_segmentsHold_122 f_4_187 lay_2 rfl ?_
            refine sx_icmp_le (pc := 125) (tgt := 130) dX4_segmentsHold_125 (by decide) (fun c34 => ?_) (fun c34 => ?_)
            · have h := sx_pos c34 h
              refine sx_iconst (pc := 130) (v := (-1)) dX4_segmentsHold_130 (by decide) ?_
              refine sx_istore (pc := 131) (lo' := [(6, .int (-1 : Int32)), (5, .int x24), (4, .int x23), (3, .int x20), (0, .ref 29), (1, .long l1)]) dX4_segmentsHold_131 (by decide) rfl ?_
              refine sx_iconst (pc := 133) (v := 0) dX4_segmentsHold_133 (by decide) ?_
              refine sx_istore (pc := 134) (lo' := [(7, .int (0 : Int32)), (6, .int (-1 : Int32)), (5, .int x24), (4, .int x23), (3, .int x20), (0, .ref 29), (1, .long l1)]) dX4_segmentsHold_134 (by decide) rfl ?_
              refine sx_wk (sx_s1 sx_m5 (sx_s1 sx_m4 (sx_s1 sx_m2 (sx_s1 sx_m1 (sx_s1 sx_m0 sx_s0))))) ?_
              exact tL_X4_segmentsHold_136 hG hP  N _ _ _ _ _ h
            · have h := sx_neg c34 h
              refine sx_iconst (pc := 128) (v := 0) dX4_segmentsHold_128 (by decide) ?_
              exact sv_zret (pc := 129) dX4_segmentsHold_129 rfl rfl h hP
  · have h := sx_pos c19 h
    refine sx_iconst (pc := 11) (v := 0) dX4_segmentsHold_11 (by decide) ?_
    exact sv_zret (pc := 12) dX4_segmentsHold_12 rfl rfl h hP
theorem dX4_groupsHold_0 : decode cX4_groupsHold 0 = .ok (.aload_n 0, 1) := by decide +kernel
theorem dX4_groupsHold_1 : decode cX4_groupsHold 1 = .ok (.lload_n 1, 1) := by decide +kernel
theorem dX4_groupsHold_2 : decode cX4_groupsHold 2 = .ok (.bipush 16, 2) := by decide +kernel
theorem dX4_groupsHold_4 : decode cX4_groupsHold 4 = .ok (.bipush 12, 2) := by decide +kernel
theorem dX4_groupsHold_6 : decode cX4_groupsHold 6 = .ok (.invokevirtual 193, 3) := by decide +kernel
theorem dX4_groupsHold_9 : decode cX4_groupsHold 9 = .ok (.ifCond .ne 5, 3) := by decide +kernel
theorem dX4_groupsHold_12 : decode cX4_groupsHold 12 = .ok (.iconst 0, 1) := by decide +kernel
theorem dX4_groupsHold_13 : decode cX4_groupsHold 13 = .ok (.ireturn, 1) := by decide +kernel
theorem dX4_groupsHold_14 : decode cX4_groupsHold 14 = .ok (.aload_n 0, 1) := by decide +kernel
theorem dX4_groupsHold_15 : decode cX4_groupsHold 15 = .ok (.getfield 9, 3) := by decide +kernel
theorem dX4_groupsHold_18 : decode cX4_groupsHold 18 = .ok (.getfield 181, 3) := by decide +kernel
theorem dX4_groupsHold_21 : decode cX4_groupsHold 21 = .ok (.istore_n 3, 1) := by decide +kernel
theorem dX4_groupsHold_22 : decode cX4_groupsHold 22 = .ok (.aload_n 0, 1) := by decide +kernel
theorem dX4_groupsHold_23 : decode cX4_groupsHold 23 = .ok (.getfield 9, 3) := by decide +kernel
theorem dX4_groupsHold_26 : decode cX4_groupsHold 26 = .ok (.iload_n 3, 1) := by decide +kernel
theorem dX4_groupsHold_27 : decode cX4_groupsHold 27 = .ok (.iconst 4, 1) := by decide +kernel
theorem dX4_groupsHold_28 : decode cX4_groupsHold 28 = .ok (.iadd, 1) := by decide +kernel
theorem dX4_groupsHold_29 : decode cX4_groupsHold 29 = .ok (.invokevirtual 74, 3) := by decide +kernel
theorem dX4_groupsHold_32 : decode cX4_groupsHold 32 = .ok (.lstore 4, 2) := by decide +kernel
theorem dX4_groupsHold_34 : decode cX4_groupsHold 34 = .ok (.aload_n 0, 1) := by decide +kernel
theorem dX4_groupsHold_35 : decode cX4_groupsHold 35 = .ok (.getfield 9, 3) := by decide +kernel
theorem dX4_groupsHold_38 : decode cX4_groupsHold 38 = .ok (.iload_n 3, 1) := by decide +kernel
theorem dX4_groupsHold_39 : decode cX4_groupsHold 39 = .ok (.bipush 12, 2) := by decide +kernel
theorem dX4_groupsHold_41 : decode cX4_groupsHold 41 = .ok (.iadd, 1) := by decide +kernel
theorem dX4_groupsHold_42 : decode cX4_groupsHold 42 = .ok (.invokevirtual 74, 3) := by decide +kernel
theorem dX4_groupsHold_45 : decode cX4_groupsHold 45 = .ok (.lstore 6, 2) := by decide +kernel
theorem dX4_groupsHold_47 : decode cX4_groupsHold 47 = .ok (.lload_n 1, 1) := by decide +kernel
theorem dX4_groupsHold_48 : decode cX4_groupsHold 48 = .ok (.lload 4, 2) := by decide +kernel
theorem dX4_groupsHold_50 : decode cX4_groupsHold 50 = .ok (.ladd, 1) := by decide +kernel
theorem dX4_groupsHold_51 : decode cX4_groupsHold 51 = .ok (.aload_n 0, 1) := by decide +kernel
theorem dX4_groupsHold_52 : decode cX4_groupsHold 52 = .ok (.getfield 9, 3) := by decide +kernel
theorem dX4_groupsHold_55 : decode cX4_groupsHold 55 = .ok (.getfield 118, 3) := by decide +kernel
theorem dX4_groupsHold_58 : decode cX4_groupsHold 58 = .ok (.iconst 0, 1) := by decide +kernel
theorem dX4_groupsHold_59 : decode cX4_groupsHold 59 = .ok (.iaload, 1) := by decide +kernel
theorem dX4_groupsHold_60 : decode cX4_groupsHold 60 = .ok (.i2l, 1) := by decide +kernel
theorem dX4_groupsHold_61 : decode cX4_groupsHold 61 = .ok (.lcmp, 1) := by decide +kernel
theorem dX4_groupsHold_62 : decode cX4_groupsHold 62 = .ok (.ifCond .gt 35, 3) := by decide +kernel
theorem dX4_groupsHold_65 : decode cX4_groupsHold 65 = .ok (.lload 6, 2) := by decide +kernel
theorem dX4_groupsHold_67 : decode cX4_groupsHold 67 = .ok (.lconst 1, 1) := by decide +kernel
theorem dX4_groupsHold_68 : decode cX4_groupsHold 68 = .ok (.lcmp, 1) := by decide +kernel
theorem dX4_groupsHold_69 : decode cX4_groupsHold 69 = .ok (.ifCond .lt 28, 3) := by decide +kernel
theorem dX4_groupsHold_72 : decode cX4_groupsHold 72 = .ok (.lload 6, 2) := by decide +kernel
theorem dX4_groupsHold_74 : decode cX4_groupsHold 74 = .ok (.ldc2_w 198, 3) := by decide +kernel
theorem dX4_groupsHold_77 : decode cX4_groupsHold 77 = .ok (.lcmp, 1) := by decide +kernel
theorem dX4_groupsHold_78 : decode cX4_groupsHold 78 = .ok (.ifCond .gt 19, 3) := by decide +kernel
theorem dX4_groupsHold_81 : decode cX4_groupsHold 81 = .ok (.ldc2_w 200, 3) := by decide +kernel
theorem dX4_groupsHold_84 : decode cX4_groupsHold 84 = .ok (.ldc2_w 202, 3) := by decide +kernel
theorem dX4_groupsHold_87 : decode cX4_groupsHold 87 = .ok (.lload 6, 2) := by decide +kernel
theorem dX4_groupsHold_89 : decode cX4_groupsHold 89 = .ok (.lmul, 1) := by decide +kernel
theorem dX4_groupsHold_90 : decode cX4_groupsHold 90 = .ok (.ladd, 1) := by decide +kernel
theorem dX4_groupsHold_91 : decode cX4_groupsHold 91 = .ok (.lload 4, 2) := by decide +kernel
theorem dX4_groupsHold_93 : decode cX4_groupsHold 93 = .ok (.lcmp, 1) := by decide +kernel
theorem dX4_groupsHold_94 : decode cX4_groupsHold 94 = .ok (.ifCond .le 5, 3) := by decide +kernel
theorem dX4_groupsHold_97 : decode cX4_groupsHold 97 = .ok (.iconst 0, 1) := by decide +kernel
theorem dX4_groupsHold_98 : decode cX4_groupsHold 98 = .ok (.ireturn, 1) := by decide +kernel
theorem dX4_groupsHold_99 : decode cX4_groupsHold 99 = .ok (.aload_n 0, 1) := by decide +kernel
theorem dX4_groupsHold_100 : decode cX4_groupsHold 100 = .ok (.getfield 9, 3) := by decide +kernel
theorem dX4_groupsHold_103 : decode cX4_groupsHold 103 = .ok (.lload 4, 2) := by decide +kernel
theorem dX4_groupsHold_105 : decode cX4_groupsHold 105 = .ok (.l2i, 1) := by decide +kernel
theorem dX4_groupsHold_106 : decode cX4_groupsHold 106 = .ok (.putfield 187, 3) := by decide +kernel
theorem dX4_groupsHold_109 : decode cX4_groupsHold 109 = .ok (.aload_n 0, 1) := by decide +kernel
theorem dX4_groupsHold_110 : decode cX4_groupsHold 110 = .ok (.getfield 9, 3) := by decide +kernel
theorem dX4_groupsHold_113 : decode cX4_groupsHold 113 = .ok (.lload 6, 2) := by decide +kernel
theorem dX4_groupsHold_115 : decode cX4_groupsHold 115 = .ok (.l2i, 1) := by decide +kernel
theorem dX4_groupsHold_116 : decode cX4_groupsHold 116 = .ok (.putfield 190, 3) := by decide +kernel
theorem dX4_groupsHold_119 : decode cX4_groupsHold 119 = .ok (.ldc2_w 169, 3) := by decide +kernel
theorem dX4_groupsHold_122 : decode cX4_groupsHold 122 = .ok (.lstore 8, 2) := by decide +kernel
theorem dX4_groupsHold_124 : decode cX4_groupsHold 124 = .ok (.iconst 0, 1) := by decide +kernel
theorem dX4_groupsHold_125 : decode cX4_groupsHold 125 = .ok (.istore 10, 2) := by decide +kernel
theorem dX4_groupsHold_127 : decode cX4_groupsHold 127 = .ok (.iload 10, 2) := by decide +kernel
theorem dX4_groupsHold_129 : decode cX4_groupsHold 129 = .ok (.i2l, 1) := by decide +kernel
theorem dX4_groupsHold_130 : decode cX4_groupsHold 130 = .ok (.lload 6, 2) := by decide +kernel
theorem dX4_groupsHold_132 : decode cX4_groupsHold 132 = .ok (.lcmp, 1) := by decide +kernel
theorem dX4_groupsHold_133 : decode cX4_groupsHold 133 = .ok (.ifCond .ge 69, 3) := by decide +kernel
theorem dX4_groupsHold_136 : decode cX4_groupsHold 136 = .ok (.aload_n 0, 1) := by decide +kernel
theorem dX4_groupsHold_137 : decode cX4_groupsHold 137 = .ok (.getfield 9, 3) := by decide +kernel
theorem dX4_groupsHold_140 : decode cX4_groupsHold 140 = .ok (.iload_n 3, 1) := by decide +kernel
theorem dX4_groupsHold_141 : decode cX4_groupsHold 141 = .ok (.bipush 16, 2) := by decide +kernel
theorem dX4_groupsHold_143 : decode cX4_groupsHold 143 = .ok (.iadd, 1) := by decide +kernel
theorem dX4_groupsHold_144 : decode cX4_groupsHold 144 = .ok (.bipush 12, 2) := by decide +kernel
theorem dX4_groupsHold_146 : decode cX4_groupsHold 146 = .ok (.iload 10, 2) := by decide +kernel
theorem dX4_groupsHold_148 : decode cX4_groupsHold 148 = .ok (.imul, 1) := by decide +kernel
theorem dX4_groupsHold_149 : decode cX4_groupsHold 149 = .ok (.iadd, 1) := by decide +kernel
theorem dX4_groupsHold_150 : decode cX4_groupsHold 150 = .ok (.invokevirtual 74, 3) := by decide +kernel
theorem dX4_groupsHold_153 : decode cX4_groupsHold 153 = .ok (.lstore 11, 2) := by decide +kernel
theorem dX4_groupsHold_155 : decode cX4_groupsHold 155 = .ok (.aload_n 0, 1) := by decide +kernel
theorem dX4_groupsHold_156 : decode cX4_groupsHold 156 = .ok (.getfield 9, 3) := by decide +kernel
theorem dX4_groupsHold_159 : decode cX4_groupsHold 159 = .ok (.iload_n 3, 1) := by decide +kernel
theorem dX4_groupsHold_160 : decode cX4_groupsHold 160 = .ok (.bipush 20, 2) := by decide +kernel
theorem dX4_groupsHold_162 : decode cX4_groupsHold 162 = .ok (.iadd, 1) := by decide +kernel
theorem dX4_groupsHold_163 : decode cX4_groupsHold 163 = .ok (.bipush 12, 2) := by decide +kernel
theorem dX4_groupsHold_165 : decode cX4_groupsHold 165 = .ok (.iload 10, 2) := by decide +kernel
theorem dX4_groupsHold_167 : decode cX4_groupsHold 167 = .ok (.imul, 1) := by decide +kernel
theorem dX4_groupsHold_168 : decode cX4_groupsHold 168 = .ok (.iadd, 1) := by decide +kernel
theorem dX4_groupsHold_169 : decode cX4_groupsHold 169 = .ok (.invokevirtual 74, 3) := by decide +kernel
theorem dX4_groupsHold_172 : decode cX4_groupsHold 172 = .ok (.lstore 13, 2) := by decide +kernel
theorem dX4_groupsHold_174 : decode cX4_groupsHold 174 = .ok (.lload 11, 2) := by decide +kernel
theorem dX4_groupsHold_176 : decode cX4_groupsHold 176 = .ok (.lload 8, 2) := by decide +kernel
theorem dX4_groupsHold_178 : decode cX4_groupsHold 178 = .ok (.lcmp, 1) := by decide +kernel
theorem dX4_groupsHold_179 : decode cX4_groupsHold 179 = .ok (.ifCond .le 11, 3) := by decide +kernel
theorem dX4_groupsHold_182 : decode cX4_groupsHold 182 = .ok (.lload 11, 2) := by decide +kernel
theorem dX4_groupsHold_184 : decode cX4_groupsHold 184 = .ok (.lload 13, 2) := by decide +kernel
theorem dX4_groupsHold_186 : decode cX4_groupsHold 186 = .ok (.lcmp, 1) := by decide +kernel
theorem dX4_groupsHold_187 : decode cX4_groupsHold 187 = .ok (.ifCond .le 5, 3) := by decide +kernel
theorem dX4_groupsHold_190 : decode cX4_groupsHold 190 = .ok (.iconst 0, 1) := by decide +kernel
theorem dX4_groupsHold_191 : decode cX4_groupsHold 191 = .ok (.ireturn, 1) := by decide +kernel
theorem dX4_groupsHold_192 : decode cX4_groupsHold 192 = .ok (.lload 13, 2) := by decide +kernel
theorem dX4_groupsHold_194 : decode cX4_groupsHold 194 = .ok (.lstore 8, 2) := by decide +kernel
theorem dX4_groupsHold_196 : decode cX4_groupsHold 196 = .ok (.iinc 10 1, 3) := by decide +kernel
theorem dX4_groupsHold_199 : decode cX4_groupsHold 199 = .ok (.goto (-72), 3) := by decide +kernel
theorem dX4_groupsHold_202 : decode cX4_groupsHold 202 = .ok (.iconst 1, 1) := by decide +kernel
theorem dX4_groupsHold_203 : decode cX4_groupsHold 203 = .ok (.ireturn, 1) := by decide +kernel
def B_X4_groupsHold_127 (N : Nat) (k127 : Int32 → Int64 → Int64 → Int32 → sv_V → Option (Int32 × sv_V)) (l3 : Int32) (l6 : Int64) (l8 : Int64) (l10 : Int32) (V : sv_V) : Option (Int32 × sv_V) := if 0 ≤ (lg_cmp l10.toInt64 l6) then (some ((1 : Int32), V)) else ((F_X2_u4 ((l3 + (16 : Int32)) + ((12 : Int32) * l10)) V).bind (fun (x4, V2) => (F_X2_u4 ((l3 + (20 : Int32)) + ((12 : Int32) * l10)) V2).bind (fun (x7, V5) => if (lg_cmp x4 l8) ≤ 0 then (some ((0 : Int32), V5)) else (if (lg_cmp x4 x7) ≤ 0 then (sx_let (l10 + 1) (fun x10 => k127 l3 l6 x7 x10 V5)) else (some ((0 : Int32), V5))))))
set_option maxRecDepth 20000 in
theorem tB_X4_groupsHold_127 {g : sx_G} (hG : sx_Go g) {P : Option Value → sv_V → Prop} {r : Int32} {Vr : sv_V} (hP : P (some (.int r)) Vr) {N : Nat} {k127 : Int32 → Int64 → Int64 → Int32 → sv_V → Option (Int32 × sv_V)} (hk127 : ∀ (l3 : Int32) (l6 : Int64) (l8 : Int64) (l10 : Int32) (V : sv_V), k127 l3 l6 l8 l10 V = some (r, Vr) → sv_N g qX4_groupsHold 2 127 [(0, .ref 29), (3, .int l3), (6, .long l6), (8, .long l8), (10, .int l10)] [] V P) {l3 : Int32} {l6 : Int64} {l8 : Int64} {l10 : Int32} {V : sv_V} (h : B_X4_groupsHold_127 N k127 l3 l6 l8 l10 V = some (r, Vr)) : sv_N g qX4_groupsHold 2 127 [(0, .ref 29), (3, .int l3), (6, .long l6), (8, .long l8), (10, .int l10)] [] V P := by
  unfold B_X4_groupsHold_127 at h
  refine sx_iload (pc := 127) dX4_groupsHold_127 sx_m4 ?_
  refine sx_i2l (pc := 129) dX4_groupsHold_129 ?_
  refine sx_lload (pc := 130) dX4_groupsHold_130 sx_m2 ?_
  refine sx_lcmp (pc := 132) dX4_groupsHold_132 ?_
  refine sx_if_ge (pc := 133) (tgt := 202) dX4_groupsHold_133 (by decide) (fun c1 => ?_) (fun c1 => ?_)
  · have h := sx_pos c1 h
    refine sx_iconst (pc := 202) (v := 1) dX4_groupsHold_202 (by decide) ?_
    exact sv_zret (pc := 203) dX4_groupsHold_203 rfl rfl h hP
  · have h := sx_neg c1 h
    refine sx_aload_n (pc := 136) dX4_groupsHold_136 sx_m0 ?_
    refine sv_getO (pc := 137) hG dX4_groupsHold_137 f_4_9 lay_29 rfl cr_29_0 ?_
    refine sx_iload_n (pc := 140) dX4_groupsHold_140 sx_m1 ?_
    refine sx_bipush (pc := 141) (v := 16) dX4_groupsHold_141 (by decide) ?_
    refine sx_iadd (pc := 143) dX4_groupsHold_143 ?_
    refine sx_bipush (pc := 144) (v := 12) dX4_groupsHold_144 (by decide) ?_
    refine sx_iload (pc := 146) dX4_groupsHold_146 sx_m4 ?_
    refine sx_imul (pc := 148) dX4_groupsHold_148 ?_
    refine sx_iadd (pc := 149) dX4_groupsHold_149 ?_
    obtain ⟨⟨x4, V2⟩, g3, h⟩ := sx_bnd h
    refine sv_cV (pc := 150) (y := qX2_u4) (o := (some (.long x4))) (as := [.int ((l3 + (16 : Int32)) + ((12 : Int32) * l10))]) (V1 := V2) hG dX4_groupsHold_150 l_X4_74 y0X2_u4 yvX2_u4 rfl (Nat.le_of_ble_eq_true rfl) lay_2 kr_2 (by decide) (Nat.le_of_ble_eq_true rfl) rfl rfl rfl (t_X2_u4 hG ⟨rfl, rfl⟩ g3) ?_
    refine sx_lstore (pc := 153) (lo' := [(11, .long x4), (0, .ref 29), (3, .int l3), (6, .long l6), (8, .long l8), (10, .int l10)]) dX4_groupsHold_153 (by decide) rfl ?_
    refine sx_aload_n (pc := 155) dX4_groupsHold_155 sx_m1 ?_
    refine sv_getO (pc := 156) hG dX4_groupsHold_156 f_4_9 lay_29 rfl cr_29_0 ?_
    refine sx_iload_n (pc := 159) dX4_groupsHold_159 sx_m2 ?_
    refine sx_bipush (pc := 160) (v := 20) dX4_groupsHold_160 (by decide) ?_
    refine sx_iadd (pc := 162) dX4_groupsHold_162 ?_
    refine sx_bipush (pc := 163) (v := 12) dX4_groupsHold_163 (by decide) ?_
    refine sx_iload (pc := 165) dX4_groupsHold_165 sx_m5 ?_
    refine sx_imul (pc := 167) dX4_groupsHold_167 ?_
    refine sx_iadd (pc := 168) dX4_groupsHold_168 ?_
    obtain ⟨⟨x7, V5⟩, g6, h⟩ := sx_bnd h
    refine sv_cV (pc := 169) (y := qX2_u4) (o := (some (.long x7))) (as := [.int ((l3 + (20 : Int32)) + ((12 : Int32) * l10))]) (V1 := V5) hG dX4_groupsHold_169 l_X4_74 y0X2_u4 yvX2_u4 rfl (Nat.le_of_ble_eq_true rfl) lay_2 kr_2 (by decide) (Nat.le_of_ble_eq_true rfl) rfl rfl rfl (t_X2_u4 hG ⟨rfl, rfl⟩ g6) ?_
    refine sx_lstore (pc := 172) (lo' := [(13, .long x7), (11, .long x4), (0, .ref 29), (3, .int l3), (6, .long l6), (8, .long l8), (10, .int l10)]) dX4_groupsHold_172 (by decide) rfl ?_
    refine sx_lload (pc := 174) dX4_groupsHold_174 sx_m1 ?_
    refine sx_lload (pc := 176) dX4_groupsHold_176 sx_m5 ?_
    refine sx_lcmp (pc := 178) dX4_groupsHold_178 ?_
    refine sx_if_le (pc := 179) (tgt := 190) dX4_groupsHold_179 (by decide) (fun c8 => ?_) (fun c8 => ?_)
    · have h := sx_pos c8 h
      refine sx_iconst (pc := 190) (v := 0) dX4_groupsHold_190 (by decide) ?_
      exact sv_zret (pc := 191) dX4_groupsHold_191 rfl rfl h hP
    · have h := sx_neg c8 h
      refine sx_lload (pc := 182) dX4_groupsHold_182 sx_m1 ?_
      refine sx_lload (pc := 184) dX4_groupsHold_184 sx_m0 ?_
      refine sx_lcmp (pc := 186) dX4_groupsHold_186 ?_
      refine sx_if_le (pc := 187) (tgt := 192) dX4_groupsHold_187 (by decide) (fun c9 => ?_) (fun c9 => ?_)
      · have h := sx_pos c9 h
        refine sx_lload (pc := 192) dX4_groupsHold_192 sx_m0 ?_
        refine sx_lstore (pc := 194) (lo' := [(8, .long x7), (13, .long x7), (11, .long x4), (0, .ref 29), (3, .int l3), (6, .long l6), (10, .int l10)]) dX4_groupsHold_194 (by decide) rfl ?_
        obtain ⟨x10, hx10⟩ : ∃ z : Int32, z = l10 + 1 := ⟨_, rfl⟩
        have h := sx_letE hx10 h
        refine sx_iinc (pc := 196) (v := x10) (lo' := [(10, .int x10), (8, .long x7), (13, .long x7), (11, .long x4), (0, .ref 29), (3, .int l3), (6, .long l6)]) dX4_groupsHold_196 sx_m6 (by rw [hx10]; rfl) (by decide) rfl ?_
        refine sx_goto (pc := 199) (tgt := 127) dX4_groupsHold_199 (by decide) ?_
        refine sx_wk (sx_s1 sx_m4 (sx_s1 sx_m5 (sx_s1 sx_m6 (sx_s1 sx_m1 (sx_s1 sx_m0 sx_s0))))) ?_
        exact hk127 _ _ _ _ _ h
      · have h := sx_neg c9 h
        refine sx_iconst (pc := 190) (v := 0) dX4_groupsHold_190 (by decide) ?_
        exact sv_zret (pc := 191) dX4_groupsHold_191 rfl rfl h hP
theorem tL_X4_groupsHold_127 {g : sx_G} (hG : sx_Go g) {P : Option Value → sv_V → Prop} {r : Int32} {Vr : sv_V} (hP : P (some (.int r)) Vr) {N : Nat}   : ∀ (n : Nat) (l3 : Int32) (l6 : Int64) (l8 : Int64) (l10 : Int32) (V : sv_V), sx_lp5 (B_X4_groupsHold_127 N ) n l3 l6 l8 l10 V = some (r, Vr) → sv_N g qX4_groupsHold 2 127 [(0, .ref 29), (3, .int l3), (6, .long l6), (8, .long l8), (10, .int l10)] [] V P :=
  sx_lp5_ind (fun k0 ih _ _ _ _ V h => tB_X4_groupsHold_127 hG hP ih h)
def F_X4_groupsHold (N : Nat) (l1 : Int64) (V : sv_V) : Option (Int32 × sv_V) := (F_X4_noteMap l1 (16 : Int32) (12 : Int32) V).bind (fun (x13, V11) => if x13 = 0 then (some ((0 : Int32), V11)) else (sx_let (V11.1 2 12) (fun x15 => (F_X2_u4 (x15 + (4 : Int32)) V11).bind (fun (x18, V16) => (F_X2_u4 (x15 + (12 : Int32)) V16).bind (fun (x21, V19) => if 0 < (lg_cmp (l1 + x18) ((V19.1 5 (0 : Int32).toNatClampNeg).toInt64)) then (some ((0 : Int32), V19)) else (if (lg_cmp x21 (1 : Int64)) < 0 then (some ((0 : Int32), V19)) else (if 0 < (lg_cmp x21 (40 : Int64)) then (some ((0 : Int32), V19)) else (if (lg_cmp ((16 : Int64) + ((12 : Int64) * x21)) x18) ≤ 0 then (sx_let (sv_I V19 2 13 x18.toInt32) (fun V26 => sx_let (sv_I V26 2 14 x21.toInt32) (fun V27 => sx_lp5 (B_X4_groupsHold_127 N ) N x15 x21 (-1 : Int64) (0 : Int32) V27))) else (some ((0 : Int32), V19))))))))))
set_option maxRecDepth 20000 in
theorem t_X4_groupsHold {g : sx_G} (hG : sx_Go g) {P : Option Value → sv_V → Prop} {r : Int32} {Vr : sv_V} (hP : P (some (.int r)) Vr) {N : Nat} {l1 : Int64} {V : sv_V} (h : F_X4_groupsHold N l1 V = some (r, Vr)) : sv_N g qX4_groupsHold 2 0 [(0, .ref 29), (1, .long l1)] [] V P := by
  unfold F_X4_groupsHold at h
  refine sx_aload_n (pc := 0) dX4_groupsHold_0 sx_m0 ?_
  refine sx_lload_n (pc := 1) dX4_groupsHold_1 sx_m1 ?_
  refine sx_bipush (pc := 2) (v := 16) dX4_groupsHold_2 (by decide) ?_
  refine sx_bipush (pc := 4) (v := 12) dX4_groupsHold_4 (by decide) ?_
  obtain ⟨⟨x13, V11⟩, g12, h⟩ := sx_bnd h
  refine sv_cV (pc := 6) (y := qX4_noteMap) (o := (some (.int x13))) (as := [.long l1, .int (16 : Int32), .int (12 : Int32)]) (V1 := V11) hG dX4_groupsHold_6 l_X4_193 y0X4_noteMap yvX4_noteMap rfl (Nat.le_of_ble_eq_true rfl) lay_29 kr_4 (by decide) (Nat.le_of_ble_eq_true rfl) rfl rfl rfl (t_X4_noteMap hG ⟨rfl, rfl⟩ g12) ?_
  refine sx_if_ne (pc := 9) (tgt := 14) dX4_groupsHold_9 (by decide) (fun c14 => ?_) (fun c14 => ?_)
  · have h := sx_neg c14 h
    refine sx_aload_n (pc := 14) dX4_groupsHold_14 sx_m0 ?_
    refine sv_getO (pc := 15) hG dX4_groupsHold_15 f_4_9 lay_29 rfl cr_29_0 ?_
    refine sv_getI (pc := 18) hG dX4_groupsHold_18 f_4_181 lay_2 rfl ?_
    refine sv_tI (fun x15 hx15 => ?_)
    have h := sx_letE hx15 h
    refine sx_istore_n (pc := 21) (lo' := [(3, .int x15), (0, .ref 29), (1, .long l1)]) dX4_groupsHold_21 (by decide) rfl ?_
    refine sx_aload_n (pc := 22) dX4_groupsHold_22 sx_m1 ?_
    refine sv_getO (pc := 23) hG dX4_groupsHold_23 f_4_9 lay_29 rfl cr_29_0 ?_
    refine sx_iload_n (pc := 26) dX4_groupsHold_26 sx_m0 ?_
    refine sx_iconst (pc := 27) (v := 4) dX4_groupsHold_27 (by decide) ?_
    refine sx_iadd (pc := 28) dX4_groupsHold_28 ?_
    obtain ⟨⟨x18, V16⟩, g17, h⟩ := sx_bnd h
    refine sv_cV (pc := 29) (y := qX2_u4) (o := (some (.long x18))) (as := [.int (x15 + (4 : Int32))]) (V1 := V16) hG dX4_groupsHold_29 l_X4_74 y0X2_u4 yvX2_u4 rfl (Nat.le_of_ble_eq_true rfl) lay_2 kr_2 (by decide) (Nat.le_of_ble_eq_true rfl) rfl rfl rfl (t_X2_u4 hG ⟨rfl, rfl⟩ g17) ?_
    refine sx_lstore (pc := 32) (lo' := [(4, .long x18), (3, .int x15), (0, .ref 29), (1, .long l1)]) dX4_groupsHold_32 (by decide) rfl ?_
    refine sx_aload_n (pc := 34) dX4_groupsHold_34 sx_m2 ?_
    refine sv_getO (pc := 35) hG dX4_groupsHold_35 f_4_9 lay_29 rfl cr_29_0 ?_
    refine sx_iload_n (pc := 38) dX4_groupsHold_38 sx_m1 ?_
    refine sx_bipush (pc := 39) (v := 12) dX4_groupsHold_39 (by decide) ?_
    refine sx_iadd (pc := 41) dX4_groupsHold_41 ?_
    obtain ⟨⟨x21, V19⟩, g20, h⟩ := sx_bnd h
    refine sv_cV (pc := 42) (y := qX2_u4) (o := (some (.long x21))) (as := [.int (x15 + (12 : Int32))]) (V1 := V19) hG dX4_groupsHold_42 l_X4_74 y0X2_u4 yvX2_u4 rfl (Nat.le_of_ble_eq_true rfl) lay_2 kr_2 (by decide) (Nat.le_of_ble_eq_true rfl) rfl rfl rfl (t_X2_u4 hG ⟨rfl, rfl⟩ g20) ?_
    refine sx_lstore (pc := 45) (lo' := [(6, .long x21), (4, .long x18), (3, .int x15), (0, .ref 29), (1, .long l1)]) dX4_groupsHold_45 (by decide) rfl ?_
    refine sx_lload_n (pc := 47) dX4_groupsHold_47 sx_m4 ?_
    refine sx_lload (pc := 48) dX4_groupsHold_48 sx_m1 ?_
    refine sx_ladd (pc := 50) dX4_groupsHold_50 ?_
    refine sx_aload_n (pc := 51) dX4_groupsHold_51 sx_m3 ?_
    refine sv_getO (pc := 52) hG dX4_groupsHold_52 f_4_9 lay_29 rfl cr_29_0 ?_
    refine sv_getA (pc := 55) hG dX4_groupsHold_55 f_4_118 lay_2 rfl cr_2_4 ?_
    refine sx_iconst (pc := 58) (v := 0) dX4_groupsHold_58 (by decide) ?_
    refine sv_iald (pc := 59) hG dX4_groupsHold_59 lay_5 (by decide) ?_
    refine sx_i2l (pc := 60) dX4_groupsHold_60 ?_
    refine sx_lcmp (pc := 61) dX4_groupsHold_61 ?_
    refine sx_if_gt (pc := 62) (tgt := 97) dX4_groupsHold_62 (by decide) (fun c22 => ?_) (fun c22 => ?_)
    · have h := sx_pos c22 h
      refine sx_iconst (pc := 97) (v := 0) dX4_groupsHold_97 (by decide) ?_
      exact sv_zret (pc := 98) dX4_groupsHold_98 rfl rfl h hP
    · have h := sx_neg c22 h
      refine sx_lload (pc := 65) dX4_groupsHold_65 sx_m0 ?_
      refine sx_lconst (pc := 67) (v := 1) dX4_groupsHold_67 rfl ?_
      refine sx_lcmp (pc := 68) dX4_groupsHold_68 ?_
      refine sx_if_lt (pc := 69) (tgt := 97) dX4_groupsHold_69 (by decide) (fun c23 => ?_) (fun c23 => ?_)
      · have h := sx_pos c23 h
        refine sx_iconst (pc := 97) (v := 0) dX4_groupsHold_97 (by decide) ?_
        exact sv_zret (pc := 98) dX4_groupsHold_98 rfl rfl h hP
      · have h := sx_neg c23 h
        refine sx_lload (pc := 72) dX4_groupsHold_72 sx_m0 ?_
        refine sx_ldc2 (pc := 74) dX4_groupsHold_74 k_X4_198 ?_
        refine sx_lcmp (pc := 77) dX4_groupsHold_77 ?_
        refine sx_if_gt (pc := 78) (tgt := 97) dX4_groupsHold_78 (by decide) (fun c24 => ?_) (fun c24 => ?_)
        · have h := sx_pos c24 h
          refine sx_iconst (pc := 97) (v := 0) dX4_groupsHold_97 (by decide) ?_
          exact sv_zret (pc := 98) dX4_groupsHold_98 rfl rfl h hP
        · have h := sx_neg c24 h
          refine sx_ldc2 (pc := 81) dX4_groupsHold_81 k_X4_200 ?_
          refine sx_ldc2 (pc := 84) dX4_groupsHold_84 k_X4_202 ?_
          refine sx_lload (pc := 87) dX4_groupsHold_87 sx_m0 ?_
          refine sx_lmul (pc := 89) dX4_groupsHold_89 ?_
          refine sx_ladd (pc := 90) dX4_groupsHold_90 ?_
          refine sx_lload (pc := 91) dX4_groupsHold_91 sx_m1 ?_
          refine sx_lcmp (pc := 93) dX4_groupsHold_93 ?_
          refine sx_if_le (pc := 94) (tgt := 99) dX4_groupsHold_94 (by decide) (fun c25 => ?_) (fun c25 => ?_)
          · have h := sx_pos c25 h
            refine sx_aload_n (pc := 99) dX4_groupsHold_99 sx_m3 ?_
            refine sv_getO (pc := 100) hG dX4_groupsHold_100 f_4_9 lay_29 rfl cr_29_0 ?_
            refine sx_lload (pc := 103) dX4_groupsHold_103 sx_m1 ?_
            refine sx_l2i (pc := 105) dX4_groupsHold_105 ?_
            obtain ⟨V26, hV26⟩ : ∃ z : sv_V, z = sv_I V19 2 13 x18.toInt32 := ⟨_, rfl⟩
            have h := sx_letE hV26 h
            refine sv_putI (pc := 106) hG dX4_groupsHold_106 f_4_187 lay_2 rfl hV26 ?_
            refine sx_aload_n (pc := 109) dX4_groupsHold_109 sx_m3 ?_
            refine sv_getO (pc := 110) hG dX4_groupsHold_110 f_4_9 lay_29 rfl cr_29_0 ?_
            refine sx_lload (pc := 113) dX4_groupsHold_113 sx_m0 ?_
            refine sx_l2i (pc := 115) dX4_groupsHold_115 ?_
            obtain ⟨V27, hV27⟩ : ∃ z : sv_V, z = sv_I V26 2 14 x21.toInt32 := ⟨_, rfl⟩
            have h := sx_letE hV27 h
            refine sv_putI (pc := 116) hG dX4_groupsHold_116 f_4_190 lay_2 rfl hV27 ?_
            refine sx_ldc2 (pc := 119) dX4_groupsHold_119 k_X4_169 ?_
            refine sx_lstore (pc := 122) (lo' := [(8, .long (-1 : Int64)), (6, .long x21), (4, .long x18), (3, .int x15), (0, .ref 29), (1, .long l1)]) dX4_groupsHold_122 (by decide) rfl ?_
            refine sx_iconst (pc := 124) (v := 0) dX4_groupsHold_124 (by decide) ?_
            refine sx_istore (pc := 125) (lo' := [(10, .int (0 : Int32)), (8, .long (-1 : Int64)), (6, .long x21), (4, .long x18), (3, .int x15), (0, .ref 29), (1, .long l1)]) dX4_groupsHold_125 (by decide) rfl ?_
            refine sx_wk (sx_s1 sx_m5 (sx_s1 sx_m4 (sx_s1 sx_m2 (sx_s1 sx_m1 (sx_s1 sx_m0 sx_s0))))) ?_
            exact tL_X4_groupsHold_127 hG hP  N _ _ _ _ _ h
          · have h := sx_neg c25 h
            refine sx_iconst (pc := 97) (v := 0) dX4_groupsHold_97 (by decide) ?_
            exact sv_zret (pc := 98) dX4_groupsHold_98 rfl rfl h hP
  · have h := sx_pos c14 h
    refine sx_iconst (pc := 12) (v := 0) dX4_groupsHold_12 (by decide) ?_
    exact sv_zret (pc := 13) dX4_groupsHold_13 rfl rfl h hP
