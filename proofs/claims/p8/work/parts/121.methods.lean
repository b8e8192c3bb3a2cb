section
/-! methods: X5_measuredCodes, X6_addPart, X11_load, X11_draw, X12_checkGlyphs, X12_low -/
def ncX5_measuredCodes : Nat := 6976465438200149333852847072377435794694576111854699156851274280267777470453363750738190634520316925361316051820482587
theorem kcX5_measuredCodes : CK cX5_measuredCodes ncX5_measuredCodes 49 := ⟨by decide +kernel, by decide +kernel⟩
theorem dX5_measuredCodes_0 : decode cX5_measuredCodes 0 = .ok (.iload_n 1, 1) := dl_o27 kcX5_measuredCodes (by decide +kernel)
theorem dX5_measuredCodes_1 : decode cX5_measuredCodes 1 = .ok (.bipush 60, 2) := dl_o16 kcX5_measuredCodes 60 (by decide +kernel) (by decide +kernel)
theorem dX5_measuredCodes_3 : decode cX5_measuredCodes 3 = .ok (.if_icmp .ge 11, 3) := dl_o162 kcX5_measuredCodes 11 (by decide +kernel) (by decide +kernel)
theorem dX5_measuredCodes_6 : decode cX5_measuredCodes 6 = .ok (.aload_n 0, 1) := dl_o42 kcX5_measuredCodes (by decide +kernel)
theorem dX5_measuredCodes_7 : decode cX5_measuredCodes 7 = .ok (.iload_n 1, 1) := dl_o27 kcX5_measuredCodes (by decide +kernel)
theorem dX5_measuredCodes_8 : decode cX5_measuredCodes 8 = .ok (.invokevirtual 518, 3) := dl_o182 kcX5_measuredCodes (by decide +kernel)
theorem dX5_measuredCodes_11 : decode cX5_measuredCodes 11 = .ok (.goto 37, 3) := dl_o167 kcX5_measuredCodes 37 (by decide +kernel) (by decide +kernel)
theorem dX5_measuredCodes_14 : decode cX5_measuredCodes 14 = .ok (.iload_n 1, 1) := dl_o27 kcX5_measuredCodes (by decide +kernel)
theorem dX5_measuredCodes_15 : decode cX5_measuredCodes 15 = .ok (.bipush 64, 2) := dl_o16 kcX5_measuredCodes 64 (by decide +kernel) (by decide +kernel)
theorem dX5_measuredCodes_17 : decode cX5_measuredCodes 17 = .ok (.if_icmp .ge 11, 3) := dl_o162 kcX5_measuredCodes 11 (by decide +kernel) (by decide +kernel)
theorem dX5_measuredCodes_20 : decode cX5_measuredCodes 20 = .ok (.aload_n 0, 1) := dl_o42 kcX5_measuredCodes (by decide +kernel)
theorem dX5_measuredCodes_21 : decode cX5_measuredCodes 21 = .ok (.iload_n 1, 1) := dl_o27 kcX5_measuredCodes (by decide +kernel)
theorem dX5_measuredCodes_22 : decode cX5_measuredCodes 22 = .ok (.invokevirtual 521, 3) := dl_o182 kcX5_measuredCodes (by decide +kernel)
theorem dX5_measuredCodes_25 : decode cX5_measuredCodes 25 = .ok (.goto 23, 3) := dl_o167 kcX5_measuredCodes 23 (by decide +kernel) (by decide +kernel)
theorem dX5_measuredCodes_28 : decode cX5_measuredCodes 28 = .ok (.iload_n 1, 1) := dl_o27 kcX5_measuredCodes (by decide +kernel)
theorem dX5_measuredCodes_29 : decode cX5_measuredCodes 29 = .ok (.sipush 224, 3) := dl_o17 kcX5_measuredCodes 224 (by decide +kernel) (by decide +kernel)
theorem dX5_measuredCodes_32 : decode cX5_measuredCodes 32 = .ok (.if_icmp .ge 11, 3) := dl_o162 kcX5_measuredCodes 11 (by decide +kernel) (by decide +kernel)
theorem dX5_measuredCodes_35 : decode cX5_measuredCodes 35 = .ok (.aload_n 0, 1) := dl_o42 kcX5_measuredCodes (by decide +kernel)
theorem dX5_measuredCodes_36 : decode cX5_measuredCodes 36 = .ok (.iload_n 1, 1) := dl_o27 kcX5_measuredCodes (by decide +kernel)
theorem dX5_measuredCodes_37 : decode cX5_measuredCodes 37 = .ok (.invokevirtual 524, 3) := dl_o182 kcX5_measuredCodes (by decide +kernel)
theorem dX5_measuredCodes_40 : decode cX5_measuredCodes 40 = .ok (.goto 8, 3) := dl_o167 kcX5_measuredCodes 8 (by decide +kernel) (by decide +kernel)
theorem dX5_measuredCodes_43 : decode cX5_measuredCodes 43 = .ok (.aload_n 0, 1) := dl_o42 kcX5_measuredCodes (by decide +kernel)
theorem dX5_measuredCodes_44 : decode cX5_measuredCodes 44 = .ok (.iload_n 1, 1) := dl_o27 kcX5_measuredCodes (by decide +kernel)
theorem dX5_measuredCodes_45 : decode cX5_measuredCodes 45 = .ok (.invokevirtual 527, 3) := dl_o182 kcX5_measuredCodes (by decide +kernel)
theorem dX5_measuredCodes_48 : decode cX5_measuredCodes 48 = .ok (.return_, 1) := dl_o177 kcX5_measuredCodes (by decide +kernel)
def F_X5_measuredCodes (l1 : Int32) (V : sv_V) : Option sv_V := if (60 : Int32) ≤ l1 then (if (64 : Int32) ≤ l1 then (if (224 : Int32) ≤ l1 then ((F_X5_moveAsCvt l1 V).bind (fun V4 => some V4)) else ((F_X5_moveAsOriginal l1 V).bind (fun V6 => some V6))) else ((F_X5_moveToCvt l1 V).bind (fun V8 => some V8))) else ((F_X5_moveFromReference l1 V).bind (fun V10 => some V10))
set_option maxRecDepth 20000 in
theorem t_X5_measuredCodes {g : sx_G} (hG : sx_Go g) {P : Option Value → sv_V → Prop} {Vr : sv_V} (hP : P none Vr) {l1 : Int32} {V : sv_V} (h : F_X5_measuredCodes l1 V = some Vr) : sv_N g qX5_measuredCodes 3 0 [(0, .ref 69), (1, .int l1)] [] V P := by
  unfold F_X5_measuredCodes at h
  refine sx_iload_n (pc := 0) dX5_measuredCodes_0 sx_m1 ?_
  refine sx_bipush (pc := 1) (v := 60) dX5_measuredCodes_1 (by decide) ?_
  refine sx_icmp_ge (pc := 3) (tgt := 14) dX5_measuredCodes_3 (by decide) (fun c1 => ?_) (fun c1 => ?_)
  · have h := sx_pos c1 h
    refine sx_iload_n (pc := 14) dX5_measuredCodes_14 sx_m1 ?_
    refine sx_bipush (pc := 15) (v := 64) dX5_measuredCodes_15 (by decide) ?_
    refine sx_icmp_ge (pc := 17) (tgt := 28) dX5_measuredCodes_17 (by decide) (fun c2 => ?_) (fun c2 => ?_)
    · have h := sx_pos c2 h
      refine sx_iload_n (pc := 28) dX5_measuredCodes_28 sx_m1 ?_
      refine sx_sipush (pc := 29) (v := 224) dX5_measuredCodes_29 (by decide) ?_
      refine sx_icmp_ge (pc := 32) (tgt := 43) dX5_measuredCodes_32 (by decide) (fun c3 => ?_) (fun c3 => ?_)
      · have h := sx_pos c3 h
        refine sx_aload_n (pc := 43) dX5_measuredCodes_43 sx_m0 ?_
        refine sx_iload_n (pc := 44) dX5_measuredCodes_44 sx_m1 ?_
        obtain ⟨V4, g5, h⟩ := sx_bnd h
        refine sv_cV (pc := 45) (y := qX5_moveAsCvt) (o := none) (as := [.int l1]) (V1 := V4) hG dX5_measuredCodes_45 l_X5_527 y0X5_moveAsCvt yvX5_moveAsCvt rfl (Nat.le_of_ble_eq_true rfl) lay_69 kr_5 (by decide) (Nat.le_of_ble_eq_true rfl) rfl rfl rfl (t_X5_moveAsCvt hG ⟨rfl, rfl⟩ g5) ?_
        exact sv_vret (pc := 48) dX5_measuredCodes_48 rfl h hP
      · have h := sx_neg c3 h
        refine sx_aload_n (pc := 35) dX5_measuredCodes_35 sx_m0 ?_
        refine sx_iload_n (pc := 36) dX5_measuredCodes_36 sx_m1 ?_
        obtain ⟨V6, g7, h⟩ := sx_bnd h
        refine sv_cV (pc := 37) (y := qX5_moveAsOriginal) (o := none) (as := [.int l1]) (V1 := V6) hG dX5_measuredCodes_37 l_X5_524 y0X5_moveAsOriginal yvX5_moveAsOriginal rfl (Nat.le_of_ble_eq_true rfl) lay_69 kr_5 (by decide) (Nat.le_of_ble_eq_true rfl) rfl rfl rfl (t_X5_moveAsOriginal hG ⟨rfl, rfl⟩ g7) ?_
        refine sx_goto (pc := 40) (tgt := 48) dX5_measuredCodes_40 (by decide) ?_
        exact sv_vret (pc := 48) dX5_measuredCodes_48 rfl h hP
    · have h := sx_neg c2 h
      refine sx_aload_n (pc := 20) dX5_measuredCodes_20 sx_m0 ?_
      refine sx_iload_n (pc := 21) dX5_measuredCodes_21 sx_m1 ?_
      obtain ⟨V8, g9, h⟩ := sx_bnd h
      refine sv_cV (pc := 22) (y := qX5_moveToCvt) (o := none) (as := [.int l1]) (V1 := V8) hG dX5_measuredCodes_22 l_X5_521 y0X5_moveToCvt yvX5_moveToCvt rfl (Nat.le_of_ble_eq_true rfl) lay_69 kr_5 (by decide) (Nat.le_of_ble_eq_true rfl) rfl rfl rfl (t_X5_moveToCvt hG ⟨rfl, rfl⟩ g9) ?_
      refine sx_goto (pc := 25) (tgt := 48) dX5_measuredCodes_25 (by decide) ?_
      exact sv_vret (pc := 48) dX5_measuredCodes_48 rfl h hP
  · have h := sx_neg c1 h
    refine sx_aload_n (pc := 6) dX5_measuredCodes_6 sx_m0 ?_
    refine sx_iload_n (pc := 7) dX5_measuredCodes_7 sx_m1 ?_
    obtain ⟨V10, g11, h⟩ := sx_bnd h
    refine sv_cV (pc := 8) (y := qX5_moveFromReference) (o := none) (as := [.int l1]) (V1 := V10) hG dX5_measuredCodes_8 l_X5_518 y0X5_moveFromReference yvX5_moveFromReference rfl (Nat.le_of_ble_eq_true rfl) lay_69 kr_5 (by decide) (Nat.le_of_ble_eq_true rfl) rfl rfl rfl (t_X5_moveFromReference hG ⟨rfl, rfl⟩ g11) ?_
    refine sx_goto (pc := 11) (tgt := 48) dX5_measuredCodes_11 (by decide) ?_
    exact sv_vret (pc := 48) dX5_measuredCodes_48 rfl h hP
def ncX6_addPart : Nat := 5233236019347441621795562820951816586701296427639608254205778566029878130603511867952429638592521057955432777387543391680505382509686268936163276112691091573881231980291239961411935765537942157387782902454059641940413237298097235109260424987826691890622398136993613642042865504156529405533127750545005327156291788871619019366252125553362714135117915740426037500805125432032531782378402672687836814624104405724902378777928049397694727195
theorem kcX6_addPart : CK cX6_addPart ncX6_addPart 181 := ⟨by decide +kernel, by decide +kernel⟩
theorem dX6_addPart_0 : decode cX6_addPart 0 = .ok (.iload_n 1, 1) := dl_o27 kcX6_addPart (by decide +kernel)
theorem dX6_addPart_1 : decode cX6_addPart 1 = .ok (.iconst 1, 1) := dl_o4 kcX6_addPart (by decide +kernel)
theorem dX6_addPart_2 : decode cX6_addPart 2 = .ok (.iadd, 1) := dl_o96 kcX6_addPart (by decide +kernel)
theorem dX6_addPart_3 : decode cX6_addPart 3 = .ok (.iconst 5, 1) := dl_o8 kcX6_addPart (by decide +kernel)
theorem dX6_addPart_4 : decode cX6_addPart 4 = .ok (.if_icmp .lt 5, 3) := dl_o161 kcX6_addPart 5 (by decide +kernel) (by decide +kernel)
theorem dX6_addPart_7 : decode cX6_addPart 7 = .ok (.iconst 0, 1) := dl_o3 kcX6_addPart (by decide +kernel)
theorem dX6_addPart_8 : decode cX6_addPart 8 = .ok (.ireturn, 1) := dl_o172 kcX6_addPart (by decide +kernel)
theorem dX6_addPart_9 : decode cX6_addPart 9 = .ok (.aload_n 0, 1) := dl_o42 kcX6_addPart (by decide +kernel)
theorem dX6_addPart_10 : decode cX6_addPart 10 = .ok (.getfield 23, 3) := dl_o180 kcX6_addPart (by decide +kernel)
theorem dX6_addPart_13 : decode cX6_addPart 13 = .ok (.iload_n 1, 1) := dl_o27 kcX6_addPart (by decide +kernel)
theorem dX6_addPart_14 : decode cX6_addPart 14 = .ok (.aaload, 1) := dl_o50 kcX6_addPart (by decide +kernel)
theorem dX6_addPart_15 : decode cX6_addPart 15 = .ok (.astore_n 2, 1) := dl_o77 kcX6_addPart (by decide +kernel)
theorem dX6_addPart_16 : decode cX6_addPart 16 = .ok (.aload_n 0, 1) := dl_o42 kcX6_addPart (by decide +kernel)
theorem dX6_addPart_17 : decode cX6_addPart 17 = .ok (.getfield 23, 3) := dl_o180 kcX6_addPart (by decide +kernel)
theorem dX6_addPart_20 : decode cX6_addPart 20 = .ok (.iload_n 1, 1) := dl_o27 kcX6_addPart (by decide +kernel)
theorem dX6_addPart_21 : decode cX6_addPart 21 = .ok (.iconst 1, 1) := dl_o4 kcX6_addPart (by decide +kernel)
theorem dX6_addPart_22 : decode cX6_addPart 22 = .ok (.iadd, 1) := dl_o96 kcX6_addPart (by decide +kernel)
theorem dX6_addPart_23 : decode cX6_addPart 23 = .ok (.aaload, 1) := dl_o50 kcX6_addPart (by decide +kernel)
theorem dX6_addPart_24 : decode cX6_addPart 24 = .ok (.astore_n 3, 1) := dl_o78 kcX6_addPart (by decide +kernel)
theorem dX6_addPart_25 : decode cX6_addPart 25 = .ok (.aload_n 2, 1) := dl_o44 kcX6_addPart (by decide +kernel)
theorem dX6_addPart_26 : decode cX6_addPart 26 = .ok (.getfield 136, 3) := dl_o180 kcX6_addPart (by decide +kernel)
theorem dX6_addPart_29 : decode cX6_addPart 29 = .ok (.istore 4, 2) := dl_o54 kcX6_addPart (by decide +kernel)
theorem dX6_addPart_31 : decode cX6_addPart 31 = .ok (.iload 4, 2) := dl_o21 kcX6_addPart (by decide +kernel)
theorem dX6_addPart_33 : decode cX6_addPart 33 = .ok (.aload_n 3, 1) := dl_o45 kcX6_addPart (by decide +kernel)
theorem dX6_addPart_34 : decode cX6_addPart 34 = .ok (.getfield 136, 3) := dl_o180 kcX6_addPart (by decide +kernel)
theorem dX6_addPart_37 : decode cX6_addPart 37 = .ok (.iadd, 1) := dl_o96 kcX6_addPart (by decide +kernel)
theorem dX6_addPart_38 : decode cX6_addPart 38 = .ok (.bipush 100, 2) := dl_o16 kcX6_addPart 100 (by decide +kernel) (by decide +kernel)
theorem dX6_addPart_40 : decode cX6_addPart 40 = .ok (.if_icmp .gt 17, 3) := dl_o163 kcX6_addPart 17 (by decide +kernel) (by decide +kernel)
theorem dX6_addPart_43 : decode cX6_addPart 43 = .ok (.aload_n 2, 1) := dl_o44 kcX6_addPart (by decide +kernel)
theorem dX6_addPart_44 : decode cX6_addPart 44 = .ok (.getfield 167, 3) := dl_o180 kcX6_addPart (by decide +kernel)
theorem dX6_addPart_47 : decode cX6_addPart 47 = .ok (.aload_n 3, 1) := dl_o45 kcX6_addPart (by decide +kernel)
theorem dX6_addPart_48 : decode cX6_addPart 48 = .ok (.getfield 167, 3) := dl_o180 kcX6_addPart (by decide +kernel)
theorem dX6_addPart_51 : decode cX6_addPart 51 = .ok (.iadd, 1) := dl_o96 kcX6_addPart (by decide +kernel)
theorem dX6_addPart_52 : decode cX6_addPart 52 = .ok (.bipush 20, 2) := dl_o16 kcX6_addPart 20 (by decide +kernel) (by decide +kernel)
theorem dX6_addPart_54 : decode cX6_addPart 54 = .ok (.if_icmp .le 14, 3) := dl_o164 kcX6_addPart 14 (by decide +kernel) (by decide +kernel)
theorem dX6_addPart_57 : decode cX6_addPart 57 = .ok (.aload_n 0, 1) := dl_o42 kcX6_addPart (by decide +kernel)
theorem dX6_addPart_58 : decode cX6_addPart 58 = .ok (.getfield 47, 3) := dl_o180 kcX6_addPart (by decide +kernel)
theorem dX6_addPart_61 : decode cX6_addPart 61 = .ok (.bipush 12, 2) := dl_o16 kcX6_addPart 12 (by decide +kernel) (by decide +kernel)
theorem dX6_addPart_63 : decode cX6_addPart 63 = .ok (.invokevirtual 129, 3) := dl_o182 kcX6_addPart (by decide +kernel)
theorem dX6_addPart_66 : decode cX6_addPart 66 = .ok (.iconst 0, 1) := dl_o3 kcX6_addPart (by decide +kernel)
theorem dX6_addPart_67 : decode cX6_addPart 67 = .ok (.ireturn, 1) := dl_o172 kcX6_addPart (by decide +kernel)
theorem dX6_addPart_68 : decode cX6_addPart 68 = .ok (.aload_n 0, 1) := dl_o42 kcX6_addPart (by decide +kernel)
theorem dX6_addPart_69 : decode cX6_addPart 69 = .ok (.aload_n 2, 1) := dl_o44 kcX6_addPart (by decide +kernel)
theorem dX6_addPart_70 : decode cX6_addPart 70 = .ok (.aload_n 3, 1) := dl_o45 kcX6_addPart (by decide +kernel)
theorem dX6_addPart_71 : decode cX6_addPart 71 = .ok (.invokevirtual 205, 3) := dl_o182 kcX6_addPart (by decide +kernel)
theorem dX6_addPart_74 : decode cX6_addPart 74 = .ok (.aload_n 0, 1) := dl_o42 kcX6_addPart (by decide +kernel)
theorem dX6_addPart_75 : decode cX6_addPart 75 = .ok (.getfield 38, 3) := dl_o180 kcX6_addPart (by decide +kernel)
theorem dX6_addPart_78 : decode cX6_addPart 78 = .ok (.getfield 209, 3) := dl_o180 kcX6_addPart (by decide +kernel)
theorem dX6_addPart_81 : decode cX6_addPart 81 = .ok (.iconst 2, 1) := dl_o5 kcX6_addPart (by decide +kernel)
theorem dX6_addPart_82 : decode cX6_addPart 82 = .ok (.iand, 1) := dl_o126 kcX6_addPart (by decide +kernel)
theorem dX6_addPart_83 : decode cX6_addPart 83 = .ok (.ifCond .eq 34, 3) := dl_o153 kcX6_addPart 34 (by decide +kernel) (by decide +kernel)
theorem dX6_addPart_86 : decode cX6_addPart 86 = .ok (.aload_n 2, 1) := dl_o44 kcX6_addPart (by decide +kernel)
theorem dX6_addPart_87 : decode cX6_addPart 87 = .ok (.iload 4, 2) := dl_o21 kcX6_addPart (by decide +kernel)
theorem dX6_addPart_89 : decode cX6_addPart 89 = .ok (.aload_n 0, 1) := dl_o42 kcX6_addPart (by decide +kernel)
theorem dX6_addPart_90 : decode cX6_addPart 90 = .ok (.aload_n 0, 1) := dl_o42 kcX6_addPart (by decide +kernel)
theorem dX6_addPart_91 : decode cX6_addPart 91 = .ok (.getfield 38, 3) := dl_o180 kcX6_addPart (by decide +kernel)
theorem dX6_addPart_94 : decode cX6_addPart 94 = .ok (.getfield 212, 3) := dl_o180 kcX6_addPart (by decide +kernel)
theorem dX6_addPart_97 : decode cX6_addPart 97 = .ok (.invokevirtual 215, 3) := dl_o182 kcX6_addPart (by decide +kernel)
theorem dX6_addPart_100 : decode cX6_addPart 100 = .ok (.aload_n 0, 1) := dl_o42 kcX6_addPart (by decide +kernel)
theorem dX6_addPart_101 : decode cX6_addPart 101 = .ok (.aload_n 0, 1) := dl_o42 kcX6_addPart (by decide +kernel)
theorem dX6_addPart_102 : decode cX6_addPart 102 = .ok (.getfield 38, 3) := dl_o180 kcX6_addPart (by decide +kernel)
theorem dX6_addPart_105 : decode cX6_addPart 105 = .ok (.getfield 218, 3) := dl_o180 kcX6_addPart (by decide +kernel)
theorem dX6_addPart_108 : decode cX6_addPart 108 = .ok (.invokevirtual 215, 3) := dl_o182 kcX6_addPart (by decide +kernel)
theorem dX6_addPart_111 : decode cX6_addPart 111 = .ok (.invokevirtual 121, 3) := dl_o182 kcX6_addPart (by decide +kernel)
theorem dX6_addPart_114 : decode cX6_addPart 114 = .ok (.goto 23, 3) := dl_o167 kcX6_addPart 23 (by decide +kernel) (by decide +kernel)
theorem dX6_addPart_117 : decode cX6_addPart 117 = .ok (.aload_n 0, 1) := dl_o42 kcX6_addPart (by decide +kernel)
theorem dX6_addPart_118 : decode cX6_addPart 118 = .ok (.aload_n 2, 1) := dl_o44 kcX6_addPart (by decide +kernel)
theorem dX6_addPart_119 : decode cX6_addPart 119 = .ok (.iload 4, 2) := dl_o21 kcX6_addPart (by decide +kernel)
theorem dX6_addPart_121 : decode cX6_addPart 121 = .ok (.invokevirtual 221, 3) := dl_o182 kcX6_addPart (by decide +kernel)
theorem dX6_addPart_124 : decode cX6_addPart 124 = .ok (.ifCond .ne 13, 3) := dl_o154 kcX6_addPart 13 (by decide +kernel) (by decide +kernel)
theorem dX6_addPart_127 : decode cX6_addPart 127 = .ok (.aload_n 0, 1) := dl_o42 kcX6_addPart (by decide +kernel)
theorem dX6_addPart_128 : decode cX6_addPart 128 = .ok (.getfield 47, 3) := dl_o180 kcX6_addPart (by decide +kernel)
theorem dX6_addPart_131 : decode cX6_addPart 131 = .ok (.iconst 5, 1) := dl_o8 kcX6_addPart (by decide +kernel)
theorem dX6_addPart_132 : decode cX6_addPart 132 = .ok (.invokevirtual 129, 3) := dl_o182 kcX6_addPart (by decide +kernel)
theorem dX6_addPart_135 : decode cX6_addPart 135 = .ok (.iconst 0, 1) := dl_o3 kcX6_addPart (by decide +kernel)
theorem dX6_addPart_136 : decode cX6_addPart 136 = .ok (.ireturn, 1) := dl_o172 kcX6_addPart (by decide +kernel)
theorem dX6_addPart_137 : decode cX6_addPart 137 = .ok (.aload_n 0, 1) := dl_o42 kcX6_addPart (by decide +kernel)
theorem dX6_addPart_138 : decode cX6_addPart 138 = .ok (.getfield 38, 3) := dl_o180 kcX6_addPart (by decide +kernel)
theorem dX6_addPart_141 : decode cX6_addPart 141 = .ok (.getfield 209, 3) := dl_o180 kcX6_addPart (by decide +kernel)
theorem dX6_addPart_144 : decode cX6_addPart 144 = .ok (.sipush 512, 3) := dl_o17 kcX6_addPart 512 (by decide +kernel) (by decide +kernel)
theorem dX6_addPart_147 : decode cX6_addPart 147 = .ok (.iand, 1) := dl_o126 kcX6_addPart (by decide +kernel)
theorem dX6_addPart_148 : decode cX6_addPart 148 = .ok (.ifCond .eq 31, 3) := dl_o153 kcX6_addPart 31 (by decide +kernel) (by decide +kernel)
theorem dX6_addPart_151 : decode cX6_addPart 151 = .ok (.aload_n 3, 1) := dl_o45 kcX6_addPart (by decide +kernel)
theorem dX6_addPart_152 : decode cX6_addPart 152 = .ok (.getfield 115, 3) := dl_o180 kcX6_addPart (by decide +kernel)
theorem dX6_addPart_155 : decode cX6_addPart 155 = .ok (.iconst 0, 1) := dl_o3 kcX6_addPart (by decide +kernel)
theorem dX6_addPart_156 : decode cX6_addPart 156 = .ok (.aload_n 2, 1) := dl_o44 kcX6_addPart (by decide +kernel)
theorem dX6_addPart_157 : decode cX6_addPart 157 = .ok (.getfield 115, 3) := dl_o180 kcX6_addPart (by decide +kernel)
theorem dX6_addPart_160 : decode cX6_addPart 160 = .ok (.iconst 0, 1) := dl_o3 kcX6_addPart (by decide +kernel)
theorem dX6_addPart_161 : decode cX6_addPart 161 = .ok (.iconst 2, 1) := dl_o5 kcX6_addPart (by decide +kernel)
theorem dX6_addPart_162 : decode cX6_addPart 162 = .ok (.invokestatic 225, 3) := dl_o184 kcX6_addPart (by decide +kernel)
theorem dX6_addPart_165 : decode cX6_addPart 165 = .ok (.aload_n 3, 1) := dl_o45 kcX6_addPart (by decide +kernel)
theorem dX6_addPart_166 : decode cX6_addPart 166 = .ok (.getfield 181, 3) := dl_o180 kcX6_addPart (by decide +kernel)
theorem dX6_addPart_169 : decode cX6_addPart 169 = .ok (.iconst 0, 1) := dl_o3 kcX6_addPart (by decide +kernel)
theorem dX6_addPart_170 : decode cX6_addPart 170 = .ok (.aload_n 2, 1) := dl_o44 kcX6_addPart (by decide +kernel)
theorem dX6_addPart_171 : decode cX6_addPart 171 = .ok (.getfield 181, 3) := dl_o180 kcX6_addPart (by decide +kernel)
theorem dX6_addPart_174 : decode cX6_addPart 174 = .ok (.iconst 0, 1) := dl_o3 kcX6_addPart (by decide +kernel)
theorem dX6_addPart_175 : decode cX6_addPart 175 = .ok (.iconst 2, 1) := dl_o5 kcX6_addPart (by decide +kernel)
theorem dX6_addPart_176 : decode cX6_addPart 176 = .ok (.invokestatic 225, 3) := dl_o184 kcX6_addPart (by decide +kernel)
theorem dX6_addPart_179 : decode cX6_addPart 179 = .ok (.iconst 1, 1) := dl_o4 kcX6_addPart (by decide +kernel)
theorem dX6_addPart_180 : decode cX6_addPart 180 = .ok (.ireturn, 1) := dl_o172 kcX6_addPart (by decide +kernel)
def B_X6_addPart_57 (N : Nat)   (V : sv_V) : Option (Int32 × sv_V) := (F_X5_failOutside (12 : Int32) V).bind (fun V1 => some ((0 : Int32), V1))
set_option maxRecDepth 20000 in
theorem tB_X6_addPart_57 {g : sx_G} (hG : sx_Go g) {P : Option Value → sv_V → Prop} {r : Int32} {Vr : sv_V} (hP : P (some (.int r)) Vr) {N : Nat}    {V : sv_V} (h : B_X6_addPart_57 N   V = some (r, Vr)) : sv_N g qX6_addPart 3 57 [(0, .ref 30)] [] V P := by
  unfold B_X6_addPart_57 at h
  refine sx_aload_n (pc := 57) dX6_addPart_57 sx_m0 ?_
  refine sv_getO (pc := 58) hG dX6_addPart_58 f_6_47 lay_30 rfl cr_30_2 ?_
  refine sx_bipush (pc := 61) (v := 12) dX6_addPart_61 (by decide) ?_
  obtain ⟨V1, g2, h⟩ := sx_bnd h
  refine sv_cV (pc := 63) (y := qX5_failOutside) (o := none) (as := [.int (12 : Int32)]) (V1 := V1) hG dX6_addPart_63 l_X6_129 y0X5_failOutside yvX5_failOutside rfl (Nat.le_of_ble_eq_true rfl) lay_69 kr_5 (by decide) (Nat.le_of_ble_eq_true rfl) rfl rfl rfl (t_X5_failOutside hG ⟨rfl, rfl⟩ g2) ?_
  refine sx_iconst (pc := 66) (v := 0) dX6_addPart_66 (by decide) ?_
  exact sv_zret (pc := 67) dX6_addPart_67 rfl rfl h hP
def B_X6_addPart_137 (N : Nat)  (l2 : Nat) (l3 : Nat) (V : sv_V) : Option (Int32 × sv_V) := if ((V.1 16 7) &&& (512 : Int32)) = 0 then (some ((1 : Int32), V)) else (if lay l3 = .inl 8 then (cr l3 7).bind (fun b5 => if lay l2 = .inl 8 then (cr l2 7).bind (fun b8 => (sv_len 0 b5).bind (fun n10 => (sv_len 0 b8).bind (fun n12 => if sv_cpo (0 : Int32) (2 : Int32) n10 = true then if sv_cpo (0 : Int32) (2 : Int32) n12 = true then sx_let (sv_C V b5 (0 : Int32).toNatClampNeg b8 (0 : Int32).toNatClampNeg (2 : Int32).toNatClampNeg) (fun V16 => (cr l3 8).bind (fun b17 => (cr l2 8).bind (fun b19 => (sv_len 0 b17).bind (fun n21 => (sv_len 0 b19).bind (fun n23 => if sv_cpo (0 : Int32) (2 : Int32) n21 = true then if sv_cpo (0 : Int32) (2 : Int32) n23 = true then sx_let (sv_C V16 b17 (0 : Int32).toNatClampNeg b19 (0 : Int32).toNatClampNeg (2 : Int32).toNatClampNeg) (fun V27 => some ((1 : Int32), V27)) else none else none))))) else none else none))) else none) else none)
set_option maxRecDepth 20000 in
theorem tB_X6_addPart_137 {g : sx_G} (hG : sx_Go g) {P : Option Value → sv_V → Prop} {r : Int32} {Vr : sv_V} (hP : P (some (.int r)) Vr) {N : Nat}   {l2 : Nat} {l3 : Nat} {V : sv_V} (h : B_X6_addPart_137 N  l2 l3 V = some (r, Vr)) : sv_N g qX6_addPart 3 137 [(0, .ref 30), (2, .ref l2), (3, .ref l3)] [] V P := by
  unfold B_X6_addPart_137 at h
  refine sx_aload_n (pc := 137) dX6_addPart_137 sx_m0 ?_
  refine sv_getO (pc := 138) hG dX6_addPart_138 f_6_38 lay_30 rfl cr_30_1 ?_
  refine sv_getI (pc := 141) hG dX6_addPart_141 f_6_209 lay_16 rfl ?_
  refine sx_sipush (pc := 144) (v := 512) dX6_addPart_144 (by decide) ?_
  refine sx_iand (pc := 147) dX6_addPart_147 ?_
  refine sx_if_eq (pc := 148) (tgt := 179) dX6_addPart_148 (by decide) (fun c3 => ?_) (fun c3 => ?_)
  · have h := sx_pos c3 h
    refine sx_iconst (pc := 179) (v := 1) dX6_addPart_179 (by decide) ?_
    exact sv_zret (pc := 180) dX6_addPart_180 rfl rfl h hP
  · have h := sx_neg c3 h
    refine sx_aload_n (pc := 151) dX6_addPart_151 sx_m2 ?_
    obtain ⟨g4, h⟩ := sx_grd h
    obtain ⟨b5, g6, h⟩ := sx_bnd h
    refine sv_getA (pc := 152) hG dX6_addPart_152 f_6_115 g4 rfl g6 ?_
    refine sx_iconst (pc := 155) (v := 0) dX6_addPart_155 (by decide) ?_
    refine sx_aload_n (pc := 156) dX6_addPart_156 sx_m1 ?_
    obtain ⟨g7, h⟩ := sx_grd h
    obtain ⟨b8, g9, h⟩ := sx_bnd h
    refine sv_getA (pc := 157) hG dX6_addPart_157 f_6_115 g7 rfl g9 ?_
    refine sx_iconst (pc := 160) (v := 0) dX6_addPart_160 (by decide) ?_
    refine sx_iconst (pc := 161) (v := 2) dX6_addPart_161 (by decide) ?_
    obtain ⟨n10, g11, h⟩ := sx_bnd h
    obtain ⟨n12, g13, h⟩ := sx_bnd h
    obtain ⟨g14, h⟩ := sx_grd h
    obtain ⟨g15, h⟩ := sx_grd h
    obtain ⟨V16, hV16⟩ : ∃ z : sv_V, z = sv_C V b5 (0 : Int32).toNatClampNeg b8 (0 : Int32).toNatClampNeg (2 : Int32).toNatClampNeg := ⟨_, rfl⟩
    have h := sx_letE hV16 h
    refine sv_copyI (pc := 162) hG dX6_addPart_162 l_X6_225 (sv_len_e g11) (sv_len_e g13) g14 g15 (by decide) (Nat.le_of_ble_eq_true rfl) hV16 ?_
    refine sx_aload_n (pc := 165) dX6_addPart_165 sx_m2 ?_
    obtain ⟨b17, g18, h⟩ := sx_bnd h
    refine sv_getA (pc := 166) hG dX6_addPart_166 f_6_181 g4 rfl g18 ?_
    refine sx_iconst (pc := 169) (v := 0) dX6_addPart_169 (by decide) ?_
    refine sx_aload_n (pc := 170) dX6_addPart_170 sx_m1 ?_
    obtain ⟨b19, g20, h⟩ := sx_bnd h
    refine sv_getA (pc := 171) hG dX6_addPart_171 f_6_181 g7 rfl g20 ?_
    refine sx_iconst (pc := 174) (v := 0) dX6_addPart_174 (by decide) ?_
    refine sx_iconst (pc := 175) (v := 2) dX6_addPart_175 (by decide) ?_
    obtain ⟨n21, g22, h⟩ := sx_bnd h
    obtain ⟨n23, g24, h⟩ := sx_bnd h
    obtain ⟨g25, h⟩ := sx_grd h
    obtain ⟨g26, h⟩ := sx_grd h
    obtain ⟨V27, hV27⟩ : ∃ z : sv_V, z = sv_C V16 b17 (0 : Int32).toNatClampNeg b19 (0 : Int32).toNatClampNeg (2 : Int32).toNatClampNeg := ⟨_, rfl⟩
    have h := sx_letE hV27 h
    refine sv_copyI (pc := 176) hG dX6_addPart_176 l_X6_225 (sv_len_e g22) (sv_len_e g24) g25 g26 (by decide) (Nat.le_of_ble_eq_true rfl) hV27 ?_
    refine sx_iconst (pc := 179) (v := 1) dX6_addPart_179 (by decide) ?_
    exact sv_zret (pc := 180) dX6_addPart_180 rfl rfl h hP
def F_X6_addPart (N : Nat) (l1 : Int32) (V : sv_V) : Option (Int32 × sv_V) := if (l1 + (1 : Int32)) < (5 : Int32) then (if sx_in l1 5 = true then (cr 59 l1.toNatClampNeg).bind (fun b30 => if sx_in (l1 + (1 : Int32)) 5 = true then (cr 59 (l1 + (1 : Int32)).toNatClampNeg).bind (fun b33 => if lay b30 = .inl 8 then sx_let (V.1 b30 9) (fun x36 => if lay b33 = .inl 8 then if (100 : Int32) < (x36 + (V.1 b33 9)) then (B_X6_addPart_57 N   V) else (if ((V.1 b30 10) + (V.1 b33 10)) ≤ (20 : Int32) then ((F_X6_append N b30 b33 V).bind (fun V40 => if ((V40.1 16 7) &&& (2 : Int32)) = 0 then ((F_X6_match N b30 x36 V40).bind (fun (x45, V43) => if x45 = 0 then ((F_X5_failOutside (5 : Int32) V43).bind (fun V47 => some ((0 : Int32), V47))) else (B_X6_addPart_137 N  b30 b33 V43))) else ((F_X6_offset (V40.1 16 9) V40).bind (fun (x51, V49) => (F_X6_offset (V49.1 16 10) V49).bind (fun (x54, V52) => (F_X8_shift N b30 x36 x51 x54 V52).bind (fun V55 => B_X6_addPart_137 N  b30 b33 V55)))))) else (B_X6_addPart_57 N   V)) else none) else none) else none) else none) else (some ((0 : Int32), V))
set_option maxRecDepth 20000 in
theorem t_X6_addPart {g : sx_G} (hG : sx_Go g) {P : Option Value → sv_V → Prop} {r : Int32} {Vr : sv_V} (hP : P (some (.int r)) Vr) {N : Nat} {l1 : Int32} {V : sv_V} (h : F_X6_addPart N l1 V = some (r, Vr)) : sv_N g qX6_addPart 3 0 [(0, .ref 30), (1, .int l1)] [] V P := by
  unfold F_X6_addPart at h
  refine sx_iload_n (pc := 0) dX6_addPart_0 sx_m1 ?_
  refine sx_iconst (pc := 1) (v := 1) dX6_addPart_1 (by decide) ?_
  refine sx_iadd (pc := 2) dX6_addPart_2 ?_
  refine sx_iconst (pc := 3) (v := 5) dX6_addPart_3 (by decide) ?_
  refine sx_icmp_lt (pc := 4) (tgt := 9) dX6_addPart_4 (by decide) (fun c28 => ?_) (fun c28 => ?_)
  · have h := sx_pos c28 h
    refine sx_aload_n (pc := 9) dX6_addPart_9 sx_m0 ?_
    refine sv_getA (pc := 10) hG dX6_addPart_10 f_6_23 lay_30 rfl cr_30_5 ?_
    refine sx_iload_n (pc := 13) dX6_addPart_13 sx_m1 ?_
    obtain ⟨g29, h⟩ := sx_grd h
    obtain ⟨b30, g31, h⟩ := sx_bnd h
    refine sv_aald (pc := 14) hG dX6_addPart_14 (by decide) lay_59 g29 g31 ?_
    refine sx_astore_n (pc := 15) (lo' := [(2, .ref b30), (0, .ref 30), (1, .int l1)]) dX6_addPart_15 (by decide) rfl ?_
    refine sx_aload_n (pc := 16) dX6_addPart_16 sx_m1 ?_
    refine sv_getA (pc := 17) hG dX6_addPart_17 f_6_23 lay_30 rfl cr_30_5 ?_
    refine sx_iload_n (pc := 20) dX6_addPart_20 sx_m2 ?_
    refine sx_iconst (pc := 21) (v := 1) dX6_addPart_21 (by decide) ?_
    refine sx_iadd (pc := 22) dX6_addPart_22 ?_
    obtain ⟨g32, h⟩ := sx_grd h
    obtain ⟨b33, g34, h⟩ := sx_bnd h
    refine sv_aald (pc := 23) hG dX6_addPart_23 (by decide) lay_59 g32 g34 ?_
    refine sx_astore_n (pc := 24) (lo' := [(3, .ref b33), (2, .ref b30), (0, .ref 30), (1, .int l1)]) dX6_addPart_24 (by decide) rfl ?_
    refine sx_aload_n (pc := 25) dX6_addPart_25 sx_m1 ?_
    obtain ⟨g35, h⟩ := sx_grd h
    refine sv_getI (pc := 26) hG dX6_addPart_26 f_6_136 g35 rfl ?_
    refine sv_tI (fun x36 hx36 => ?_)
    have h := sx_letE hx36 h
    refine sx_istore (pc := 29) (lo' := [(4, .int x36), (3, .ref b33), (2, .ref b30), (0, .ref 30), (1, .int l1)]) dX6_addPart_29 (by decide) rfl ?_
    refine sx_iload (pc := 31) dX6_addPart_31 sx_m0 ?_
    refine sx_aload_n (pc := 33) dX6_addPart_33 sx_m1 ?_
    obtain ⟨g37, h⟩ := sx_grd h
    refine sv_getI (pc := 34) hG dX6_addPart_34 f_6_136 g37 rfl ?_
    refine sx_iadd (pc := 37) dX6_addPart_37 ?_
    refine sx_bipush (pc := 38) (v := 100) dX6_addPart_38 (by decide) ?_
    refine sx_icmp_gt (pc := 40) (tgt := 57) dX6_addPart_40 (by decide) (fun c38 => ?_) (fun c38 => ?_)
    · have h := sx_pos c38 h
      refine sx_wk (sx_s1 sx_m3 sx_s0) ?_
      exact tB_X6_addPart_57 hG hP  h
    · have h := sx_neg c38 h
      refine sx_aload_n (pc := 43) dX6_addPart_43 sx_m2 ?_
      refine sv_getI (pc := 44) hG dX6_addPart_44 f_6_167 g35 rfl ?_
      refine sx_aload_n (pc := 47) dX6_addPart_47 sx_m1 ?_
      refine sv_getI (pc := 48) hG dX6_addPart_48 f_6_167 g37 rfl ?_
      refine sx_iadd (pc := 51) dX6_addPart_51 ?_
      refine sx_bipush (pc := 52) (v := 20) dX6_addPart_52 (by decide) ?_
      refine sx_icmp_le (pc := 54) (tgt := 68) dX6_addPart_54 (by decide) (fun c39 => ?_) (fun c39 => ?_)
      · have h := sx_pos c39 h
        refine sx_aload_n (pc := 68) dX6_addPart_68 sx_m3 ?_
        refine sx_aload_n (pc := 69) dX6_addPart_69 sx_m2 ?_
        refine sx_aload_n (pc := 70) dX6_addPart_70 sx_m1 ?_
        obtain ⟨V40, g41, h⟩ := sx_bnd h
        refine sv_cV (pc := 71) (y := qX6_append) (o := none) (as := [.ref b30, .ref b33]) (V1 := V40) hG dX6_addPart_71 l_X6_205 y0X6_append yvX6_append rfl (Nat.le_of_ble_eq_true rfl) lay_30 kr_6 (by decide) (Nat.le_of_ble_eq_true rfl) rfl rfl rfl (t_X6_append hG ⟨rfl, rfl⟩ g41) ?_
        refine sx_aload_n (pc := 74) dX6_addPart_74 sx_m3 ?_
        refine sv_getO (pc := 75) hG dX6_addPart_75 f_6_38 lay_30 rfl cr_30_1 ?_
        refine sv_getI (pc := 78) hG dX6_addPart_78 f_6_209 lay_16 rfl ?_
        refine sx_iconst (pc := 81) (v := 2) dX6_addPart_81 (by decide) ?_
        refine sx_iand (pc := 82) dX6_addPart_82 ?_
        refine sx_if_eq (pc := 83) (tgt := 117) dX6_addPart_83 (by decide) (fun c42 => ?_) (fun c42 => ?_)
        · have h := sx_pos c42 h
          refine sx_aload_n (pc := 117) dX6_addPart_117 sx_m3 ?_
          refine sx_aload_n (pc := 118) dX6_addPart_118 sx_m2 ?_
          refine sx_iload (pc := 119) dX6_addPart_119 sx_m0 ?_
          obtain ⟨⟨x45, V43⟩, g44, h⟩ := sx_bnd h
          refine sv_cV (pc := 121) (y := qX6_match) (o := (some (.int x45))) (as := [.ref b30, .int x36]) (V1 := V43) hG dX6_addPart_121 l_X6_221 y0X6_match yvX6_match rfl (Nat.le_of_ble_eq_true rfl) lay_30 kr_6 (by decide) (Nat.le_of_ble_eq_true rfl) rfl rfl rfl (t_X6_match hG ⟨rfl, rfl⟩ g44) ?_
          refine sx_if_ne (pc := 124) (tgt := 137) dX6_addPart_124 (by decide) (fun c46 => ?_) (fun c46 => ?_)
          · have h := sx_neg c46 h
            refine sx_wk (sx_s1 sx_m3 (sx_s1 sx_m2 (sx_s1 sx_m1 sx_s0))) ?_
            exact tB_X6_addPart_137 hG hP  h
          · have h := sx_pos c46 h
            refine sx_aload_n (pc := 127) dX6_addPart_127 sx_m3 ?_
            refine sv_getO (pc := 128) hG dX6_addPart_128 f_6_47 lay_30 rfl cr_30_2 ?_
            refine sx_iconst (pc := 131) (v := 5) dX6_addPart_131 (by decide) ?_
            obtain ⟨V47, g48, h⟩ := sx_bnd h
            refine sv_cV (pc := 132) (y := qX5_failOutside) (o := none) (as := [.int (5 : Int32)]) (V1 := V47) hG dX6_addPart_132 l_X6_129 y0X5_failOutside yvX5_failOutside rfl (Nat.le_of_ble_eq_true rfl) lay_69 kr_5 (by decide) (Nat.le_of_ble_eq_true rfl) rfl rfl rfl (t_X5_failOutside hG ⟨rfl, rfl⟩ g48) ?_
            refine sx_iconst (pc := 135) (v := 0) dX6_addPart_135 (by decide) ?_
            exact sv_zret (pc := 136) dX6_addPart_136 rfl rfl h hP
        · have h := sx_neg c42 h
          refine sx_aload_n (pc := 86) dX6_addPart_86 sx_m2 ?_
          refine sx_iload (pc := 87) dX6_addPart_87 sx_m0 ?_
          refine sx_aload_n (pc := 89) dX6_addPart_89 sx_m3 ?_
          refine sx_aload_n (pc := 90) dX6_addPart_90 sx_m3 ?_
          refine sv_getO (pc := 91) hG dX6_addPart_91 f_6_38 lay_30 rfl cr_30_1 ?_
          refine sv_getI (pc := 94) hG dX6_addPart_94 f_6_212 lay_16 rfl ?_
          obtain ⟨⟨x51, V49⟩, g50, h⟩ := sx_bnd h
          refine sv_cV (pc := 97) (y := qX6_offset) (o := (some (.int x51))) (as := [.int (V40.1 16 9)]) (V1 := V49) hG dX6_addPart_97 l_X6_215 y0X6_offset yvX6_offset rfl (Nat.le_of_ble_eq_true rfl) lay_30 kr_6 (by decide) (Nat.le_of_ble_eq_true rfl) rfl rfl rfl (t_X6_offset hG ⟨rfl, rfl⟩ g50) ?_
          refine sx_aload_n (pc := 100) dX6_addPart_100 sx_m3 ?_
          refine sx_aload_n (pc := 101) dX6_addPart_101 sx_m3 ?_
          refine sv_getO (pc := 102) hG dX6_addPart_102 f_6_38 lay_30 rfl cr_30_1 ?_
          refine sv_getI (pc := 105) hG dX6_addPart_105 f_6_218 lay_16 rfl ?_
          obtain ⟨⟨x54, V52⟩, g53, h⟩ := sx_bnd h
          refine sv_cV (pc := 108) (y := qX6_offset) (o := (some (.int x54))) (as := [.int (V49.1 16 10)]) (V1 := V52) hG dX6_addPart_108 l_X6_215 y0X6_offset yvX6_offset rfl (Nat.le_of_ble_eq_true rfl) lay_30 kr_6 (by decide) (Nat.le_of_ble_eq_true rfl) rfl rfl rfl (t_X6_offset hG ⟨rfl, rfl⟩ g53) ?_
          obtain ⟨V55, g56, h⟩ := sx_bnd h
          refine sv_cV (pc := 111) (y := qX8_shift) (o := none) (as := [.int x36, .int x51, .int x54]) (V1 := V55) hG dX6_addPart_111 l_X6_121 y0X8_shift yvX8_shift rfl (Nat.le_of_ble_eq_true rfl) g35 kr_8 (by decide) (Nat.le_of_ble_eq_true rfl) rfl rfl rfl (t_X8_shift hG ⟨rfl, rfl⟩ g56) ?_
          refine sx_goto (pc := 114) (tgt := 137) dX6_addPart_114 (by decide) ?_
          refine sx_wk (sx_s1 sx_m3 (sx_s1 sx_m2 (sx_s1 sx_m1 sx_s0))) ?_
          exact tB_X6_addPart_137 hG hP  h
      · have h := sx_neg c39 h
        refine sx_wk (sx_s1 sx_m3 sx_s0) ?_
        exact tB_X6_addPart_57 hG hP  h
  · have h := sx_neg c28 h
    refine sx_iconst (pc := 7) (v := 0) dX6_addPart_7 (by decide) ?_
    exact sv_zret (pc := 8) dX6_addPart_8 rfl rfl h hP
def ncX11_load : Nat := 2311386037489594826520020069060332617560026074878424002544783523550911834323485591884107661519887337655251125426102877016829476633033971786163785375433143338
theorem kcX11_load : CK cX11_load ncX11_load 65 := ⟨by decide +kernel, by decide +kernel⟩
theorem dX11_load_0 : decode cX11_load 0 = .ok (.aload_n 0, 1) := dl_o42 kcX11_load (by decide +kernel)
theorem dX11_load_1 : decode cX11_load 1 = .ok (.getfield 37, 3) := dl_o180 kcX11_load (by decide +kernel)
theorem dX11_load_4 : decode cX11_load 4 = .ok (.invokevirtual 56, 3) := dl_o182 kcX11_load (by decide +kernel)
theorem dX11_load_7 : decode cX11_load 7 = .ok (.aload_n 0, 1) := dl_o42 kcX11_load (by decide +kernel)
theorem dX11_load_8 : decode cX11_load 8 = .ok (.getfield 16, 3) := dl_o180 kcX11_load (by decide +kernel)
theorem dX11_load_11 : decode cX11_load 11 = .ok (.aload_n 0, 1) := dl_o42 kcX11_load (by decide +kernel)
theorem dX11_load_12 : decode cX11_load 12 = .ok (.getfield 9, 3) := dl_o180 kcX11_load (by decide +kernel)
theorem dX11_load_15 : decode cX11_load 15 = .ok (.aload_n 0, 1) := dl_o42 kcX11_load (by decide +kernel)
theorem dX11_load_16 : decode cX11_load 16 = .ok (.getfield 52, 3) := dl_o180 kcX11_load (by decide +kernel)
theorem dX11_load_19 : decode cX11_load 19 = .ok (.invokevirtual 59, 3) := dl_o182 kcX11_load (by decide +kernel)
theorem dX11_load_22 : decode cX11_load 22 = .ok (.aload_n 0, 1) := dl_o42 kcX11_load (by decide +kernel)
theorem dX11_load_23 : decode cX11_load 23 = .ok (.getfield 30, 3) := dl_o180 kcX11_load (by decide +kernel)
theorem dX11_load_26 : decode cX11_load 26 = .ok (.invokevirtual 63, 3) := dl_o182 kcX11_load (by decide +kernel)
theorem dX11_load_29 : decode cX11_load 29 = .ok (.istore_n 1, 1) := dl_o60 kcX11_load (by decide +kernel)
theorem dX11_load_30 : decode cX11_load 30 = .ok (.aload_n 0, 1) := dl_o42 kcX11_load (by decide +kernel)
theorem dX11_load_31 : decode cX11_load 31 = .ok (.getfield 16, 3) := dl_o180 kcX11_load (by decide +kernel)
theorem dX11_load_34 : decode cX11_load 34 = .ok (.iload_n 1, 1) := dl_o27 kcX11_load (by decide +kernel)
theorem dX11_load_35 : decode cX11_load 35 = .ok (.ifCond .ne 7, 3) := dl_o154 kcX11_load 7 (by decide +kernel) (by decide +kernel)
theorem dX11_load_38 : decode cX11_load 38 = .ok (.iconst 1, 1) := dl_o4 kcX11_load (by decide +kernel)
theorem dX11_load_39 : decode cX11_load 39 = .ok (.goto 4, 3) := dl_o167 kcX11_load 4 (by decide +kernel) (by decide +kernel)
theorem dX11_load_42 : decode cX11_load 42 = .ok (.iconst 0, 1) := dl_o3 kcX11_load (by decide +kernel)
theorem dX11_load_43 : decode cX11_load 43 = .ok (.putfield 67, 3) := dl_o181 kcX11_load (by decide +kernel)
theorem dX11_load_46 : decode cX11_load 46 = .ok (.iload_n 1, 1) := dl_o27 kcX11_load (by decide +kernel)
theorem dX11_load_47 : decode cX11_load 47 = .ok (.ifCond .ne 13, 3) := dl_o154 kcX11_load 13 (by decide +kernel) (by decide +kernel)
theorem dX11_load_50 : decode cX11_load 50 = .ok (.aload_n 0, 1) := dl_o42 kcX11_load (by decide +kernel)
theorem dX11_load_51 : decode cX11_load 51 = .ok (.getfield 16, 3) := dl_o180 kcX11_load (by decide +kernel)
theorem dX11_load_54 : decode cX11_load 54 = .ok (.getfield 71, 3) := dl_o180 kcX11_load (by decide +kernel)
theorem dX11_load_57 : decode cX11_load 57 = .ok (.goto 7, 3) := dl_o167 kcX11_load 7 (by decide +kernel) (by decide +kernel)
theorem dX11_load_60 : decode cX11_load 60 = .ok (.bipush (-100), 2) := dl_o16 kcX11_load 156 (by decide +kernel) (by decide +kernel)
theorem dX11_load_62 : decode cX11_load 62 = .ok (.iload_n 1, 1) := dl_o27 kcX11_load (by decide +kernel)
theorem dX11_load_63 : decode cX11_load 63 = .ok (.isub, 1) := dl_o100 kcX11_load (by decide +kernel)
theorem dX11_load_64 : decode cX11_load 64 = .ok (.ireturn, 1) := dl_o172 kcX11_load (by decide +kernel)
def B_X11_load_43 (N : Nat)  (l1 : Int32) (s1 : Int32) (V : sv_V) : Option (Int32 × sv_V) := if sv_bl s1 = true then sx_let (sv_I V 2 2 s1) (fun V2 => if l1 = 0 then (some (V2.1 2 7, V2)) else (some ((-100 : Int32) - l1, V2))) else none
set_option maxRecDepth 20000 in
theorem tB_X11_load_43 {g : sx_G} (hG : sx_Go g) {P : Option Value → sv_V → Prop} {r : Int32} {Vr : sv_V} (hP : P (some (.int r)) Vr) {N : Nat}   {l1 : Int32} {s1 : Int32} {V : sv_V} (h : B_X11_load_43 N  l1 s1 V = some (r, Vr)) : sv_N g qX11_load 7 43 [(0, .ref 0), (1, .int l1)] [.int s1, .ref 2] V P := by
  unfold B_X11_load_43 at h
  obtain ⟨g1, h⟩ := sx_grd h
  obtain ⟨V2, hV2⟩ : ∃ z : sv_V, z = sv_I V 2 2 s1 := ⟨_, rfl⟩
  have h := sx_letE hV2 h
  refine sv_putZ (pc := 43) hG dX11_load_43 f_11_67 lay_2 rfl g1 hV2 ?_
  refine sx_iload_n (pc := 46) dX11_load_46 sx_m1 ?_
  refine sx_if_ne (pc := 47) (tgt := 60) dX11_load_47 (by decide) (fun c3 => ?_) (fun c3 => ?_)
  · have h := sx_neg c3 h
    refine sx_bipush (pc := 60) (v := (-100)) dX11_load_60 (by decide) ?_
    refine sx_iload_n (pc := 62) dX11_load_62 sx_m1 ?_
    refine sx_isub (pc := 63) dX11_load_63 ?_
    exact sv_iret (pc := 64) dX11_load_64 rfl h hP
  · have h := sx_pos c3 h
    refine sx_aload_n (pc := 50) dX11_load_50 sx_m0 ?_
    refine sv_getO (pc := 51) hG dX11_load_51 f_11_16 lay_0 rfl cr_0_2 ?_
    refine sv_getI (pc := 54) hG dX11_load_54 f_11_71 lay_2 rfl ?_
    refine sx_goto (pc := 57) (tgt := 64) dX11_load_57 (by decide) ?_
    exact sv_iret (pc := 64) dX11_load_64 rfl h hP
def F_X11_load (N : Nat)  (V : sv_V) : Option (Int32 × sv_V) := (F_X6_forgetAll  V).bind (fun V4 => (F_X2_take 1 (V4.1 0 1) V4).bind (fun V6 => (F_X4_findFault N  V6).bind (fun (x10, V8) => if x10 = 0 then (B_X11_load_43 N  x10 (1 : Int32) V8) else (B_X11_load_43 N  x10 (0 : Int32) V8))))
set_option maxRecDepth 20000 in
theorem t_X11_load {g : sx_G} (hG : sx_Go g) {P : Option Value → sv_V → Prop} {r : Int32} {Vr : sv_V} (hP : P (some (.int r)) Vr) {N : Nat}  {V : sv_V} (h : F_X11_load N  V = some (r, Vr)) : sv_N g qX11_load 7 0 [(0, .ref 0)] [] V P := by
  unfold F_X11_load at h
  refine sx_aload_n (pc := 0) dX11_load_0 sx_m0 ?_
  refine sv_getO (pc := 1) hG dX11_load_1 f_11_37 lay_0 rfl cr_0_4 ?_
  obtain ⟨V4, g5, h⟩ := sx_bnd h
  refine sv_cV (pc := 4) (y := qX6_forgetAll) (o := none) (as := []) (V1 := V4) hG dX11_load_4 l_X11_56 y0X6_forgetAll yvX6_forgetAll rfl (Nat.le_of_ble_eq_true rfl) lay_30 kr_6 (by decide) (Nat.le_of_ble_eq_true rfl) rfl rfl rfl (t_X6_forgetAll hG ⟨rfl, rfl⟩ g5) ?_
  refine sx_aload_n (pc := 7) dX11_load_7 sx_m0 ?_
  refine sv_getO (pc := 8) hG dX11_load_8 f_11_16 lay_0 rfl cr_0_2 ?_
  refine sx_aload_n (pc := 11) dX11_load_11 sx_m0 ?_
  refine sv_getA (pc := 12) hG dX11_load_12 f_11_9 lay_0 rfl cr_0_0 ?_
  refine sx_aload_n (pc := 15) dX11_load_15 sx_m0 ?_
  refine sv_getI (pc := 16) hG dX11_load_16 f_11_52 lay_0 rfl ?_
  obtain ⟨V6, g7, h⟩ := sx_bnd h
  refine sv_cV (pc := 19) (y := qX2_take) (o := none) (as := [.ref 1, .int (V4.1 0 1)]) (V1 := V6) hG dX11_load_19 l_X11_59 y0X2_take yvX2_take rfl (Nat.le_of_ble_eq_true rfl) lay_2 kr_2 (by decide) (Nat.le_of_ble_eq_true rfl) rfl rfl rfl (t_X2_take hG ⟨rfl, rfl⟩ g7) ?_
  refine sx_aload_n (pc := 22) dX11_load_22 sx_m0 ?_
  refine sv_getO (pc := 23) hG dX11_load_23 f_11_30 lay_0 rfl cr_0_3 ?_
  obtain ⟨⟨x10, V8⟩, g9, h⟩ := sx_bnd h
  refine sv_cV (pc := 26) (y := qX4_findFault) (o := (some (.int x10))) (as := []) (V1 := V8) hG dX11_load_26 l_X11_63 y0X4_findFault yvX4_findFault rfl (Nat.le_of_ble_eq_true rfl) lay_29 kr_4 (by decide) (Nat.le_of_ble_eq_true rfl) rfl rfl rfl (t_X4_findFault hG ⟨rfl, rfl⟩ g9) ?_
  refine sx_istore_n (pc := 29) (lo' := [(1, .int x10), (0, .ref 0)]) dX11_load_29 (by decide) rfl ?_
  refine sx_aload_n (pc := 30) dX11_load_30 sx_m1 ?_
  refine sv_getO (pc := 31) hG dX11_load_31 f_11_16 lay_0 rfl cr_0_2 ?_
  refine sx_iload_n (pc := 34) dX11_load_34 sx_m0 ?_
  refine sx_if_ne (pc := 35) (tgt := 42) dX11_load_35 (by decide) (fun c11 => ?_) (fun c11 => ?_)
  · have h := sx_neg c11 h
    refine sx_iconst (pc := 42) (v := 0) dX11_load_42 (by decide) ?_
    refine sx_wk (sx_s1 sx_m1 (sx_s1 sx_m0 sx_s0)) ?_
    exact tB_X11_load_43 hG hP  h
  · have h := sx_pos c11 h
    refine sx_iconst (pc := 38) (v := 1) dX11_load_38 (by decide) ?_
    refine sx_goto (pc := 39) (tgt := 43) dX11_load_39 (by decide) ?_
    refine sx_wk (sx_s1 sx_m1 (sx_s1 sx_m0 sx_s0)) ?_
    exact tB_X11_load_43 hG hP  h
def ncX11_draw : Nat := 2319236671917968839596198569430820678100097564264549594076609974433452335712128255209729479684667078756823425860858128866088145500744736442504371091206616106
theorem kcX11_draw : CK cX11_draw ncX11_draw 65 := ⟨by decide +kernel, by decide +kernel⟩
theorem dX11_draw_0 : decode cX11_draw 0 = .ok (.aload_n 0, 1) := dl_o42 kcX11_draw (by decide +kernel)
theorem dX11_draw_1 : decode cX11_draw 1 = .ok (.getfield 37, 3) := dl_o180 kcX11_draw (by decide +kernel)
theorem dX11_draw_4 : decode cX11_draw 4 = .ok (.getfield 147, 3) := dl_o180 kcX11_draw (by decide +kernel)
theorem dX11_draw_7 : decode cX11_draw 7 = .ok (.ifCond .eq 13, 3) := dl_o153 kcX11_draw 13 (by decide +kernel) (by decide +kernel)
theorem dX11_draw_10 : decode cX11_draw 10 = .ok (.aload_n 0, 1) := dl_o42 kcX11_draw (by decide +kernel)
theorem dX11_draw_11 : decode cX11_draw 11 = .ok (.getfield 44, 3) := dl_o180 kcX11_draw (by decide +kernel)
theorem dX11_draw_14 : decode cX11_draw 14 = .ok (.getfield 247, 3) := dl_o180 kcX11_draw (by decide +kernel)
theorem dX11_draw_17 : decode cX11_draw 17 = .ok (.ifCond .ne 6, 3) := dl_o154 kcX11_draw 6 (by decide +kernel) (by decide +kernel)
theorem dX11_draw_20 : decode cX11_draw 20 = .ok (.bipush (-3), 2) := dl_o16 kcX11_draw 253 (by decide +kernel) (by decide +kernel)
theorem dX11_draw_22 : decode cX11_draw 22 = .ok (.ireturn, 1) := dl_o172 kcX11_draw (by decide +kernel)
theorem dX11_draw_23 : decode cX11_draw 23 = .ok (.iload_n 1, 1) := dl_o27 kcX11_draw (by decide +kernel)
theorem dX11_draw_24 : decode cX11_draw 24 = .ok (.i2l, 1) := dl_o133 kcX11_draw (by decide +kernel)
theorem dX11_draw_25 : decode cX11_draw 25 = .ok (.sipush 20000, 3) := dl_o17 kcX11_draw 20000 (by decide +kernel) (by decide +kernel)
theorem dX11_draw_28 : decode cX11_draw 28 = .ok (.invokestatic 225, 3) := dl_o184 kcX11_draw (by decide +kernel)
theorem dX11_draw_31 : decode cX11_draw 31 = .ok (.ifCond .ne 14, 3) := dl_o154 kcX11_draw 14 (by decide +kernel) (by decide +kernel)
theorem dX11_draw_34 : decode cX11_draw 34 = .ok (.iload_n 2, 1) := dl_o28 kcX11_draw (by decide +kernel)
theorem dX11_draw_35 : decode cX11_draw 35 = .ok (.i2l, 1) := dl_o133 kcX11_draw (by decide +kernel)
theorem dX11_draw_36 : decode cX11_draw 36 = .ok (.sipush 20000, 3) := dl_o17 kcX11_draw 20000 (by decide +kernel) (by decide +kernel)
theorem dX11_draw_39 : decode cX11_draw 39 = .ok (.invokestatic 225, 3) := dl_o184 kcX11_draw (by decide +kernel)
theorem dX11_draw_42 : decode cX11_draw 42 = .ok (.ifCond .eq 6, 3) := dl_o153 kcX11_draw 6 (by decide +kernel) (by decide +kernel)
theorem dX11_draw_45 : decode cX11_draw 45 = .ok (.bipush (-2), 2) := dl_o16 kcX11_draw 254 (by decide +kernel) (by decide +kernel)
theorem dX11_draw_47 : decode cX11_draw 47 = .ok (.ireturn, 1) := dl_o172 kcX11_draw (by decide +kernel)
theorem dX11_draw_48 : decode cX11_draw 48 = .ok (.aload_n 0, 1) := dl_o42 kcX11_draw (by decide +kernel)
theorem dX11_draw_49 : decode cX11_draw 49 = .ok (.getfield 44, 3) := dl_o180 kcX11_draw (by decide +kernel)
theorem dX11_draw_52 : decode cX11_draw 52 = .ok (.aload_n 0, 1) := dl_o42 kcX11_draw (by decide +kernel)
theorem dX11_draw_53 : decode cX11_draw 53 = .ok (.getfield 37, 3) := dl_o180 kcX11_draw (by decide +kernel)
theorem dX11_draw_56 : decode cX11_draw 56 = .ok (.getfield 229, 3) := dl_o180 kcX11_draw (by decide +kernel)
theorem dX11_draw_59 : decode cX11_draw 59 = .ok (.iload_n 1, 1) := dl_o27 kcX11_draw (by decide +kernel)
theorem dX11_draw_60 : decode cX11_draw 60 = .ok (.iload_n 2, 1) := dl_o28 kcX11_draw (by decide +kernel)
theorem dX11_draw_61 : decode cX11_draw 61 = .ok (.invokevirtual 250, 3) := dl_o182 kcX11_draw (by decide +kernel)
theorem dX11_draw_64 : decode cX11_draw 64 = .ok (.ireturn, 1) := dl_o172 kcX11_draw (by decide +kernel)
def F_X11_draw (N : Nat) (l1 : Int32) (l2 : Int32) (V : sv_V) : Option (Int32 × sv_V) := if (V.1 30 8) = 0 then (some ((-3 : Int32), V)) else (if (V.1 143 1) = 0 then (some ((-3 : Int32), V)) else ((F_X11_isBeyond l1.toInt64 (20000 : Int32) V).bind (fun (x5, V3) => if x5 = 0 then ((F_X11_isBeyond l2.toInt64 (20000 : Int32) V3).bind (fun (x9, V7) => if x9 = 0 then ((F_X1_fillIn N l1 l2 V7).bind (fun (x13, V11) => some (x13, V11))) else (some ((-2 : Int32), V7)))) else (some ((-2 : Int32), V3)))))
set_option maxRecDepth 20000 in
theorem t_X11_draw {g : sx_G} (hG : sx_Go g) {P : Option Value → sv_V → Prop} {r : Int32} {Vr : sv_V} (hP : P (some (.int r)) Vr) {N : Nat} {l1 : Int32} {l2 : Int32} {V : sv_V} (h : F_X11_draw N l1 l2 V = some (r, Vr)) : sv_N g qX11_draw 5 0 [(0, .ref 0), (1, .int l1), (2, .int l2)] [] V P := by
  unfold F_X11_draw at h
  refine sx_aload_n (pc := 0) dX11_draw_0 sx_m0 ?_
  refine sv_getO (pc := 1) hG dX11_draw_1 f_11_37 lay_0 rfl cr_0_4 ?_
  refine sv_getZ (pc := 4) hG dX11_draw_4 f_11_147 lay_30 rfl ?_
  refine sx_if_eq (pc := 7) (tgt := 20) dX11_draw_7 (by decide) (fun c1 => ?_) (fun c1 => ?_)
  · have h := sx_pos c1 h
    refine sx_bipush (pc := 20) (v := (-3)) dX11_draw_20 (by decide) ?_
    exact sv_iret (pc := 22) dX11_draw_22 rfl h hP
  · have h := sx_neg c1 h
    refine sx_aload_n (pc := 10) dX11_draw_10 sx_m0 ?_
    refine sv_getO (pc := 11) hG dX11_draw_11 f_11_44 lay_0 rfl cr_0_5 ?_
    refine sv_getI (pc := 14) hG dX11_draw_14 f_11_247 lay_143 rfl ?_
    refine sx_if_ne (pc := 17) (tgt := 23) dX11_draw_17 (by decide) (fun c2 => ?_) (fun c2 => ?_)
    · have h := sx_neg c2 h
      refine sx_iload_n (pc := 23) dX11_draw_23 sx_m1 ?_
      refine sx_i2l (pc := 24) dX11_draw_24 ?_
      refine sx_sipush (pc := 25) (v := 20000) dX11_draw_25 (by decide) ?_
      obtain ⟨⟨x5, V3⟩, g4, h⟩ := sx_bnd h
      refine sv_cS (pc := 28) (y := qX11_isBeyond) (o := (some (.int x5))) (as := [.long l1.toInt64, .int (20000 : Int32)]) (V1 := V3) dX11_draw_28 l_X11_225 y0X11_isBeyond ysX11_isBeyond rfl (Nat.le_of_ble_eq_true rfl) (by decide) (Nat.le_of_ble_eq_true rfl) rfl rfl rfl (t_X11_isBeyond hG ⟨rfl, rfl⟩ g4) ?_
      refine sx_if_ne (pc := 31) (tgt := 45) dX11_draw_31 (by decide) (fun c6 => ?_) (fun c6 => ?_)
      · have h := sx_neg c6 h
        refine sx_bipush (pc := 45) (v := (-2)) dX11_draw_45 (by decide) ?_
        exact sv_iret (pc := 47) dX11_draw_47 rfl h hP
      · have h := sx_pos c6 h
        refine sx_iload_n (pc := 34) dX11_draw_34 sx_m2 ?_
        refine sx_i2l (pc := 35) dX11_draw_35 ?_
        refine sx_sipush (pc := 36) (v := 20000) dX11_draw_36 (by decide) ?_
        obtain ⟨⟨x9, V7⟩, g8, h⟩ := sx_bnd h
        refine sv_cS (pc := 39) (y := qX11_isBeyond) (o := (some (.int x9))) (as := [.long l2.toInt64, .int (20000 : Int32)]) (V1 := V7) dX11_draw_39 l_X11_225 y0X11_isBeyond ysX11_isBeyond rfl (Nat.le_of_ble_eq_true rfl) (by decide) (Nat.le_of_ble_eq_true rfl) rfl rfl rfl (t_X11_isBeyond hG ⟨rfl, rfl⟩ g8) ?_
        refine sx_if_eq (pc := 42) (tgt := 48) dX11_draw_42 (by decide) (fun c10 => ?_) (fun c10 => ?_)
        · have h := sx_pos c10 h
          refine sx_aload_n (pc := 48) dX11_draw_48 sx_m0 ?_
          refine sv_getO (pc := 49) hG dX11_draw_49 f_11_44 lay_0 rfl cr_0_5 ?_
          refine sx_aload_n (pc := 52) dX11_draw_52 sx_m0 ?_
          refine sv_getO (pc := 53) hG dX11_draw_53 f_11_37 lay_0 rfl cr_0_4 ?_
          refine sv_getO (pc := 56) hG dX11_draw_56 f_11_229 lay_30 rfl cr_30_6 ?_
          refine sx_iload_n (pc := 59) dX11_draw_59 sx_m1 ?_
          refine sx_iload_n (pc := 60) dX11_draw_60 sx_m2 ?_
          obtain ⟨⟨x13, V11⟩, g12, h⟩ := sx_bnd h
          refine sv_cV (pc := 61) (y := qX1_fillIn) (o := (some (.int x13))) (as := [.ref 60, .int l1, .int l2]) (V1 := V11) hG dX11_draw_61 l_X11_250 y0X1_fillIn yvX1_fillIn rfl (Nat.le_of_ble_eq_true rfl) lay_143 kr_1 (by decide) (Nat.le_of_ble_eq_true rfl) rfl rfl rfl (t_X1_fillIn hG ⟨rfl, rfl⟩ g12) ?_
          exact sv_iret (pc := 64) dX11_draw_64 rfl h hP
        · have h := sx_neg c10 h
          refine sx_bipush (pc := 45) (v := (-2)) dX11_draw_45 (by decide) ?_
          exact sv_iret (pc := 47) dX11_draw_47 rfl h hP
    · have h := sx_pos c2 h
      refine sx_bipush (pc := 20) (v := (-3)) dX11_draw_20 (by decide) ?_
      exact sv_iret (pc := 22) dX11_draw_22 rfl h hP
def ncX12_checkGlyphs : Nat := 128313531473462761681699885935356789304240075823456730260930282117930813518408858454858917826034126842742138007391810644187573342552726878155277945058763883578818170575023702374402989745514695408866569541897258357948717871168332763975738022489334045600612280550642622840502497918402178297885947677297917917639309359336563544113899331895364907477014564452978133755421014106415493533063344631992023675368281546793167812378269849544739275494345135645981717728155385274707552830721530405672129066
theorem kcX12_checkGlyphs : CK cX12_checkGlyphs ncX12_checkGlyphs 204 := ⟨by decide +kernel, by decide +kernel⟩
theorem dX12_checkGlyphs_0 : decode cX12_checkGlyphs 0 = .ok (.aload_n 0, 1) := dl_o42 kcX12_checkGlyphs (by decide +kernel)
theorem dX12_checkGlyphs_1 : decode cX12_checkGlyphs 1 = .ok (.ldc 243, 2) := dl_o18 kcX12_checkGlyphs (by decide +kernel)
theorem dX12_checkGlyphs_3 : decode cX12_checkGlyphs 3 = .ok (.invokevirtual 257, 3) := dl_o182 kcX12_checkGlyphs (by decide +kernel)
theorem dX12_checkGlyphs_6 : decode cX12_checkGlyphs 6 = .ok (.aload_n 0, 1) := dl_o42 kcX12_checkGlyphs (by decide +kernel)
theorem dX12_checkGlyphs_7 : decode cX12_checkGlyphs 7 = .ok (.getfield 260, 3) := dl_o180 kcX12_checkGlyphs (by decide +kernel)
theorem dX12_checkGlyphs_10 : decode cX12_checkGlyphs 10 = .ok (.iconst 1, 1) := dl_o4 kcX12_checkGlyphs (by decide +kernel)
theorem dX12_checkGlyphs_11 : decode cX12_checkGlyphs 11 = .ok (.iadd, 1) := dl_o96 kcX12_checkGlyphs (by decide +kernel)
theorem dX12_checkGlyphs_12 : decode cX12_checkGlyphs 12 = .ok (.aload_n 0, 1) := dl_o42 kcX12_checkGlyphs (by decide +kernel)
theorem dX12_checkGlyphs_13 : decode cX12_checkGlyphs 13 = .ok (.getfield 271, 3) := dl_o180 kcX12_checkGlyphs (by decide +kernel)
theorem dX12_checkGlyphs_16 : decode cX12_checkGlyphs 16 = .ok (.ifCond .ne 7, 3) := dl_o154 kcX12_checkGlyphs 7 (by decide +kernel) (by decide +kernel)
theorem dX12_checkGlyphs_19 : decode cX12_checkGlyphs 19 = .ok (.iconst 2, 1) := dl_o5 kcX12_checkGlyphs (by decide +kernel)
theorem dX12_checkGlyphs_20 : decode cX12_checkGlyphs 20 = .ok (.goto 4, 3) := dl_o167 kcX12_checkGlyphs 4 (by decide +kernel) (by decide +kernel)
theorem dX12_checkGlyphs_23 : decode cX12_checkGlyphs 23 = .ok (.iconst 4, 1) := dl_o7 kcX12_checkGlyphs (by decide +kernel)
theorem dX12_checkGlyphs_24 : decode cX12_checkGlyphs 24 = .ok (.imul, 1) := dl_o104 kcX12_checkGlyphs (by decide +kernel)
theorem dX12_checkGlyphs_25 : decode cX12_checkGlyphs 25 = .ok (.if_icmp .ge 6, 3) := dl_o162 kcX12_checkGlyphs 6 (by decide +kernel) (by decide +kernel)
theorem dX12_checkGlyphs_28 : decode cX12_checkGlyphs 28 = .ok (.bipush 10, 2) := dl_o16 kcX12_checkGlyphs 10 (by decide +kernel) (by decide +kernel)
theorem dX12_checkGlyphs_30 : decode cX12_checkGlyphs 30 = .ok (.ireturn, 1) := dl_o172 kcX12_checkGlyphs (by decide +kernel)
theorem dX12_checkGlyphs_31 : decode cX12_checkGlyphs 31 = .ok (.iconst 0, 1) := dl_o3 kcX12_checkGlyphs (by decide +kernel)
theorem dX12_checkGlyphs_32 : decode cX12_checkGlyphs 32 = .ok (.istore_n 1, 1) := dl_o60 kcX12_checkGlyphs (by decide +kernel)
theorem dX12_checkGlyphs_33 : decode cX12_checkGlyphs 33 = .ok (.iload_n 1, 1) := dl_o27 kcX12_checkGlyphs (by decide +kernel)
theorem dX12_checkGlyphs_34 : decode cX12_checkGlyphs 34 = .ok (.aload_n 0, 1) := dl_o42 kcX12_checkGlyphs (by decide +kernel)
theorem dX12_checkGlyphs_35 : decode cX12_checkGlyphs 35 = .ok (.getfield 260, 3) := dl_o180 kcX12_checkGlyphs (by decide +kernel)
theorem dX12_checkGlyphs_38 : decode cX12_checkGlyphs 38 = .ok (.if_icmp .ge 28, 3) := dl_o162 kcX12_checkGlyphs 28 (by decide +kernel) (by decide +kernel)
theorem dX12_checkGlyphs_41 : decode cX12_checkGlyphs 41 = .ok (.aload_n 0, 1) := dl_o42 kcX12_checkGlyphs (by decide +kernel)
theorem dX12_checkGlyphs_42 : decode cX12_checkGlyphs 42 = .ok (.iload_n 1, 1) := dl_o27 kcX12_checkGlyphs (by decide +kernel)
theorem dX12_checkGlyphs_43 : decode cX12_checkGlyphs 43 = .ok (.invokevirtual 274, 3) := dl_o182 kcX12_checkGlyphs (by decide +kernel)
theorem dX12_checkGlyphs_46 : decode cX12_checkGlyphs 46 = .ok (.aload_n 0, 1) := dl_o42 kcX12_checkGlyphs (by decide +kernel)
theorem dX12_checkGlyphs_47 : decode cX12_checkGlyphs 47 = .ok (.iload_n 1, 1) := dl_o27 kcX12_checkGlyphs (by decide +kernel)
theorem dX12_checkGlyphs_48 : decode cX12_checkGlyphs 48 = .ok (.iconst 1, 1) := dl_o4 kcX12_checkGlyphs (by decide +kernel)
theorem dX12_checkGlyphs_49 : decode cX12_checkGlyphs 49 = .ok (.iadd, 1) := dl_o96 kcX12_checkGlyphs (by decide +kernel)
theorem dX12_checkGlyphs_50 : decode cX12_checkGlyphs 50 = .ok (.invokevirtual 274, 3) := dl_o182 kcX12_checkGlyphs (by decide +kernel)
theorem dX12_checkGlyphs_53 : decode cX12_checkGlyphs 53 = .ok (.lcmp, 1) := dl_o148 kcX12_checkGlyphs (by decide +kernel)
theorem dX12_checkGlyphs_54 : decode cX12_checkGlyphs 54 = .ok (.ifCond .le 6, 3) := dl_o158 kcX12_checkGlyphs 6 (by decide +kernel) (by decide +kernel)
theorem dX12_checkGlyphs_57 : decode cX12_checkGlyphs 57 = .ok (.bipush 10, 2) := dl_o16 kcX12_checkGlyphs 10 (by decide +kernel) (by decide +kernel)
theorem dX12_checkGlyphs_59 : decode cX12_checkGlyphs 59 = .ok (.ireturn, 1) := dl_o172 kcX12_checkGlyphs (by decide +kernel)
theorem dX12_checkGlyphs_60 : decode cX12_checkGlyphs 60 = .ok (.iinc 1 1, 3) := by decide +kernel
theorem dX12_checkGlyphs_63 : decode cX12_checkGlyphs 63 = .ok (.goto (-30), 3) := dl_o167 kcX12_checkGlyphs 65506 (by decide +kernel) (by decide +kernel)
theorem dX12_checkGlyphs_66 : decode cX12_checkGlyphs 66 = .ok (.aload_n 0, 1) := dl_o42 kcX12_checkGlyphs (by decide +kernel)
theorem dX12_checkGlyphs_67 : decode cX12_checkGlyphs 67 = .ok (.aload_n 0, 1) := dl_o42 kcX12_checkGlyphs (by decide +kernel)
theorem dX12_checkGlyphs_68 : decode cX12_checkGlyphs 68 = .ok (.getfield 260, 3) := dl_o180 kcX12_checkGlyphs (by decide +kernel)
theorem dX12_checkGlyphs_71 : decode cX12_checkGlyphs 71 = .ok (.invokevirtual 274, 3) := dl_o182 kcX12_checkGlyphs (by decide +kernel)
theorem dX12_checkGlyphs_74 : decode cX12_checkGlyphs 74 = .ok (.aload_n 0, 1) := dl_o42 kcX12_checkGlyphs (by decide +kernel)
theorem dX12_checkGlyphs_75 : decode cX12_checkGlyphs 75 = .ok (.ldc 240, 2) := dl_o18 kcX12_checkGlyphs (by decide +kernel)
theorem dX12_checkGlyphs_77 : decode cX12_checkGlyphs 77 = .ok (.invokevirtual 257, 3) := dl_o182 kcX12_checkGlyphs (by decide +kernel)
theorem dX12_checkGlyphs_80 : decode cX12_checkGlyphs 80 = .ok (.i2l, 1) := dl_o133 kcX12_checkGlyphs (by decide +kernel)
theorem dX12_checkGlyphs_81 : decode cX12_checkGlyphs 81 = .ok (.lcmp, 1) := dl_o148 kcX12_checkGlyphs (by decide +kernel)
theorem dX12_checkGlyphs_82 : decode cX12_checkGlyphs 82 = .ok (.ifCond .le 6, 3) := dl_o158 kcX12_checkGlyphs 6 (by decide +kernel) (by decide +kernel)
theorem dX12_checkGlyphs_85 : decode cX12_checkGlyphs 85 = .ok (.bipush 10, 2) := dl_o16 kcX12_checkGlyphs 10 (by decide +kernel) (by decide +kernel)
theorem dX12_checkGlyphs_87 : decode cX12_checkGlyphs 87 = .ok (.ireturn, 1) := dl_o172 kcX12_checkGlyphs (by decide +kernel)
theorem dX12_checkGlyphs_88 : decode cX12_checkGlyphs 88 = .ok (.iconst 0, 1) := dl_o3 kcX12_checkGlyphs (by decide +kernel)
theorem dX12_checkGlyphs_89 : decode cX12_checkGlyphs 89 = .ok (.istore_n 1, 1) := dl_o60 kcX12_checkGlyphs (by decide +kernel)
theorem dX12_checkGlyphs_90 : decode cX12_checkGlyphs 90 = .ok (.iload_n 1, 1) := dl_o27 kcX12_checkGlyphs (by decide +kernel)
theorem dX12_checkGlyphs_91 : decode cX12_checkGlyphs 91 = .ok (.aload_n 0, 1) := dl_o42 kcX12_checkGlyphs (by decide +kernel)
theorem dX12_checkGlyphs_92 : decode cX12_checkGlyphs 92 = .ok (.getfield 260, 3) := dl_o180 kcX12_checkGlyphs (by decide +kernel)
theorem dX12_checkGlyphs_95 : decode cX12_checkGlyphs 95 = .ok (.if_icmp .ge 20, 3) := dl_o162 kcX12_checkGlyphs 20 (by decide +kernel) (by decide +kernel)
theorem dX12_checkGlyphs_98 : decode cX12_checkGlyphs 98 = .ok (.aload_n 0, 1) := dl_o42 kcX12_checkGlyphs (by decide +kernel)
theorem dX12_checkGlyphs_99 : decode cX12_checkGlyphs 99 = .ok (.iload_n 1, 1) := dl_o27 kcX12_checkGlyphs (by decide +kernel)
theorem dX12_checkGlyphs_100 : decode cX12_checkGlyphs 100 = .ok (.invokevirtual 278, 3) := dl_o182 kcX12_checkGlyphs (by decide +kernel)
theorem dX12_checkGlyphs_103 : decode cX12_checkGlyphs 103 = .ok (.ifCond .ne 6, 3) := dl_o154 kcX12_checkGlyphs 6 (by decide +kernel) (by decide +kernel)
theorem dX12_checkGlyphs_106 : decode cX12_checkGlyphs 106 = .ok (.bipush 11, 2) := dl_o16 kcX12_checkGlyphs 11 (by decide +kernel) (by decide +kernel)
theorem dX12_checkGlyphs_108 : decode cX12_checkGlyphs 108 = .ok (.ireturn, 1) := dl_o172 kcX12_checkGlyphs (by decide +kernel)
theorem dX12_checkGlyphs_109 : decode cX12_checkGlyphs 109 = .ok (.iinc 1 1, 3) := by decide +kernel
theorem dX12_checkGlyphs_112 : decode cX12_checkGlyphs 112 = .ok (.goto (-22), 3) := dl_o167 kcX12_checkGlyphs 65514 (by decide +kernel) (by decide +kernel)
theorem dX12_checkGlyphs_115 : decode cX12_checkGlyphs 115 = .ok (.aload_n 0, 1) := dl_o42 kcX12_checkGlyphs (by decide +kernel)
theorem dX12_checkGlyphs_116 : decode cX12_checkGlyphs 116 = .ok (.invokevirtual 282, 3) := dl_o182 kcX12_checkGlyphs (by decide +kernel)
theorem dX12_checkGlyphs_119 : decode cX12_checkGlyphs 119 = .ok (.ifCond .ne 6, 3) := dl_o154 kcX12_checkGlyphs 6 (by decide +kernel) (by decide +kernel)
theorem dX12_checkGlyphs_122 : decode cX12_checkGlyphs 122 = .ok (.bipush 11, 2) := dl_o16 kcX12_checkGlyphs 11 (by decide +kernel) (by decide +kernel)
theorem dX12_checkGlyphs_124 : decode cX12_checkGlyphs 124 = .ok (.ireturn, 1) := dl_o172 kcX12_checkGlyphs (by decide +kernel)
theorem dX12_checkGlyphs_125 : decode cX12_checkGlyphs 125 = .ok (.aload_n 0, 1) := dl_o42 kcX12_checkGlyphs (by decide +kernel)
theorem dX12_checkGlyphs_126 : decode cX12_checkGlyphs 126 = .ok (.invokevirtual 285, 3) := dl_o182 kcX12_checkGlyphs (by decide +kernel)
theorem dX12_checkGlyphs_129 : decode cX12_checkGlyphs 129 = .ok (.ifCond .ne 6, 3) := dl_o154 kcX12_checkGlyphs 6 (by decide +kernel) (by decide +kernel)
theorem dX12_checkGlyphs_132 : decode cX12_checkGlyphs 132 = .ok (.bipush 12, 2) := dl_o16 kcX12_checkGlyphs 12 (by decide +kernel) (by decide +kernel)
theorem dX12_checkGlyphs_134 : decode cX12_checkGlyphs 134 = .ok (.ireturn, 1) := dl_o172 kcX12_checkGlyphs (by decide +kernel)
theorem dX12_checkGlyphs_135 : decode cX12_checkGlyphs 135 = .ok (.aload_n 0, 1) := dl_o42 kcX12_checkGlyphs (by decide +kernel)
theorem dX12_checkGlyphs_136 : decode cX12_checkGlyphs 136 = .ok (.invokevirtual 288, 3) := dl_o182 kcX12_checkGlyphs (by decide +kernel)
theorem dX12_checkGlyphs_139 : decode cX12_checkGlyphs 139 = .ok (.ifCond .ne 6, 3) := dl_o154 kcX12_checkGlyphs 6 (by decide +kernel) (by decide +kernel)
theorem dX12_checkGlyphs_142 : decode cX12_checkGlyphs 142 = .ok (.bipush 13, 2) := dl_o16 kcX12_checkGlyphs 13 (by decide +kernel) (by decide +kernel)
theorem dX12_checkGlyphs_144 : decode cX12_checkGlyphs 144 = .ok (.ireturn, 1) := dl_o172 kcX12_checkGlyphs (by decide +kernel)
theorem dX12_checkGlyphs_145 : decode cX12_checkGlyphs 145 = .ok (.aload_n 0, 1) := dl_o42 kcX12_checkGlyphs (by decide +kernel)
theorem dX12_checkGlyphs_146 : decode cX12_checkGlyphs 146 = .ok (.ldc_w 291, 3) := dl_o19 kcX12_checkGlyphs (by decide +kernel)
theorem dX12_checkGlyphs_149 : decode cX12_checkGlyphs 149 = .ok (.invokevirtual 257, 3) := dl_o182 kcX12_checkGlyphs (by decide +kernel)
theorem dX12_checkGlyphs_152 : decode cX12_checkGlyphs 152 = .ok (.istore_n 1, 1) := dl_o60 kcX12_checkGlyphs (by decide +kernel)
theorem dX12_checkGlyphs_153 : decode cX12_checkGlyphs 153 = .ok (.iload_n 1, 1) := dl_o27 kcX12_checkGlyphs (by decide +kernel)
theorem dX12_checkGlyphs_154 : decode cX12_checkGlyphs 154 = .ok (.iconst 2, 1) := dl_o5 kcX12_checkGlyphs (by decide +kernel)
theorem dX12_checkGlyphs_155 : decode cX12_checkGlyphs 155 = .ok (.irem, 1) := dl_o112 kcX12_checkGlyphs (by decide +kernel)
theorem dX12_checkGlyphs_156 : decode cX12_checkGlyphs 156 = .ok (.ifCond .ne 36, 3) := dl_o154 kcX12_checkGlyphs 36 (by decide +kernel) (by decide +kernel)
theorem dX12_checkGlyphs_159 : decode cX12_checkGlyphs 159 = .ok (.iload_n 1, 1) := dl_o27 kcX12_checkGlyphs (by decide +kernel)
theorem dX12_checkGlyphs_160 : decode cX12_checkGlyphs 160 = .ok (.sipush 512, 3) := dl_o17 kcX12_checkGlyphs 512 (by decide +kernel) (by decide +kernel)
theorem dX12_checkGlyphs_163 : decode cX12_checkGlyphs 163 = .ok (.if_icmp .gt 29, 3) := dl_o163 kcX12_checkGlyphs 29 (by decide +kernel) (by decide +kernel)
theorem dX12_checkGlyphs_166 : decode cX12_checkGlyphs 166 = .ok (.aload_n 0, 1) := dl_o42 kcX12_checkGlyphs (by decide +kernel)
theorem dX12_checkGlyphs_167 : decode cX12_checkGlyphs 167 = .ok (.ldc_w 292, 3) := dl_o19 kcX12_checkGlyphs (by decide +kernel)
theorem dX12_checkGlyphs_170 : decode cX12_checkGlyphs 170 = .ok (.invokevirtual 257, 3) := dl_o182 kcX12_checkGlyphs (by decide +kernel)
theorem dX12_checkGlyphs_173 : decode cX12_checkGlyphs 173 = .ok (.sipush 2000, 3) := dl_o17 kcX12_checkGlyphs 2000 (by decide +kernel) (by decide +kernel)
theorem dX12_checkGlyphs_176 : decode cX12_checkGlyphs 176 = .ok (.if_icmp .gt 16, 3) := dl_o163 kcX12_checkGlyphs 16 (by decide +kernel) (by decide +kernel)
theorem dX12_checkGlyphs_179 : decode cX12_checkGlyphs 179 = .ok (.aload_n 0, 1) := dl_o42 kcX12_checkGlyphs (by decide +kernel)
theorem dX12_checkGlyphs_180 : decode cX12_checkGlyphs 180 = .ok (.ldc_w 293, 3) := dl_o19 kcX12_checkGlyphs (by decide +kernel)
theorem dX12_checkGlyphs_183 : decode cX12_checkGlyphs 183 = .ok (.invokevirtual 257, 3) := dl_o182 kcX12_checkGlyphs (by decide +kernel)
theorem dX12_checkGlyphs_186 : decode cX12_checkGlyphs 186 = .ok (.sipush 2000, 3) := dl_o17 kcX12_checkGlyphs 2000 (by decide +kernel) (by decide +kernel)
theorem dX12_checkGlyphs_189 : decode cX12_checkGlyphs 189 = .ok (.if_icmp .le 6, 3) := dl_o164 kcX12_checkGlyphs 6 (by decide +kernel) (by decide +kernel)
theorem dX12_checkGlyphs_192 : decode cX12_checkGlyphs 192 = .ok (.bipush 14, 2) := dl_o16 kcX12_checkGlyphs 14 (by decide +kernel) (by decide +kernel)
theorem dX12_checkGlyphs_194 : decode cX12_checkGlyphs 194 = .ok (.ireturn, 1) := dl_o172 kcX12_checkGlyphs (by decide +kernel)
theorem dX12_checkGlyphs_195 : decode cX12_checkGlyphs 195 = .ok (.aload_n 0, 1) := dl_o42 kcX12_checkGlyphs (by decide +kernel)
theorem dX12_checkGlyphs_196 : decode cX12_checkGlyphs 196 = .ok (.iload_n 1, 1) := dl_o27 kcX12_checkGlyphs (by decide +kernel)
theorem dX12_checkGlyphs_197 : decode cX12_checkGlyphs 197 = .ok (.iconst 2, 1) := dl_o5 kcX12_checkGlyphs (by decide +kernel)
theorem dX12_checkGlyphs_198 : decode cX12_checkGlyphs 198 = .ok (.idiv, 1) := dl_o108 kcX12_checkGlyphs (by decide +kernel)
theorem dX12_checkGlyphs_199 : decode cX12_checkGlyphs 199 = .ok (.putfield 294, 3) := dl_o181 kcX12_checkGlyphs (by decide +kernel)
theorem dX12_checkGlyphs_202 : decode cX12_checkGlyphs 202 = .ok (.iconst 0, 1) := dl_o3 kcX12_checkGlyphs (by decide +kernel)
theorem dX12_checkGlyphs_203 : decode cX12_checkGlyphs 203 = .ok (.ireturn, 1) := dl_o172 kcX12_checkGlyphs (by decide +kernel)
def B_X12_checkGlyphs_90 (N : Nat) (k90 : Int32 → sv_V → Option (Int32 × sv_V)) (l1 : Int32) (V : sv_V) : Option (Int32 × sv_V) := if (V.1 146 12) ≤ l1 then ((F_X12_areWithin N  V).bind (fun (x4, V2) => if x4 = 0 then (some ((11 : Int32), V2)) else ((F_X12_map N  V2).bind (fun (x8, V6) => if x8 = 0 then (some ((12 : Int32), V6)) else ((F_X12_kerns N  V6).bind (fun (x12, V10) => if x12 = 0 then (some ((13 : Int32), V10)) else ((F_X12_lengthOf N (1668707360 : Int32) V10).bind (fun (x16, V14) => if (x16 - x16 / (2 : Int32) * (2 : Int32)) = 0 then (if (512 : Int32) < x16 then (some ((14 : Int32), V14)) else ((F_X12_lengthOf N (1718642541 : Int32) V14).bind (fun (x21, V19) => if (2000 : Int32) < x21 then (some ((14 : Int32), V19)) else ((F_X12_lengthOf N (1886545264 : Int32) V19).bind (fun (x25, V23) => if x25 ≤ (2000 : Int32) then (sx_let (sv_I V23 146 25 (x16 / (2 : Int32))) (fun V27 => some ((0 : Int32), V27))) else (some ((14 : Int32), V23))))))) else (some ((14 : Int32), V14)))))))))) else ((F_X12_isGlyph N l1 V).bind (fun (x30, V28) => if x30 = 0 then (some ((11 : Int32), V28)) else (sx_let (l1 + 1) (fun x32 => k90 x32 V28))))
set_option maxRecDepth 20000 in
theorem tB_X12_checkGlyphs_90 {g : sx_G} (hG : sx_Go g) {P : Option Value → sv_V → Prop} {r : Int32} {Vr : sv_V} (hP : P (some (.int r)) Vr) {N : Nat} {k90 : Int32 → sv_V → Option (Int32 × sv_V)} (hk90 : ∀ (l1 : Int32) (V : sv_V), k90 l1 V = some (r, Vr) → sv_N g qX12_checkGlyphs 7 90 [(0, .ref 146), (1, .int l1)] [] V P) {l1 : Int32} {V : sv_V} (h : B_X12_checkGlyphs_90 N k90 l1 V = some (r, Vr)) : sv_N g qX12_checkGlyphs 7 90 [(0, .ref 146), (1, .int l1)] [] V P := by
  unfold B_X12_checkGlyphs_90 at h
  refine sx_iload_n (pc := 90) dX12_checkGlyphs_90 sx_m1 ?_
  refine sx_aload_n (pc := 91) dX12_checkGlyphs_91 sx_m0 ?_
  refine sv_getI (pc := 92) hG dX12_checkGlyphs_92 f_12_260 lay_146 rfl ?_
  refine sx_icmp_ge (pc := 95) (tgt := 115) dX12_checkGlyphs_95 (by decide) (fun c1 => ?_) (fun c1 => ?_)
  · have h := sx_pos c1 h
    refine sx_aload_n (pc := 115) dX12_checkGlyphs_115 sx_m0 ?_
    obtain ⟨⟨x4, V2⟩, g3, h⟩ := sx_bnd h
    refine sv_cV (pc := 116) (y := qX12_areWithin) (o := (some (.int x4))) (as := []) (V1 := V2) hG dX12_checkGlyphs_116 l_X12_282 y0X12_areWithin yvX12_areWithin rfl (Nat.le_of_ble_eq_true rfl) lay_146 kr_12 (by decide) (Nat.le_of_ble_eq_true rfl) rfl rfl rfl (t_X12_areWithin hG ⟨rfl, rfl⟩ g3) ?_
    refine sx_if_ne (pc := 119) (tgt := 125) dX12_checkGlyphs_119 (by decide) (fun c5 => ?_) (fun c5 => ?_)
    · have h := sx_neg c5 h
      refine sx_aload_n (pc := 125) dX12_checkGlyphs_125 sx_m0 ?_
      obtain ⟨⟨x8, V6⟩, g7, h⟩ := sx_bnd h
      refine sv_cV (pc := 126) (y := qX12_map) (o := (some (.int x8))) (as := []) (V1 := V6) hG dX12_checkGlyphs_126 l_X12_285 y0X12_map yvX12_map rfl (Nat.le_of_ble_eq_true rfl) lay_146 kr_12 (by decide) (Nat.le_of_ble_eq_true rfl) rfl rfl rfl (t_X12_map hG ⟨rfl, rfl⟩ g7) ?_
      refine sx_if_ne (pc := 129) (tgt := 135) dX12_checkGlyphs_129 (by decide) (fun c9 => ?_) (fun c9 => ?_)
      · have h := sx_neg c9 h
        refine sx_aload_n (pc := 135) dX12_checkGlyphs_135 sx_m0 ?_
        obtain ⟨⟨x12, V10⟩, g11, h⟩ := sx_bnd h
        refine sv_cV (pc := 136) (y := qX12_kerns) (o := (some (.int x12))) (as := []) (V1 := V10) hG dX12_checkGlyphs_136 l_X12_288 y0X12_kerns yvX12_kerns rfl (Nat.le_of_ble_eq_true rfl) lay_146 kr_12 (by decide) (Nat.le_of_ble_eq_true rfl) rfl rfl rfl (t_X12_kerns hG ⟨rfl, rfl⟩ g11) ?_
        refine sx_if_ne (pc := 139) (tgt := 145) dX12_checkGlyphs_139 (by decide) (fun c13 => ?_) (fun c13 => ?_)
        · have h := sx_neg c13 h
          refine sx_aload_n (pc := 145) dX12_checkGlyphs_145 sx_m0 ?_
          refine sx_ldcw (pc := 146) dX12_checkGlyphs_146 k_X12_291 ?_
          obtain ⟨⟨x16, V14⟩, g15, h⟩ := sx_bnd h
          refine sv_cV (pc := 149) (y := qX12_lengthOf) (o := (some (.int x16))) (as := [.int (1668707360 : Int32)]) (V1 := V14) hG dX12_checkGlyphs_149 l_X12_257 y0X12_lengthOf yvX12_lengthOf rfl (Nat.le_of_ble_eq_true rfl) lay_146 kr_12 (by decide) (Nat.le_of_ble_eq_true rfl) rfl rfl rfl (t_X12_lengthOf hG ⟨rfl, rfl⟩ g15) ?_
          refine sx_istore_n (pc := 152) (lo' := [(1, .int x16), (0, .ref 146)]) dX12_checkGlyphs_152 (by decide) rfl ?_
          refine sx_iload_n (pc := 153) dX12_checkGlyphs_153 sx_m0 ?_
          refine sx_iconst (pc := 154) (v := 2) dX12_checkGlyphs_154 (by decide) ?_
          refine sx_irem (pc := 155) dX12_checkGlyphs_155 (by decide) ?_
          refine sx_if_ne (pc := 156) (tgt := 192) dX12_checkGlyphs_156 (by decide) (fun c17 => ?_) (fun c17 => ?_)
          · have h := sx_neg c17 h
            refine sx_bipush (pc := 192) (v := 14) dX12_checkGlyphs_192 (by decide) ?_
            exact sv_iret (pc := 194) dX12_checkGlyphs_194 rfl h hP
          · have h := sx_pos c17 h
            refine sx_iload_n (pc := 159) dX12_checkGlyphs_159 sx_m0 ?_
            refine sx_sipush (pc := 160) (v := 512) dX12_checkGlyphs_160 (by decide) ?_
            refine sx_icmp_gt (pc := 163) (tgt := 192) dX12_checkGlyphs_163 (by decide) (fun c18 => ?_) (fun c18 => ?_)
            · have h := sx_pos c18 h
              refine sx_bipush (pc := 192) (v := 14) dX12_checkGlyphs_192 (by decide) ?_
              exact sv_iret (pc := 194) dX12_checkGlyphs_194 rfl h hP
            · have h := sx_neg c18 h
              refine sx_aload_n (pc := 166) dX12_checkGlyphs_166 sx_m1 ?_
              refine sx_ldcw (pc := 167) dX12_checkGlyphs_167 k_X12_292 ?_
              obtain ⟨⟨x21, V19⟩, g20, h⟩ := sx_bnd h
              refine sv_cV (pc := 170) (y := qX12_lengthOf) (o := (some (.int x21))) (as := [.int (1718642541 : Int32)]) (V1 := V19) hG dX12_checkGlyphs_170 l_X12_257 y0X12_lengthOf yvX12_lengthOf rfl (Nat.le_of_ble_eq_true rfl) lay_146 kr_12 (by decide) (Nat.le_of_ble_eq_true rfl) rfl rfl rfl (t_X12_lengthOf hG ⟨rfl, rfl⟩ g20) ?_
              refine sx_sipush (pc := 173) (v := 2000) dX12_checkGlyphs_173 (by decide) ?_
              refine sx_icmp_gt (pc := 176) (tgt := 192) dX12_checkGlyphs_176 (by decide) (fun c22 => ?_) (fun c22 => ?_)
              · have h := sx_pos c22 h
                refine sx_bipush (pc := 192) (v := 14) dX12_checkGlyphs_192 (by decide) ?_
                exact sv_iret (pc := 194) dX12_checkGlyphs_194 rfl h hP
              · have h := sx_neg c22 h
                refine sx_aload_n (pc := 179) dX12_checkGlyphs_179 sx_m1 ?_
                refine sx_ldcw (pc := 180) dX12_checkGlyphs_180 k_X12_293 ?_
                obtain ⟨⟨x25, V23⟩, g24, h⟩ := sx_bnd h
                refine sv_cV (pc := 183) (y := qX12_lengthOf) (o := (some (.int x25))) (as := [.int (1886545264 : Int32)]) (V1 := V23) hG dX12_checkGlyphs_183 l_X12_257 y0X12_lengthOf yvX12_lengthOf rfl (Nat.le_of_ble_eq_true rfl) lay_146 kr_12 (by decide) (Nat.le_of_ble_eq_true rfl) rfl rfl rfl (t_X12_lengthOf hG ⟨rfl, rfl⟩ g24) ?_
                refine sx_sipush (pc := 186) (v := 2000) dX12_checkGlyphs_186 (by decide) ?_
                refine sx_icmp_le (pc := 189) (tgt := 195) dX12_checkGlyphs_189 (by decide) (fun c26 => ?_) (fun c26 => ?_)
                · have h := sx_pos c26 h
                  refine sx_aload_n (pc := 195) dX12_checkGlyphs_195 sx_m1 ?_
                  refine sx_iload_n (pc := 196) dX12_checkGlyphs_196 sx_m0 ?_
                  refine sx_iconst (pc := 197) (v := 2) dX12_checkGlyphs_197 (by decide) ?_
                  refine sx_idiv (pc := 198) dX12_checkGlyphs_198 (by decide) ?_
                  obtain ⟨V27, hV27⟩ : ∃ z : sv_V, z = sv_I V23 146 25 (x16 / (2 : Int32)) := ⟨_, rfl⟩
                  have h := sx_letE hV27 h
                  refine sv_putI (pc := 199) hG dX12_checkGlyphs_199 f_12_294 lay_146 rfl hV27 ?_
                  refine sx_iconst (pc := 202) (v := 0) dX12_checkGlyphs_202 (by decide) ?_
                  exact sv_iret (pc := 203) dX12_checkGlyphs_203 rfl h hP
                · have h := sx_neg c26 h
                  refine sx_bipush (pc := 192) (v := 14) dX12_checkGlyphs_192 (by decide) ?_
                  exact sv_iret (pc := 194) dX12_checkGlyphs_194 rfl h hP
        · have h := sx_pos c13 h
          refine sx_bipush (pc := 142) (v := 13) dX12_checkGlyphs_142 (by decide) ?_
          exact sv_iret (pc := 144) dX12_checkGlyphs_144 rfl h hP
      · have h := sx_pos c9 h
        refine sx_bipush (pc := 132) (v := 12) dX12_checkGlyphs_132 (by decide) ?_
        exact sv_iret (pc := 134) dX12_checkGlyphs_134 rfl h hP
    · have h := sx_pos c5 h
      refine sx_bipush (pc := 122) (v := 11) dX12_checkGlyphs_122 (by decide) ?_
      exact sv_iret (pc := 124) dX12_checkGlyphs_124 rfl h hP
  · have h := sx_neg c1 h
    refine sx_aload_n (pc := 98) dX12_checkGlyphs_98 sx_m0 ?_
    refine sx_iload_n (pc := 99) dX12_checkGlyphs_99 sx_m1 ?_
    obtain ⟨⟨x30, V28⟩, g29, h⟩ := sx_bnd h
    refine sv_cV (pc := 100) (y := qX12_isGlyph) (o := (some (.int x30))) (as := [.int l1]) (V1 := V28) hG dX12_checkGlyphs_100 l_X12_278 y0X12_isGlyph yvX12_isGlyph rfl (Nat.le_of_ble_eq_true rfl) lay_146 kr_12 (by decide) (Nat.le_of_ble_eq_true rfl) rfl rfl rfl (t_X12_isGlyph hG ⟨rfl, rfl⟩ g29) ?_
    refine sx_if_ne (pc := 103) (tgt := 109) dX12_checkGlyphs_103 (by decide) (fun c31 => ?_) (fun c31 => ?_)
    · have h := sx_neg c31 h
      obtain ⟨x32, hx32⟩ : ∃ z : Int32, z = l1 + 1 := ⟨_, rfl⟩
      have h := sx_letE hx32 h
      refine sx_iinc (pc := 109) (v := x32) (lo' := [(1, .int x32), (0, .ref 146)]) dX12_checkGlyphs_109 sx_m1 (by rw [hx32]; rfl) (by decide) rfl ?_
      refine sx_goto (pc := 112) (tgt := 90) dX12_checkGlyphs_112 (by decide) ?_
      refine sx_wk (sx_s1 sx_m1 (sx_s1 sx_m0 sx_s0)) ?_
      exact hk90 _ _ h
    · have h := sx_pos c31 h
      refine sx_bipush (pc := 106) (v := 11) dX12_checkGlyphs_106 (by decide) ?_
      exact sv_iret (pc := 108) dX12_checkGlyphs_108 rfl h hP
theorem tL_X12_checkGlyphs_90 {g : sx_G} (hG : sx_Go g) {P : Option Value → sv_V → Prop} {r : Int32} {Vr : sv_V} (hP : P (some (.int r)) Vr) {N : Nat}   : ∀ (n : Nat) (l1 : Int32) (V : sv_V), sx_lp2 (B_X12_checkGlyphs_90 N ) n l1 V = some (r, Vr) → sv_N g qX12_checkGlyphs 7 90 [(0, .ref 146), (1, .int l1)] [] V P :=
  sx_lp2_ind (fun k0 ih _ V h => tB_X12_checkGlyphs_90 hG hP ih h)
def B_X12_checkGlyphs_33 (N : Nat) (k33 : Int32 → sv_V → Option (Int32 × sv_V)) (l1 : Int32) (V : sv_V) : Option (Int32 × sv_V) := if (V.1 146 12) ≤ l1 then ((F_X12_loca N (V.1 146 12) V).bind (fun (x36, V34) => (F_X12_lengthOf N (1735162214 : Int32) V34).bind (fun (x39, V37) => if (lg_cmp x36 x39.toInt64) ≤ 0 then (sx_lp2 (B_X12_checkGlyphs_90 N ) N (0 : Int32) V37) else (some ((10 : Int32), V37))))) else ((F_X12_loca N l1 V).bind (fun (x43, V41) => (F_X12_loca N (l1 + (1 : Int32)) V41).bind (fun (x46, V44) => if (lg_cmp x43 x46) ≤ 0 then (sx_let (l1 + 1) (fun x48 => k33 x48 V44)) else (some ((10 : Int32), V44)))))
set_option maxRecDepth 20000 in
theorem tB_X12_checkGlyphs_33 {g : sx_G} (hG : sx_Go g) {P : Option Value → sv_V → Prop} {r : Int32} {Vr : sv_V} (hP : P (some (.int r)) Vr) {N : Nat} {k33 : Int32 → sv_V → Option (Int32 × sv_V)} (hk33 : ∀ (l1 : Int32) (V : sv_V), k33 l1 V = some (r, Vr) → sv_N g qX12_checkGlyphs 7 33 [(0, .ref 146), (1, .int l1)] [] V P) {l1 : Int32} {V : sv_V} (h : B_X12_checkGlyphs_33 N k33 l1 V = some (r, Vr)) : sv_N g qX12_checkGlyphs 7 33 [(0, .ref 146), (1, .int l1)] [] V P := by
  unfold B_X12_checkGlyphs_33 at h
  refine sx_iload_n (pc := 33) dX12_checkGlyphs_33 sx_m1 ?_
  refine sx_aload_n (pc := 34) dX12_checkGlyphs_34 sx_m0 ?_
  refine sv_getI (pc := 35) hG dX12_checkGlyphs_35 f_12_260 lay_146 rfl ?_
  refine sx_icmp_ge (pc := 38) (tgt := 66) dX12_checkGlyphs_38 (by decide) (fun c33 => ?_) (fun c33 => ?_)
  · have h := sx_pos c33 h
    refine sx_aload_n (pc := 66) dX12_checkGlyphs_66 sx_m0 ?_
    refine sx_aload_n (pc := 67) dX12_checkGlyphs_67 sx_m0 ?_
    refine sv_getI (pc := 68) hG dX12_checkGlyphs_68 f_12_260 lay_146 rfl ?_
    obtain ⟨⟨x36, V34⟩, g35, h⟩ := sx_bnd h
    refine sv_cV (pc := 71) (y := qX12_loca) (o := (some (.long x36))) (as := [.int (V.1 146 12)]) (V1 := V34) hG dX12_checkGlyphs_71 l_X12_274 y0X12_loca yvX12_loca rfl (Nat.le_of_ble_eq_true rfl) lay_146 kr_12 (by decide) (Nat.le_of_ble_eq_true rfl) rfl rfl rfl (t_X12_loca hG ⟨rfl, rfl⟩ g35) ?_
    refine sx_aload_n (pc := 74) dX12_checkGlyphs_74 sx_m0 ?_
    refine sx_ldc (pc := 75) dX12_checkGlyphs_75 k_X12_240 ?_
    obtain ⟨⟨x39, V37⟩, g38, h⟩ := sx_bnd h
    refine sv_cV (pc := 77) (y := qX12_lengthOf) (o := (some (.int x39))) (as := [.int (1735162214 : Int32)]) (V1 := V37) hG dX12_checkGlyphs_77 l_X12_257 y0X12_lengthOf yvX12_lengthOf rfl (Nat.le_of_ble_eq_true rfl) lay_146 kr_12 (by decide) (Nat.le_of_ble_eq_true rfl) rfl rfl rfl (t_X12_lengthOf hG ⟨rfl, rfl⟩ g38) ?_
    refine sx_i2l (pc := 80) dX12_checkGlyphs_80 ?_
    refine sx_lcmp (pc := 81) dX12_checkGlyphs_81 ?_
    refine sx_if_le (pc := 82) (tgt := 88) dX12_checkGlyphs_82 (by decide) (fun c40 => ?_) (fun c40 => ?_)
    · have h := sx_pos c40 h
      refine sx_iconst (pc := 88) (v := 0) dX12_checkGlyphs_88 (by decide) ?_
      refine sx_istore_n (pc := 89) (lo' := [(1, .int (0 : Int32)), (0, .ref 146)]) dX12_checkGlyphs_89 (by decide) rfl ?_
      refine sx_wk (sx_s1 sx_m1 (sx_s1 sx_m0 sx_s0)) ?_
      exact tL_X12_checkGlyphs_90 hG hP  N _ _ h
    · have h := sx_neg c40 h
      refine sx_bipush (pc := 85) (v := 10) dX12_checkGlyphs_85 (by decide) ?_
      exact sv_iret (pc := 87) dX12_checkGlyphs_87 rfl h hP
  · have h := sx_neg c33 h
    refine sx_aload_n (pc := 41) dX12_checkGlyphs_41 sx_m0 ?_
    refine sx_iload_n (pc := 42) dX12_checkGlyphs_42 sx_m1 ?_
    obtain ⟨⟨x43, V41⟩, g42, h⟩ := sx_bnd h
    refine sv_cV (pc := 43) (y := qX12_loca) (o := (some (.long x43))) (as := [.int l1]) (V1 := V41) hG dX12_checkGlyphs_43 l_X12_274 y0X12_loca yvX12_loca rfl (Nat.le_of_ble_eq_true rfl) lay_146 kr_12 (by decide) (Nat.le_of_ble_eq_true rfl) rfl rfl rfl (t_X12_loca hG ⟨rfl, rfl⟩ g42) ?_
    refine sx_aload_n (pc := 46) dX12_checkGlyphs_46 sx_m0 ?_
    refine sx_iload_n (pc := 47) dX12_checkGlyphs_47 sx_m1 ?_
    refine sx_iconst (pc := 48) (v := 1) dX12_checkGlyphs_48 (by decide) ?_
    refine sx_iadd (pc := 49) dX12_checkGlyphs_49 ?_
    obtain ⟨⟨x46, V44⟩, g45, h⟩ := sx_bnd h
    refine sv_cV (pc := 50) (y := qX12_loca) (o := (some (.long x46))) (as := [.int (l1 + (1 : Int32))]) (V1 := V44) hG dX12_checkGlyphs_50 l_X12_274 y0X12_loca yvX12_loca rfl (Nat.le_of_ble_eq_true rfl) lay_146 kr_12 (by decide) (Nat.le_of_ble_eq_true rfl) rfl rfl rfl (t_X12_loca hG ⟨rfl, rfl⟩ g45) ?_
    refine sx_lcmp (pc := 53) dX12_checkGlyphs_53 ?_
    refine sx_if_le (pc := 54) (tgt := 60) dX12_checkGlyphs_54 (by decide) (fun c47 => ?_) (fun c47 => ?_)
    · have h := sx_pos c47 h
      obtain ⟨x48, hx48⟩ : ∃ z : Int32, z = l1 + 1 := ⟨_, rfl⟩
      have h := sx_letE hx48 h
      refine sx_iinc (pc := 60) (v := x48) (lo' := [(1, .int x48), (0, .ref 146)]) dX12_checkGlyphs_60 sx_m1 (by rw [hx48]; rfl) (by decide) rfl ?_
      refine sx_goto (pc := 63) (tgt := 33) dX12_checkGlyphs_63 (by decide) ?_
      refine sx_wk (sx_s1 sx_m1 (sx_s1 sx_m0 sx_s0)) ?_
      exact hk33 _ _ h
    · have h := sx_neg c47 h
      refine sx_bipush (pc := 57) (v := 10) dX12_checkGlyphs_57 (by decide) ?_
      exact sv_iret (pc := 59) dX12_checkGlyphs_59 rfl h hP
theorem tL_X12_checkGlyphs_33 {g : sx_G} (hG : sx_Go g) {P : Option Value → sv_V → Prop} {r : Int32} {Vr : sv_V} (hP : P (some (.int r)) Vr) {N : Nat}   : ∀ (n : Nat) (l1 : Int32) (V : sv_V), sx_lp2 (B_X12_checkGlyphs_33 N ) n l1 V = some (r, Vr) → sv_N g qX12_checkGlyphs 7 33 [(0, .ref 146), (1, .int l1)] [] V P :=
  sx_lp2_ind (fun k0 ih _ V h => tB_X12_checkGlyphs_33 hG hP ih h)
def B_X12_checkGlyphs_24 (N : Nat)  (s0 : Int32) (s1 : Int32) (s2 : Int32) (V : sv_V) : Option (Int32 × sv_V) := if (s1 * s2) ≤ s0 then (sx_lp2 (B_X12_checkGlyphs_33 N ) N (0 : Int32) V) else (some ((10 : Int32), V))
set_option maxRecDepth 20000 in
theorem tB_X12_checkGlyphs_24 {g : sx_G} (hG : sx_Go g) {P : Option Value → sv_V → Prop} {r : Int32} {Vr : sv_V} (hP : P (some (.int r)) Vr) {N : Nat}   {s0 : Int32} {s1 : Int32} {s2 : Int32} {V : sv_V} (h : B_X12_checkGlyphs_24 N  s0 s1 s2 V = some (r, Vr)) : sv_N g qX12_checkGlyphs 7 24 [(0, .ref 146)] [.int s2, .int s1, .int s0] V P := by
  unfold B_X12_checkGlyphs_24 at h
  refine sx_imul (pc := 24) dX12_checkGlyphs_24 ?_
  refine sx_icmp_ge (pc := 25) (tgt := 31) dX12_checkGlyphs_25 (by decide) (fun c49 => ?_) (fun c49 => ?_)
  · have h := sx_pos c49 h
    refine sx_iconst (pc := 31) (v := 0) dX12_checkGlyphs_31 (by decide) ?_
    refine sx_istore_n (pc := 32) (lo' := [(1, .int (0 : Int32)), (0, .ref 146)]) dX12_checkGlyphs_32 (by decide) rfl ?_
    refine sx_wk (sx_s1 sx_m1 (sx_s1 sx_m0 sx_s0)) ?_
    exact tL_X12_checkGlyphs_33 hG hP  N _ _ h
  · have h := sx_neg c49 h
    refine sx_bipush (pc := 28) (v := 10) dX12_checkGlyphs_28 (by decide) ?_
    exact sv_iret (pc := 30) dX12_checkGlyphs_30 rfl h hP
def F_X12_checkGlyphs (N : Nat)  (V : sv_V) : Option (Int32 × sv_V) := (F_X12_lengthOf N (1819239265 : Int32) V).bind (fun (x52, V50) => if (V50.1 146 11) = 0 then (B_X12_checkGlyphs_24 N  x52 ((V50.1 146 12) + (1 : Int32)) (2 : Int32) V50) else (B_X12_checkGlyphs_24 N  x52 ((V50.1 146 12) + (1 : Int32)) (4 : Int32) V50))
set_option maxRecDepth 20000 in
theorem t_X12_checkGlyphs {g : sx_G} (hG : sx_Go g) {P : Option Value → sv_V → Prop} {r : Int32} {Vr : sv_V} (hP : P (some (.int r)) Vr) {N : Nat}  {V : sv_V} (h : F_X12_checkGlyphs N  V = some (r, Vr)) : sv_N g qX12_checkGlyphs 7 0 [(0, .ref 146)] [] V P := by
  unfold F_X12_checkGlyphs at h
  refine sx_aload_n (pc := 0) dX12_checkGlyphs_0 sx_m0 ?_
  refine sx_ldc (pc := 1) dX12_checkGlyphs_1 k_X12_243 ?_
  obtain ⟨⟨x52, V50⟩, g51, h⟩ := sx_bnd h
  refine sv_cV (pc := 3) (y := qX12_lengthOf) (o := (some (.int x52))) (as := [.int (1819239265 : Int32)]) (V1 := V50) hG dX12_checkGlyphs_3 l_X12_257 y0X12_lengthOf yvX12_lengthOf rfl (Nat.le_of_ble_eq_true rfl) lay_146 kr_12 (by decide) (Nat.le_of_ble_eq_true rfl) rfl rfl rfl (t_X12_lengthOf hG ⟨rfl, rfl⟩ g51) ?_
  refine sx_aload_n (pc := 6) dX12_checkGlyphs_6 sx_m0 ?_
  refine sv_getI (pc := 7) hG dX12_checkGlyphs_7 f_12_260 lay_146 rfl ?_
  refine sx_iconst (pc := 10) (v := 1) dX12_checkGlyphs_10 (by decide) ?_
  refine sx_iadd (pc := 11) dX12_checkGlyphs_11 ?_
  refine sx_aload_n (pc := 12) dX12_checkGlyphs_12 sx_m0 ?_
  refine sv_getI (pc := 13) hG dX12_checkGlyphs_13 f_12_271 lay_146 rfl ?_
  refine sx_if_ne (pc := 16) (tgt := 23) dX12_checkGlyphs_16 (by decide) (fun c53 => ?_) (fun c53 => ?_)
  · have h := sx_neg c53 h
    refine sx_iconst (pc := 23) (v := 4) dX12_checkGlyphs_23 (by decide) ?_
    refine sx_wk (sx_s1 sx_m0 sx_s0) ?_
    exact tB_X12_checkGlyphs_24 hG hP  h
  · have h := sx_pos c53 h
    refine sx_iconst (pc := 19) (v := 2) dX12_checkGlyphs_19 (by decide) ?_
    refine sx_goto (pc := 20) (tgt := 24) dX12_checkGlyphs_20 (by decide) ?_
    refine sx_wk (sx_s1 sx_m0 sx_s0) ?_
    exact tB_X12_checkGlyphs_24 hG hP  h
def ncX12_low : Nat := 1394188962472846058227659217764174577048037430590545235322345699277366897006255804719097006812599968450073222732936665674327548400679526125731205418290469036669690132493000172819789863668760230029534600116804153580596860262602283719203023431497888699910463764254129364334686133272079443690827733510376384613381191632400726571456929699755151498339665691336851478796550755687972808227727833986766723565431775199476717112873278230346434202718423237553285758640944115038000516839557522529083188776861468009266340223616360878240405247714777208771543815947461342998972007006906633756701168647770059907961422457360780153041272012383898608952751771679186742471979396593235852619157384348396771298025052682687609687323032075054712497497820109228996005767082318246718245420376505496393023457209731171966329174725542201730347715418717668888683941861251260581681168592595697834045098379202195067134608995200408076968951138709852903249594592966057644615468207473849337011351253182488702563233610547474003285418667378172287316795983432241212130170686630618059221216384227670952435669114874019234798643791900172613733746411158009965277088036420362133088268526518590122578049783721421501944481138480825308927654318184584110435429127976950058389270699298494707035932043983127812202819417231976197279080697548074759229207498381424994447486384940729212011645698716563708773610052625478291207054781742637147586582204808225205537570131096551306027778200435508997414329464971617425851622777653626775226890646003213999231119256084384074199788573878256846114294666299280287680095461937869215446860636267841472185403852026804358402090706642647570611339023116143356125956409056429552327557354143795876349119423522495888860697856149637834903606144460215943419645953974811305353039358189733995634814780902390690611786979761547989270134054898632920634333230240750236641819
theorem kcX12_low : CK cX12_low ncX12_low 765 := ⟨by decide +kernel, by decide +kernel⟩
theorem dX12_low_0 : decode cX12_low 0 = .ok (.iload_n 1, 1) := dl_o27 kcX12_low (by decide +kernel)
theorem dX12_low_1 : decode cX12_low 1 = .ok (.tableswitch 758 0 31 #[143, 143, 172, 172, 203, 203, 234, 234, 234, 234, 384, 384, 445, 464, 483, 758, 500, 521, 542, 563, 563, 563, 563, 569, 606, 618, 631, 652, 672, 690, 711, 732], 143) := by decide +kernel
theorem dX12_low_144 : decode cX12_low 144 = .ok (.aload_n 0, 1) := dl_o42 kcX12_low (by decide +kernel)
theorem dX12_low_145 : decode cX12_low 145 = .ok (.iload_n 1, 1) := dl_o27 kcX12_low (by decide +kernel)
theorem dX12_low_146 : decode cX12_low 146 = .ok (.ifCond .ne 7, 3) := dl_o154 kcX12_low 7 (by decide +kernel) (by decide +kernel)
theorem dX12_low_149 : decode cX12_low 149 = .ok (.iconst 0, 1) := dl_o3 kcX12_low (by decide +kernel)
theorem dX12_low_150 : decode cX12_low 150 = .ok (.goto 6, 3) := dl_o167 kcX12_low 6 (by decide +kernel) (by decide +kernel)
theorem dX12_low_153 : decode cX12_low 153 = .ok (.sipush 16384, 3) := dl_o17 kcX12_low 16384 (by decide +kernel) (by decide +kernel)
theorem dX12_low_156 : decode cX12_low 156 = .ok (.iload_n 1, 1) := dl_o27 kcX12_low (by decide +kernel)
theorem dX12_low_157 : decode cX12_low 157 = .ok (.ifCond .ne 9, 3) := dl_o154 kcX12_low 9 (by decide +kernel) (by decide +kernel)
theorem dX12_low_160 : decode cX12_low 160 = .ok (.sipush 16384, 3) := dl_o17 kcX12_low 16384 (by decide +kernel) (by decide +kernel)
theorem dX12_low_163 : decode cX12_low 163 = .ok (.goto 4, 3) := dl_o167 kcX12_low 4 (by decide +kernel) (by decide +kernel)
theorem dX12_low_166 : decode cX12_low 166 = .ok (.iconst 0, 1) := dl_o3 kcX12_low (by decide +kernel)
theorem dX12_low_167 : decode cX12_low 167 = .ok (.iconst 1, 1) := dl_o4 kcX12_low (by decide +kernel)
theorem dX12_low_168 : decode cX12_low 168 = .ok (.iconst 1, 1) := dl_o4 kcX12_low (by decide +kernel)
theorem dX12_low_169 : decode cX12_low 169 = .ok (.invokevirtual 572, 3) := dl_o182 kcX12_low (by decide +kernel)
theorem dX12_low_172 : decode cX12_low 172 = .ok (.return_, 1) := dl_o177 kcX12_low (by decide +kernel)
theorem dX12_low_173 : decode cX12_low 173 = .ok (.aload_n 0, 1) := dl_o42 kcX12_low (by decide +kernel)
theorem dX12_low_174 : decode cX12_low 174 = .ok (.iload_n 1, 1) := dl_o27 kcX12_low (by decide +kernel)
theorem dX12_low_175 : decode cX12_low 175 = .ok (.iconst 2, 1) := dl_o5 kcX12_low (by decide +kernel)
theorem dX12_low_176 : decode cX12_low 176 = .ok (.if_icmp .ne 7, 3) := dl_o160 kcX12_low 7 (by decide +kernel) (by decide +kernel)
theorem dX12_low_179 : decode cX12_low 179 = .ok (.iconst 0, 1) := dl_o3 kcX12_low (by decide +kernel)
theorem dX12_low_180 : decode cX12_low 180 = .ok (.goto 6, 3) := dl_o167 kcX12_low 6 (by decide +kernel) (by decide +kernel)
theorem dX12_low_183 : decode cX12_low 183 = .ok (.sipush 16384, 3) := dl_o17 kcX12_low 16384 (by decide +kernel) (by decide +kernel)
theorem dX12_low_186 : decode cX12_low 186 = .ok (.iload_n 1, 1) := dl_o27 kcX12_low (by decide +kernel)
theorem dX12_low_187 : decode cX12_low 187 = .ok (.iconst 2, 1) := dl_o5 kcX12_low (by decide +kernel)
theorem dX12_low_188 : decode cX12_low 188 = .ok (.if_icmp .ne 9, 3) := dl_o160 kcX12_low 9 (by decide +kernel) (by decide +kernel)
theorem dX12_low_191 : decode cX12_low 191 = .ok (.sipush 16384, 3) := dl_o17 kcX12_low 16384 (by decide +kernel) (by decide +kernel)
theorem dX12_low_194 : decode cX12_low 194 = .ok (.goto 4, 3) := dl_o167 kcX12_low 4 (by decide +kernel) (by decide +kernel)
theorem dX12_low_197 : decode cX12_low 197 = .ok (.iconst 0, 1) := dl_o3 kcX12_low (by decide +kernel)
theorem dX12_low_198 : decode cX12_low 198 = .ok (.iconst 0, 1) := dl_o3 kcX12_low (by decide +kernel)
theorem dX12_low_199 : decode cX12_low 199 = .ok (.iconst 1, 1) := dl_o4 kcX12_low (by decide +kernel)
theorem dX12_low_200 : decode cX12_low 200 = .ok (.invokevirtual 572, 3) := dl_o182 kcX12_low (by decide +kernel)
theorem dX12_low_203 : decode cX12_low 203 = .ok (.return_, 1) := dl_o177 kcX12_low (by decide +kernel)
theorem dX12_low_204 : decode cX12_low 204 = .ok (.aload_n 0, 1) := dl_o42 kcX12_low (by decide +kernel)
theorem dX12_low_205 : decode cX12_low 205 = .ok (.iload_n 1, 1) := dl_o27 kcX12_low (by decide +kernel)
theorem dX12_low_206 : decode cX12_low 206 = .ok (.iconst 4, 1) := dl_o7 kcX12_low (by decide +kernel)
theorem dX12_low_207 : decode cX12_low 207 = .ok (.if_icmp .ne 7, 3) := dl_o160 kcX12_low 7 (by decide +kernel) (by decide +kernel)
theorem dX12_low_210 : decode cX12_low 210 = .ok (.iconst 0, 1) := dl_o3 kcX12_low (by decide +kernel)
theorem dX12_low_211 : decode cX12_low 211 = .ok (.goto 6, 3) := dl_o167 kcX12_low 6 (by decide +kernel) (by decide +kernel)
theorem dX12_low_214 : decode cX12_low 214 = .ok (.sipush 16384, 3) := dl_o17 kcX12_low 16384 (by decide +kernel) (by decide +kernel)
theorem dX12_low_217 : decode cX12_low 217 = .ok (.iload_n 1, 1) := dl_o27 kcX12_low (by decide +kernel)
theorem dX12_low_218 : decode cX12_low 218 = .ok (.iconst 4, 1) := dl_o7 kcX12_low (by decide +kernel)
theorem dX12_low_219 : decode cX12_low 219 = .ok (.if_icmp .ne 9, 3) := dl_o160 kcX12_low 9 (by decide +kernel) (by decide +kernel)
theorem dX12_low_222 : decode cX12_low 222 = .ok (.sipush 16384, 3) := dl_o17 kcX12_low 16384 (by decide +kernel) (by decide +kernel)
theorem dX12_low_225 : decode cX12_low 225 = .ok (.goto 4, 3) := dl_o167 kcX12_low 4 (by decide +kernel) (by decide +kernel)
theorem dX12_low_228 : decode cX12_low 228 = .ok (.iconst 0, 1) := dl_o3 kcX12_low (by decide +kernel)
theorem dX12_low_229 : decode cX12_low 229 = .ok (.iconst 1, 1) := dl_o4 kcX12_low (by decide +kernel)
theorem dX12_low_230 : decode cX12_low 230 = .ok (.iconst 0, 1) := dl_o3 kcX12_low (by decide +kernel)
theorem dX12_low_231 : decode cX12_low 231 = .ok (.invokevirtual 572, 3) := dl_o182 kcX12_low (by decide +kernel)
theorem dX12_low_234 : decode cX12_low 234 = .ok (.return_, 1) := dl_o177 kcX12_low (by decide +kernel)
theorem dX12_low_235 : decode cX12_low 235 = .ok (.aload_n 0, 1) := dl_o42 kcX12_low (by decide +kernel)
theorem dX12_low_236 : decode cX12_low 236 = .ok (.iconst 2, 1) := dl_o5 kcX12_low (by decide +kernel)
theorem dX12_low_237 : decode cX12_low 237 = .ok (.invokevirtual 576, 3) := dl_o182 kcX12_low (by decide +kernel)
theorem dX12_low_240 : decode cX12_low 240 = .ok (.ifCond .eq 144, 3) := dl_o153 kcX12_low 144 (by decide +kernel) (by decide +kernel)
theorem dX12_low_243 : decode cX12_low 243 = .ok (.aload_n 0, 1) := dl_o42 kcX12_low (by decide +kernel)
theorem dX12_low_244 : decode cX12_low 244 = .ok (.aload_n 0, 1) := dl_o42 kcX12_low (by decide +kernel)
theorem dX12_low_245 : decode cX12_low 245 = .ok (.getfield 466, 3) := dl_o180 kcX12_low (by decide +kernel)
theorem dX12_low_248 : decode cX12_low 248 = .ok (.aload_n 0, 1) := dl_o42 kcX12_low (by decide +kernel)
theorem dX12_low_249 : decode cX12_low 249 = .ok (.invokevirtual 579, 3) := dl_o182 kcX12_low (by decide +kernel)
theorem dX12_low_252 : decode cX12_low 252 = .ok (.invokevirtual 582, 3) := dl_o182 kcX12_low (by decide +kernel)
theorem dX12_low_255 : decode cX12_low 255 = .ok (.istore_n 2, 1) := dl_o61 kcX12_low (by decide +kernel)
theorem dX12_low_256 : decode cX12_low 256 = .ok (.aload_n 0, 1) := dl_o42 kcX12_low (by decide +kernel)
theorem dX12_low_257 : decode cX12_low 257 = .ok (.aload_n 0, 1) := dl_o42 kcX12_low (by decide +kernel)
theorem dX12_low_258 : decode cX12_low 258 = .ok (.getfield 463, 3) := dl_o180 kcX12_low (by decide +kernel)
theorem dX12_low_261 : decode cX12_low 261 = .ok (.aload_n 0, 1) := dl_o42 kcX12_low (by decide +kernel)
theorem dX12_low_262 : decode cX12_low 262 = .ok (.invokevirtual 579, 3) := dl_o182 kcX12_low (by decide +kernel)
theorem dX12_low_265 : decode cX12_low 265 = .ok (.invokevirtual 582, 3) := dl_o182 kcX12_low (by decide +kernel)
theorem dX12_low_268 : decode cX12_low 268 = .ok (.istore_n 3, 1) := dl_o62 kcX12_low (by decide +kernel)
theorem dX12_low_269 : decode cX12_low 269 = .ok (.aload_n 0, 1) := dl_o42 kcX12_low (by decide +kernel)
theorem dX12_low_270 : decode cX12_low 270 = .ok (.getfield 409, 3) := dl_o180 kcX12_low (by decide +kernel)
theorem dX12_low_273 : decode cX12_low 273 = .ok (.ifCond .ne 111, 3) := dl_o154 kcX12_low 111 (by decide +kernel) (by decide +kernel)
theorem dX12_low_276 : decode cX12_low 276 = .ok (.aload_n 0, 1) := dl_o42 kcX12_low (by decide +kernel)
theorem dX12_low_277 : decode cX12_low 277 = .ok (.aload_n 0, 1) := dl_o42 kcX12_low (by decide +kernel)
theorem dX12_low_278 : decode cX12_low 278 = .ok (.getfield 76, 3) := dl_o180 kcX12_low (by decide +kernel)
theorem dX12_low_281 : decode cX12_low 281 = .ok (.iload_n 3, 1) := dl_o29 kcX12_low (by decide +kernel)
theorem dX12_low_282 : decode cX12_low 282 = .ok (.iaload, 1) := dl_o46 kcX12_low (by decide +kernel)
theorem dX12_low_283 : decode cX12_low 283 = .ok (.aload_n 0, 1) := dl_o42 kcX12_low (by decide +kernel)
theorem dX12_low_284 : decode cX12_low 284 = .ok (.getfield 76, 3) := dl_o180 kcX12_low (by decide +kernel)
theorem dX12_low_287 : decode cX12_low 287 = .ok (.iload_n 2, 1) := dl_o28 kcX12_low (by decide +kernel)
theorem dX12_low_288 : decode cX12_low 288 = .ok (.iaload, 1) := dl_o46 kcX12_low (by decide +kernel)
theorem dX12_low_289 : decode cX12_low 289 = .ok (.isub, 1) := dl_o100 kcX12_low (by decide +kernel)
theorem dX12_low_290 : decode cX12_low 290 = .ok (.aload_n 0, 1) := dl_o42 kcX12_low (by decide +kernel)
theorem dX12_low_291 : decode cX12_low 291 = .ok (.getfield 79, 3) := dl_o180 kcX12_low (by decide +kernel)
theorem dX12_low_294 : decode cX12_low 294 = .ok (.iload_n 3, 1) := dl_o29 kcX12_low (by decide +kernel)
theorem dX12_low_295 : decode cX12_low 295 = .ok (.iaload, 1) := dl_o46 kcX12_low (by decide +kernel)
theorem dX12_low_296 : decode cX12_low 296 = .ok (.aload_n 0, 1) := dl_o42 kcX12_low (by decide +kernel)
theorem dX12_low_297 : decode cX12_low 297 = .ok (.getfield 79, 3) := dl_o180 kcX12_low (by decide +kernel)
theorem dX12_low_300 : decode cX12_low 300 = .ok (.iload_n 2, 1) := dl_o28 kcX12_low (by decide +kernel)
theorem dX12_low_301 : decode cX12_low 301 = .ok (.iaload, 1) := dl_o46 kcX12_low (by decide +kernel)
theorem dX12_low_302 : decode cX12_low 302 = .ok (.isub, 1) := dl_o100 kcX12_low (by decide +kernel)
theorem dX12_low_303 : decode cX12_low 303 = .ok (.invokevirtual 586, 3) := dl_o182 kcX12_low (by decide +kernel)
theorem dX12_low_306 : decode cX12_low 306 = .ok (.iload_n 1, 1) := dl_o27 kcX12_low (by decide +kernel)
theorem dX12_low_307 : decode cX12_low 307 = .ok (.bipush 7, 2) := dl_o16 kcX12_low 7 (by decide +kernel) (by decide +kernel)
theorem dX12_low_309 : decode cX12_low 309 = .ok (.if_icmp .eq 9, 3) := dl_o159 kcX12_low 9 (by decide +kernel) (by decide +kernel)
theorem dX12_low_312 : decode cX12_low 312 = .ok (.iload_n 1, 1) := dl_o27 kcX12_low (by decide +kernel)
theorem dX12_low_313 : decode cX12_low 313 = .ok (.bipush 9, 2) := dl_o16 kcX12_low 9 (by decide +kernel) (by decide +kernel)
theorem dX12_low_315 : decode cX12_low 315 = .ok (.if_icmp .ne 7, 3) := dl_o160 kcX12_low 7 (by decide +kernel) (by decide +kernel)
theorem dX12_low_318 : decode cX12_low 318 = .ok (.iconst 1, 1) := dl_o4 kcX12_low (by decide +kernel)
theorem dX12_low_319 : decode cX12_low 319 = .ok (.goto 4, 3) := dl_o167 kcX12_low 4 (by decide +kernel) (by decide +kernel)
theorem dX12_low_322 : decode cX12_low 322 = .ok (.iconst 0, 1) := dl_o3 kcX12_low (by decide +kernel)
theorem dX12_low_323 : decode cX12_low 323 = .ok (.istore 4, 2) := dl_o54 kcX12_low (by decide +kernel)
theorem dX12_low_325 : decode cX12_low 325 = .ok (.aload_n 0, 1) := dl_o42 kcX12_low (by decide +kernel)
theorem dX12_low_326 : decode cX12_low 326 = .ok (.iload 4, 2) := dl_o21 kcX12_low (by decide +kernel)
theorem dX12_low_328 : decode cX12_low 328 = .ok (.ifCond .eq 11, 3) := dl_o153 kcX12_low 11 (by decide +kernel) (by decide +kernel)
theorem dX12_low_331 : decode cX12_low 331 = .ok (.aload_n 0, 1) := dl_o42 kcX12_low (by decide +kernel)
theorem dX12_low_332 : decode cX12_low 332 = .ok (.getfield 536, 3) := dl_o180 kcX12_low (by decide +kernel)
theorem dX12_low_335 : decode cX12_low 335 = .ok (.ineg, 1) := dl_o116 kcX12_low (by decide +kernel)
theorem dX12_low_336 : decode cX12_low 336 = .ok (.goto 7, 3) := dl_o167 kcX12_low 7 (by decide +kernel) (by decide +kernel)
theorem dX12_low_339 : decode cX12_low 339 = .ok (.aload_n 0, 1) := dl_o42 kcX12_low (by decide +kernel)
theorem dX12_low_340 : decode cX12_low 340 = .ok (.getfield 533, 3) := dl_o180 kcX12_low (by decide +kernel)
theorem dX12_low_343 : decode cX12_low 343 = .ok (.iload 4, 2) := dl_o21 kcX12_low (by decide +kernel)
theorem dX12_low_345 : decode cX12_low 345 = .ok (.ifCond .eq 10, 3) := dl_o153 kcX12_low 10 (by decide +kernel) (by decide +kernel)
theorem dX12_low_348 : decode cX12_low 348 = .ok (.aload_n 0, 1) := dl_o42 kcX12_low (by decide +kernel)
theorem dX12_low_349 : decode cX12_low 349 = .ok (.getfield 533, 3) := dl_o180 kcX12_low (by decide +kernel)
theorem dX12_low_352 : decode cX12_low 352 = .ok (.goto 7, 3) := dl_o167 kcX12_low 7 (by decide +kernel) (by decide +kernel)
theorem dX12_low_355 : decode cX12_low 355 = .ok (.aload_n 0, 1) := dl_o42 kcX12_low (by decide +kernel)
theorem dX12_low_356 : decode cX12_low 356 = .ok (.getfield 536, 3) := dl_o180 kcX12_low (by decide +kernel)
theorem dX12_low_359 : decode cX12_low 359 = .ok (.iload_n 1, 1) := dl_o27 kcX12_low (by decide +kernel)
theorem dX12_low_360 : decode cX12_low 360 = .ok (.bipush 7, 2) := dl_o16 kcX12_low 7 (by decide +kernel) (by decide +kernel)
theorem dX12_low_362 : decode cX12_low 362 = .ok (.if_icmp .le 7, 3) := dl_o164 kcX12_low 7 (by decide +kernel) (by decide +kernel)
theorem dX12_low_365 : decode cX12_low 365 = .ok (.iconst 1, 1) := dl_o4 kcX12_low (by decide +kernel)
theorem dX12_low_366 : decode cX12_low 366 = .ok (.goto 4, 3) := dl_o167 kcX12_low 4 (by decide +kernel) (by decide +kernel)
theorem dX12_low_369 : decode cX12_low 369 = .ok (.iconst 0, 1) := dl_o3 kcX12_low (by decide +kernel)
theorem dX12_low_370 : decode cX12_low 370 = .ok (.iload_n 1, 1) := dl_o27 kcX12_low (by decide +kernel)
theorem dX12_low_371 : decode cX12_low 371 = .ok (.bipush 8, 2) := dl_o16 kcX12_low 8 (by decide +kernel) (by decide +kernel)
theorem dX12_low_373 : decode cX12_low 373 = .ok (.if_icmp .ge 7, 3) := dl_o162 kcX12_low 7 (by decide +kernel) (by decide +kernel)
theorem dX12_low_376 : decode cX12_low 376 = .ok (.iconst 1, 1) := dl_o4 kcX12_low (by decide +kernel)
theorem dX12_low_377 : decode cX12_low 377 = .ok (.goto 4, 3) := dl_o167 kcX12_low 4 (by decide +kernel) (by decide +kernel)
theorem dX12_low_380 : decode cX12_low 380 = .ok (.iconst 0, 1) := dl_o3 kcX12_low (by decide +kernel)
theorem dX12_low_381 : decode cX12_low 381 = .ok (.invokevirtual 572, 3) := dl_o182 kcX12_low (by decide +kernel)
theorem dX12_low_384 : decode cX12_low 384 = .ok (.return_, 1) := dl_o177 kcX12_low (by decide +kernel)
theorem dX12_low_385 : decode cX12_low 385 = .ok (.aload_n 0, 1) := dl_o42 kcX12_low (by decide +kernel)
theorem dX12_low_386 : decode cX12_low 386 = .ok (.iconst 2, 1) := dl_o5 kcX12_low (by decide +kernel)
theorem dX12_low_387 : decode cX12_low 387 = .ok (.invokevirtual 576, 3) := dl_o182 kcX12_low (by decide +kernel)
theorem dX12_low_390 : decode cX12_low 390 = .ok (.ifCond .eq 55, 3) := dl_o153 kcX12_low 55 (by decide +kernel) (by decide +kernel)
theorem dX12_low_393 : decode cX12_low 393 = .ok (.aload_n 0, 1) := dl_o42 kcX12_low (by decide +kernel)
theorem dX12_low_394 : decode cX12_low 394 = .ok (.invokevirtual 579, 3) := dl_o182 kcX12_low (by decide +kernel)
theorem dX12_low_397 : decode cX12_low 397 = .ok (.i2s, 1) := dl_o147 kcX12_low (by decide +kernel)
theorem dX12_low_398 : decode cX12_low 398 = .ok (.istore_n 2, 1) := dl_o61 kcX12_low (by decide +kernel)
theorem dX12_low_399 : decode cX12_low 399 = .ok (.aload_n 0, 1) := dl_o42 kcX12_low (by decide +kernel)
theorem dX12_low_400 : decode cX12_low 400 = .ok (.invokevirtual 579, 3) := dl_o182 kcX12_low (by decide +kernel)
theorem dX12_low_403 : decode cX12_low 403 = .ok (.i2s, 1) := dl_o147 kcX12_low (by decide +kernel)
theorem dX12_low_404 : decode cX12_low 404 = .ok (.istore_n 3, 1) := dl_o62 kcX12_low (by decide +kernel)
theorem dX12_low_405 : decode cX12_low 405 = .ok (.aload_n 0, 1) := dl_o42 kcX12_low (by decide +kernel)
theorem dX12_low_406 : decode cX12_low 406 = .ok (.iload_n 3, 1) := dl_o29 kcX12_low (by decide +kernel)
theorem dX12_low_407 : decode cX12_low 407 = .ok (.iload_n 2, 1) := dl_o28 kcX12_low (by decide +kernel)
theorem dX12_low_408 : decode cX12_low 408 = .ok (.invokevirtual 586, 3) := dl_o182 kcX12_low (by decide +kernel)
theorem dX12_low_411 : decode cX12_low 411 = .ok (.aload_n 0, 1) := dl_o42 kcX12_low (by decide +kernel)
theorem dX12_low_412 : decode cX12_low 412 = .ok (.aload_n 0, 1) := dl_o42 kcX12_low (by decide +kernel)
theorem dX12_low_413 : decode cX12_low 413 = .ok (.getfield 533, 3) := dl_o180 kcX12_low (by decide +kernel)
theorem dX12_low_416 : decode cX12_low 416 = .ok (.aload_n 0, 1) := dl_o42 kcX12_low (by decide +kernel)
theorem dX12_low_417 : decode cX12_low 417 = .ok (.getfield 536, 3) := dl_o180 kcX12_low (by decide +kernel)
theorem dX12_low_420 : decode cX12_low 420 = .ok (.iload_n 1, 1) := dl_o27 kcX12_low (by decide +kernel)
theorem dX12_low_421 : decode cX12_low 421 = .ok (.bipush 11, 2) := dl_o16 kcX12_low 11 (by decide +kernel) (by decide +kernel)
theorem dX12_low_423 : decode cX12_low 423 = .ok (.if_icmp .ne 7, 3) := dl_o160 kcX12_low 7 (by decide +kernel) (by decide +kernel)
theorem dX12_low_426 : decode cX12_low 426 = .ok (.iconst 1, 1) := dl_o4 kcX12_low (by decide +kernel)
theorem dX12_low_427 : decode cX12_low 427 = .ok (.goto 4, 3) := dl_o167 kcX12_low 4 (by decide +kernel) (by decide +kernel)
theorem dX12_low_430 : decode cX12_low 430 = .ok (.iconst 0, 1) := dl_o3 kcX12_low (by decide +kernel)
theorem dX12_low_431 : decode cX12_low 431 = .ok (.iload_n 1, 1) := dl_o27 kcX12_low (by decide +kernel)
theorem dX12_low_432 : decode cX12_low 432 = .ok (.bipush 10, 2) := dl_o16 kcX12_low 10 (by decide +kernel) (by decide +kernel)
theorem dX12_low_434 : decode cX12_low 434 = .ok (.if_icmp .ne 7, 3) := dl_o160 kcX12_low 7 (by decide +kernel) (by decide +kernel)
theorem dX12_low_437 : decode cX12_low 437 = .ok (.iconst 1, 1) := dl_o4 kcX12_low (by decide +kernel)
theorem dX12_low_438 : decode cX12_low 438 = .ok (.goto 4, 3) := dl_o167 kcX12_low 4 (by decide +kernel) (by decide +kernel)
theorem dX12_low_441 : decode cX12_low 441 = .ok (.iconst 0, 1) := dl_o3 kcX12_low (by decide +kernel)
theorem dX12_low_442 : decode cX12_low 442 = .ok (.invokevirtual 572, 3) := dl_o182 kcX12_low (by decide +kernel)
theorem dX12_low_445 : decode cX12_low 445 = .ok (.return_, 1) := dl_o177 kcX12_low (by decide +kernel)
theorem dX12_low_446 : decode cX12_low 446 = .ok (.aload_n 0, 1) := dl_o42 kcX12_low (by decide +kernel)
theorem dX12_low_447 : decode cX12_low 447 = .ok (.aload_n 0, 1) := dl_o42 kcX12_low (by decide +kernel)
theorem dX12_low_448 : decode cX12_low 448 = .ok (.getfield 439, 3) := dl_o180 kcX12_low (by decide +kernel)
theorem dX12_low_451 : decode cX12_low 451 = .ok (.i2l, 1) := dl_o133 kcX12_low (by decide +kernel)
theorem dX12_low_452 : decode cX12_low 452 = .ok (.invokevirtual 564, 3) := dl_o182 kcX12_low (by decide +kernel)
theorem dX12_low_455 : decode cX12_low 455 = .ok (.aload_n 0, 1) := dl_o42 kcX12_low (by decide +kernel)
theorem dX12_low_456 : decode cX12_low 456 = .ok (.aload_n 0, 1) := dl_o42 kcX12_low (by decide +kernel)
theorem dX12_low_457 : decode cX12_low 457 = .ok (.getfield 442, 3) := dl_o180 kcX12_low (by decide +kernel)
theorem dX12_low_460 : decode cX12_low 460 = .ok (.i2l, 1) := dl_o133 kcX12_low (by decide +kernel)
theorem dX12_low_461 : decode cX12_low 461 = .ok (.invokevirtual 564, 3) := dl_o182 kcX12_low (by decide +kernel)
theorem dX12_low_464 : decode cX12_low 464 = .ok (.return_, 1) := dl_o177 kcX12_low (by decide +kernel)
theorem dX12_low_465 : decode cX12_low 465 = .ok (.aload_n 0, 1) := dl_o42 kcX12_low (by decide +kernel)
theorem dX12_low_466 : decode cX12_low 466 = .ok (.aload_n 0, 1) := dl_o42 kcX12_low (by decide +kernel)
theorem dX12_low_467 : decode cX12_low 467 = .ok (.getfield 433, 3) := dl_o180 kcX12_low (by decide +kernel)
theorem dX12_low_470 : decode cX12_low 470 = .ok (.i2l, 1) := dl_o133 kcX12_low (by decide +kernel)
theorem dX12_low_471 : decode cX12_low 471 = .ok (.invokevirtual 564, 3) := dl_o182 kcX12_low (by decide +kernel)
theorem dX12_low_474 : decode cX12_low 474 = .ok (.aload_n 0, 1) := dl_o42 kcX12_low (by decide +kernel)
theorem dX12_low_475 : decode cX12_low 475 = .ok (.aload_n 0, 1) := dl_o42 kcX12_low (by decide +kernel)
theorem dX12_low_476 : decode cX12_low 476 = .ok (.getfield 436, 3) := dl_o180 kcX12_low (by decide +kernel)
theorem dX12_low_479 : decode cX12_low 479 = .ok (.i2l, 1) := dl_o133 kcX12_low (by decide +kernel)
theorem dX12_low_480 : decode cX12_low 480 = .ok (.invokevirtual 564, 3) := dl_o182 kcX12_low (by decide +kernel)
theorem dX12_low_483 : decode cX12_low 483 = .ok (.return_, 1) := dl_o177 kcX12_low (by decide +kernel)
theorem dX12_low_484 : decode cX12_low 484 = .ok (.aload_n 0, 1) := dl_o42 kcX12_low (by decide +kernel)
theorem dX12_low_485 : decode cX12_low 485 = .ok (.aload_n 0, 1) := dl_o42 kcX12_low (by decide +kernel)
theorem dX12_low_486 : decode cX12_low 486 = .ok (.getfield 439, 3) := dl_o180 kcX12_low (by decide +kernel)
theorem dX12_low_489 : decode cX12_low 489 = .ok (.putfield 433, 3) := dl_o181 kcX12_low (by decide +kernel)
theorem dX12_low_492 : decode cX12_low 492 = .ok (.aload_n 0, 1) := dl_o42 kcX12_low (by decide +kernel)
theorem dX12_low_493 : decode cX12_low 493 = .ok (.aload_n 0, 1) := dl_o42 kcX12_low (by decide +kernel)
theorem dX12_low_494 : decode cX12_low 494 = .ok (.getfield 442, 3) := dl_o180 kcX12_low (by decide +kernel)
theorem dX12_low_497 : decode cX12_low 497 = .ok (.putfield 436, 3) := dl_o181 kcX12_low (by decide +kernel)
theorem dX12_low_500 : decode cX12_low 500 = .ok (.return_, 1) := dl_o177 kcX12_low (by decide +kernel)
theorem dX12_low_501 : decode cX12_low 501 = .ok (.aload_n 0, 1) := dl_o42 kcX12_low (by decide +kernel)
theorem dX12_low_502 : decode cX12_low 502 = .ok (.aload_n 0, 1) := dl_o42 kcX12_low (by decide +kernel)
theorem dX12_low_503 : decode cX12_low 503 = .ok (.iconst 1, 1) := dl_o4 kcX12_low (by decide +kernel)
theorem dX12_low_504 : decode cX12_low 504 = .ok (.invokevirtual 576, 3) := dl_o182 kcX12_low (by decide +kernel)
theorem dX12_low_507 : decode cX12_low 507 = .ok (.ifCond .eq 10, 3) := dl_o153 kcX12_low 10 (by decide +kernel) (by decide +kernel)
theorem dX12_low_510 : decode cX12_low 510 = .ok (.aload_n 0, 1) := dl_o42 kcX12_low (by decide +kernel)
theorem dX12_low_511 : decode cX12_low 511 = .ok (.invokevirtual 579, 3) := dl_o182 kcX12_low (by decide +kernel)
theorem dX12_low_514 : decode cX12_low 514 = .ok (.goto 4, 3) := dl_o167 kcX12_low 4 (by decide +kernel) (by decide +kernel)
theorem dX12_low_517 : decode cX12_low 517 = .ok (.iconst 0, 1) := dl_o3 kcX12_low (by decide +kernel)
theorem dX12_low_518 : decode cX12_low 518 = .ok (.putfield 451, 3) := dl_o181 kcX12_low (by decide +kernel)
theorem dX12_low_521 : decode cX12_low 521 = .ok (.return_, 1) := dl_o177 kcX12_low (by decide +kernel)
theorem dX12_low_522 : decode cX12_low 522 = .ok (.aload_n 0, 1) := dl_o42 kcX12_low (by decide +kernel)
theorem dX12_low_523 : decode cX12_low 523 = .ok (.aload_n 0, 1) := dl_o42 kcX12_low (by decide +kernel)
theorem dX12_low_524 : decode cX12_low 524 = .ok (.iconst 1, 1) := dl_o4 kcX12_low (by decide +kernel)
theorem dX12_low_525 : decode cX12_low 525 = .ok (.invokevirtual 576, 3) := dl_o182 kcX12_low (by decide +kernel)
theorem dX12_low_528 : decode cX12_low 528 = .ok (.ifCond .eq 10, 3) := dl_o153 kcX12_low 10 (by decide +kernel) (by decide +kernel)
theorem dX12_low_531 : decode cX12_low 531 = .ok (.aload_n 0, 1) := dl_o42 kcX12_low (by decide +kernel)
theorem dX12_low_532 : decode cX12_low 532 = .ok (.invokevirtual 579, 3) := dl_o182 kcX12_low (by decide +kernel)
theorem dX12_low_535 : decode cX12_low 535 = .ok (.goto 4, 3) := dl_o167 kcX12_low 4 (by decide +kernel) (by decide +kernel)
theorem dX12_low_538 : decode cX12_low 538 = .ok (.iconst 0, 1) := dl_o3 kcX12_low (by decide +kernel)
theorem dX12_low_539 : decode cX12_low 539 = .ok (.putfield 454, 3) := dl_o181 kcX12_low (by decide +kernel)
theorem dX12_low_542 : decode cX12_low 542 = .ok (.return_, 1) := dl_o177 kcX12_low (by decide +kernel)
theorem dX12_low_543 : decode cX12_low 543 = .ok (.aload_n 0, 1) := dl_o42 kcX12_low (by decide +kernel)
theorem dX12_low_544 : decode cX12_low 544 = .ok (.aload_n 0, 1) := dl_o42 kcX12_low (by decide +kernel)
theorem dX12_low_545 : decode cX12_low 545 = .ok (.iconst 1, 1) := dl_o4 kcX12_low (by decide +kernel)
theorem dX12_low_546 : decode cX12_low 546 = .ok (.invokevirtual 576, 3) := dl_o182 kcX12_low (by decide +kernel)
theorem dX12_low_549 : decode cX12_low 549 = .ok (.ifCond .eq 10, 3) := dl_o153 kcX12_low 10 (by decide +kernel) (by decide +kernel)
theorem dX12_low_552 : decode cX12_low 552 = .ok (.aload_n 0, 1) := dl_o42 kcX12_low (by decide +kernel)
theorem dX12_low_553 : decode cX12_low 553 = .ok (.invokevirtual 579, 3) := dl_o182 kcX12_low (by decide +kernel)
theorem dX12_low_556 : decode cX12_low 556 = .ok (.goto 4, 3) := dl_o167 kcX12_low 4 (by decide +kernel) (by decide +kernel)
theorem dX12_low_559 : decode cX12_low 559 = .ok (.iconst 0, 1) := dl_o3 kcX12_low (by decide +kernel)
theorem dX12_low_560 : decode cX12_low 560 = .ok (.putfield 457, 3) := dl_o181 kcX12_low (by decide +kernel)
theorem dX12_low_563 : decode cX12_low 563 = .ok (.return_, 1) := dl_o177 kcX12_low (by decide +kernel)
theorem dX12_low_564 : decode cX12_low 564 = .ok (.aload_n 0, 1) := dl_o42 kcX12_low (by decide +kernel)
theorem dX12_low_565 : decode cX12_low 565 = .ok (.iload_n 1, 1) := dl_o27 kcX12_low (by decide +kernel)
theorem dX12_low_566 : decode cX12_low 566 = .ok (.invokevirtual 590, 3) := dl_o182 kcX12_low (by decide +kernel)
theorem dX12_low_569 : decode cX12_low 569 = .ok (.return_, 1) := dl_o177 kcX12_low (by decide +kernel)
theorem dX12_low_570 : decode cX12_low 570 = .ok (.aload_n 0, 1) := dl_o42 kcX12_low (by decide +kernel)
theorem dX12_low_571 : decode cX12_low 571 = .ok (.iconst 1, 1) := dl_o4 kcX12_low (by decide +kernel)
theorem dX12_low_572 : decode cX12_low 572 = .ok (.invokevirtual 576, 3) := dl_o182 kcX12_low (by decide +kernel)
theorem dX12_low_575 : decode cX12_low 575 = .ok (.ifCond .eq 31, 3) := dl_o153 kcX12_low 31 (by decide +kernel) (by decide +kernel)
theorem dX12_low_578 : decode cX12_low 578 = .ok (.aload_n 0, 1) := dl_o42 kcX12_low (by decide +kernel)
theorem dX12_low_579 : decode cX12_low 579 = .ok (.invokevirtual 579, 3) := dl_o182 kcX12_low (by decide +kernel)
theorem dX12_low_582 : decode cX12_low 582 = .ok (.istore_n 2, 1) := dl_o61 kcX12_low (by decide +kernel)
theorem dX12_low_583 : decode cX12_low 583 = .ok (.iload_n 2, 1) := dl_o28 kcX12_low (by decide +kernel)
theorem dX12_low_584 : decode cX12_low 584 = .ok (.i2l, 1) := dl_o133 kcX12_low (by decide +kernel)
theorem dX12_low_585 : decode cX12_low 585 = .ok (.lconst 1, 1) := dl_o10 kcX12_low (by decide +kernel)
theorem dX12_low_586 : decode cX12_low 586 = .ok (.ldc2_w 593, 3) := dl_o20 kcX12_low (by decide +kernel)
theorem dX12_low_589 : decode cX12_low 589 = .ok (.invokestatic 263, 3) := dl_o184 kcX12_low (by decide +kernel)
theorem dX12_low_592 : decode cX12_low 592 = .ok (.ifCond .ne 9, 3) := dl_o154 kcX12_low 9 (by decide +kernel) (by decide +kernel)
theorem dX12_low_595 : decode cX12_low 595 = .ok (.aload_n 0, 1) := dl_o42 kcX12_low (by decide +kernel)
theorem dX12_low_596 : decode cX12_low 596 = .ok (.bipush 11, 2) := dl_o16 kcX12_low 11 (by decide +kernel) (by decide +kernel)
theorem dX12_low_598 : decode cX12_low 598 = .ok (.invokevirtual 421, 3) := dl_o182 kcX12_low (by decide +kernel)
theorem dX12_low_601 : decode cX12_low 601 = .ok (.aload_n 0, 1) := dl_o42 kcX12_low (by decide +kernel)
theorem dX12_low_602 : decode cX12_low 602 = .ok (.iload_n 2, 1) := dl_o28 kcX12_low (by decide +kernel)
theorem dX12_low_603 : decode cX12_low 603 = .ok (.putfield 469, 3) := dl_o181 kcX12_low (by decide +kernel)
theorem dX12_low_606 : decode cX12_low 606 = .ok (.return_, 1) := dl_o177 kcX12_low (by decide +kernel)
theorem dX12_low_607 : decode cX12_low 607 = .ok (.aload_n 0, 1) := dl_o42 kcX12_low (by decide +kernel)
theorem dX12_low_608 : decode cX12_low 608 = .ok (.bipush 24, 2) := dl_o16 kcX12_low 24 (by decide +kernel) (by decide +kernel)
theorem dX12_low_610 : decode cX12_low 610 = .ok (.bipush 64, 2) := dl_o16 kcX12_low 64 (by decide +kernel) (by decide +kernel)
theorem dX12_low_612 : decode cX12_low 612 = .ok (.iconst 0, 1) := dl_o3 kcX12_low (by decide +kernel)
theorem dX12_low_613 : decode cX12_low 613 = .ok (.bipush 32, 2) := dl_o16 kcX12_low 32 (by decide +kernel) (by decide +kernel)
theorem dX12_low_615 : decode cX12_low 615 = .ok (.invokevirtual 472, 3) := dl_o182 kcX12_low (by decide +kernel)
theorem dX12_low_618 : decode cX12_low 618 = .ok (.return_, 1) := dl_o177 kcX12_low (by decide +kernel)
theorem dX12_low_619 : decode cX12_low 619 = .ok (.aload_n 0, 1) := dl_o42 kcX12_low (by decide +kernel)
theorem dX12_low_620 : decode cX12_low 620 = .ok (.bipush 25, 2) := dl_o16 kcX12_low 25 (by decide +kernel) (by decide +kernel)
theorem dX12_low_622 : decode cX12_low 622 = .ok (.bipush 64, 2) := dl_o16 kcX12_low 64 (by decide +kernel) (by decide +kernel)
theorem dX12_low_624 : decode cX12_low 624 = .ok (.bipush 32, 2) := dl_o16 kcX12_low 32 (by decide +kernel) (by decide +kernel)
theorem dX12_low_626 : decode cX12_low 626 = .ok (.bipush 32, 2) := dl_o16 kcX12_low 32 (by decide +kernel) (by decide +kernel)
theorem dX12_low_628 : decode cX12_low 628 = .ok (.invokevirtual 472, 3) := dl_o182 kcX12_low (by decide +kernel)
theorem dX12_low_631 : decode cX12_low 631 = .ok (.return_, 1) := dl_o177 kcX12_low (by decide +kernel)
theorem dX12_low_632 : decode cX12_low 632 = .ok (.aload_n 0, 1) := dl_o42 kcX12_low (by decide +kernel)
theorem dX12_low_633 : decode cX12_low 633 = .ok (.aload_n 0, 1) := dl_o42 kcX12_low (by decide +kernel)
theorem dX12_low_634 : decode cX12_low 634 = .ok (.iconst 1, 1) := dl_o4 kcX12_low (by decide +kernel)
theorem dX12_low_635 : decode cX12_low 635 = .ok (.invokevirtual 576, 3) := dl_o182 kcX12_low (by decide +kernel)
theorem dX12_low_638 : decode cX12_low 638 = .ok (.ifCond .eq 10, 3) := dl_o153 kcX12_low 10 (by decide +kernel) (by decide +kernel)
theorem dX12_low_641 : decode cX12_low 641 = .ok (.aload_n 0, 1) := dl_o42 kcX12_low (by decide +kernel)
theorem dX12_low_642 : decode cX12_low 642 = .ok (.invokevirtual 579, 3) := dl_o182 kcX12_low (by decide +kernel)
theorem dX12_low_645 : decode cX12_low 645 = .ok (.goto 4, 3) := dl_o167 kcX12_low 4 (by decide +kernel) (by decide +kernel)
theorem dX12_low_648 : decode cX12_low 648 = .ok (.iconst 0, 1) := dl_o3 kcX12_low (by decide +kernel)
theorem dX12_low_649 : decode cX12_low 649 = .ok (.putfield 595, 3) := dl_o181 kcX12_low (by decide +kernel)
theorem dX12_low_652 : decode cX12_low 652 = .ok (.return_, 1) := dl_o177 kcX12_low (by decide +kernel)
theorem dX12_low_653 : decode cX12_low 653 = .ok (.aload_n 0, 1) := dl_o42 kcX12_low (by decide +kernel)
theorem dX12_low_654 : decode cX12_low 654 = .ok (.aload_n 0, 1) := dl_o42 kcX12_low (by decide +kernel)
theorem dX12_low_655 : decode cX12_low 655 = .ok (.getfield 496, 3) := dl_o180 kcX12_low (by decide +kernel)
theorem dX12_low_658 : decode cX12_low 658 = .ok (.bipush 89, 2) := dl_o16 kcX12_low 89 (by decide +kernel) (by decide +kernel)
theorem dX12_low_660 : decode cX12_low 660 = .ok (.bipush 89, 2) := dl_o16 kcX12_low 89 (by decide +kernel) (by decide +kernel)
theorem dX12_low_662 : decode cX12_low 662 = .ok (.iconst 1, 1) := dl_o4 kcX12_low (by decide +kernel)
theorem dX12_low_663 : decode cX12_low 663 = .ok (.invokevirtual 598, 3) := dl_o182 kcX12_low (by decide +kernel)
theorem dX12_low_666 : decode cX12_low 666 = .ok (.istore_n 2, 1) := dl_o61 kcX12_low (by decide +kernel)
theorem dX12_low_667 : decode cX12_low 667 = .ok (.aload_n 0, 1) := dl_o42 kcX12_low (by decide +kernel)
theorem dX12_low_668 : decode cX12_low 668 = .ok (.iload_n 2, 1) := dl_o28 kcX12_low (by decide +kernel)
theorem dX12_low_669 : decode cX12_low 669 = .ok (.putfield 496, 3) := dl_o181 kcX12_low (by decide +kernel)
theorem dX12_low_672 : decode cX12_low 672 = .ok (.return_, 1) := dl_o177 kcX12_low (by decide +kernel)
theorem dX12_low_673 : decode cX12_low 673 = .ok (.aload_n 0, 1) := dl_o42 kcX12_low (by decide +kernel)
theorem dX12_low_674 : decode cX12_low 674 = .ok (.iconst 1, 1) := dl_o4 kcX12_low (by decide +kernel)
theorem dX12_low_675 : decode cX12_low 675 = .ok (.invokevirtual 576, 3) := dl_o182 kcX12_low (by decide +kernel)
theorem dX12_low_678 : decode cX12_low 678 = .ok (.ifCond .eq 12, 3) := dl_o153 kcX12_low 12 (by decide +kernel) (by decide +kernel)
theorem dX12_low_681 : decode cX12_low 681 = .ok (.aload_n 0, 1) := dl_o42 kcX12_low (by decide +kernel)
theorem dX12_low_682 : decode cX12_low 682 = .ok (.aload_n 0, 1) := dl_o42 kcX12_low (by decide +kernel)
theorem dX12_low_683 : decode cX12_low 683 = .ok (.invokevirtual 579, 3) := dl_o182 kcX12_low (by decide +kernel)
theorem dX12_low_686 : decode cX12_low 686 = .ok (.i2l, 1) := dl_o133 kcX12_low (by decide +kernel)
theorem dX12_low_687 : decode cX12_low 687 = .ok (.invokevirtual 602, 3) := dl_o182 kcX12_low (by decide +kernel)
theorem dX12_low_690 : decode cX12_low 690 = .ok (.return_, 1) := dl_o177 kcX12_low (by decide +kernel)
theorem dX12_low_691 : decode cX12_low 691 = .ok (.aload_n 0, 1) := dl_o42 kcX12_low (by decide +kernel)
theorem dX12_low_692 : decode cX12_low 692 = .ok (.aload_n 0, 1) := dl_o42 kcX12_low (by decide +kernel)
theorem dX12_low_693 : decode cX12_low 693 = .ok (.iconst 1, 1) := dl_o4 kcX12_low (by decide +kernel)
theorem dX12_low_694 : decode cX12_low 694 = .ok (.invokevirtual 576, 3) := dl_o182 kcX12_low (by decide +kernel)
theorem dX12_low_697 : decode cX12_low 697 = .ok (.ifCond .eq 10, 3) := dl_o153 kcX12_low 10 (by decide +kernel) (by decide +kernel)
theorem dX12_low_700 : decode cX12_low 700 = .ok (.aload_n 0, 1) := dl_o42 kcX12_low (by decide +kernel)
theorem dX12_low_701 : decode cX12_low 701 = .ok (.invokevirtual 579, 3) := dl_o182 kcX12_low (by decide +kernel)
theorem dX12_low_704 : decode cX12_low 704 = .ok (.goto 4, 3) := dl_o167 kcX12_low 4 (by decide +kernel) (by decide +kernel)
theorem dX12_low_707 : decode cX12_low 707 = .ok (.iconst 0, 1) := dl_o3 kcX12_low (by decide +kernel)
theorem dX12_low_708 : decode cX12_low 708 = .ok (.putfield 605, 3) := dl_o181 kcX12_low (by decide +kernel)
theorem dX12_low_711 : decode cX12_low 711 = .ok (.return_, 1) := dl_o177 kcX12_low (by decide +kernel)
theorem dX12_low_712 : decode cX12_low 712 = .ok (.aload_n 0, 1) := dl_o42 kcX12_low (by decide +kernel)
theorem dX12_low_713 : decode cX12_low 713 = .ok (.aload_n 0, 1) := dl_o42 kcX12_low (by decide +kernel)
theorem dX12_low_714 : decode cX12_low 714 = .ok (.iconst 1, 1) := dl_o4 kcX12_low (by decide +kernel)
theorem dX12_low_715 : decode cX12_low 715 = .ok (.invokevirtual 576, 3) := dl_o182 kcX12_low (by decide +kernel)
theorem dX12_low_718 : decode cX12_low 718 = .ok (.ifCond .eq 10, 3) := dl_o153 kcX12_low 10 (by decide +kernel) (by decide +kernel)
theorem dX12_low_721 : decode cX12_low 721 = .ok (.aload_n 0, 1) := dl_o42 kcX12_low (by decide +kernel)
theorem dX12_low_722 : decode cX12_low 722 = .ok (.invokevirtual 579, 3) := dl_o182 kcX12_low (by decide +kernel)
theorem dX12_low_725 : decode cX12_low 725 = .ok (.goto 4, 3) := dl_o167 kcX12_low 4 (by decide +kernel) (by decide +kernel)
theorem dX12_low_728 : decode cX12_low 728 = .ok (.iconst 0, 1) := dl_o3 kcX12_low (by decide +kernel)
theorem dX12_low_729 : decode cX12_low 729 = .ok (.putfield 608, 3) := dl_o181 kcX12_low (by decide +kernel)
theorem dX12_low_732 : decode cX12_low 732 = .ok (.return_, 1) := dl_o177 kcX12_low (by decide +kernel)
theorem dX12_low_733 : decode cX12_low 733 = .ok (.aload_n 0, 1) := dl_o42 kcX12_low (by decide +kernel)
theorem dX12_low_734 : decode cX12_low 734 = .ok (.aload_n 0, 1) := dl_o42 kcX12_low (by decide +kernel)
theorem dX12_low_735 : decode cX12_low 735 = .ok (.iconst 1, 1) := dl_o4 kcX12_low (by decide +kernel)
theorem dX12_low_736 : decode cX12_low 736 = .ok (.invokevirtual 576, 3) := dl_o182 kcX12_low (by decide +kernel)
theorem dX12_low_739 : decode cX12_low 739 = .ok (.ifCond .eq 15, 3) := dl_o153 kcX12_low 15 (by decide +kernel) (by decide +kernel)
theorem dX12_low_742 : decode cX12_low 742 = .ok (.aload_n 0, 1) := dl_o42 kcX12_low (by decide +kernel)
theorem dX12_low_743 : decode cX12_low 743 = .ok (.aload_n 0, 1) := dl_o42 kcX12_low (by decide +kernel)
theorem dX12_low_744 : decode cX12_low 744 = .ok (.invokevirtual 579, 3) := dl_o182 kcX12_low (by decide +kernel)
theorem dX12_low_747 : decode cX12_low 747 = .ok (.i2l, 1) := dl_o133 kcX12_low (by decide +kernel)
theorem dX12_low_748 : decode cX12_low 748 = .ok (.invokevirtual 611, 3) := dl_o182 kcX12_low (by decide +kernel)
theorem dX12_low_751 : decode cX12_low 751 = .ok (.goto 4, 3) := dl_o167 kcX12_low 4 (by decide +kernel) (by decide +kernel)
theorem dX12_low_754 : decode cX12_low 754 = .ok (.iconst 0, 1) := dl_o3 kcX12_low (by decide +kernel)
theorem dX12_low_755 : decode cX12_low 755 = .ok (.putfield 615, 3) := dl_o181 kcX12_low (by decide +kernel)
theorem dX12_low_758 : decode cX12_low 758 = .ok (.return_, 1) := dl_o177 kcX12_low (by decide +kernel)
theorem dX12_low_759 : decode cX12_low 759 = .ok (.aload_n 0, 1) := dl_o42 kcX12_low (by decide +kernel)
theorem dX12_low_760 : decode cX12_low 760 = .ok (.iload_n 1, 1) := dl_o27 kcX12_low (by decide +kernel)
theorem dX12_low_761 : decode cX12_low 761 = .ok (.invokevirtual 618, 3) := dl_o182 kcX12_low (by decide +kernel)
theorem dX12_low_764 : decode cX12_low 764 = .ok (.return_, 1) := dl_o177 kcX12_low (by decide +kernel)
def B_X12_low_167 (N : Nat)  (s1 : Int32) (s2 : Int32) (V : sv_V) : Option sv_V := (F_X12_setVectors s1 s2 (1 : Int32) (1 : Int32) V).bind (fun V1 => some V1)
set_option maxRecDepth 20000 in
theorem tB_X12_low_167 {g : sx_G} (hG : sx_Go g) {P : Option Value → sv_V → Prop} {Vr : sv_V} (hP : P none Vr) {N : Nat}   {s1 : Int32} {s2 : Int32} {V : sv_V} (h : B_X12_low_167 N  s1 s2 V = some Vr) : sv_N g qX12_low 6 167 [] [.int s2, .int s1, .ref 146] V P := by
  unfold B_X12_low_167 at h
  refine sx_iconst (pc := 167) (v := 1) dX12_low_167 (by decide) ?_
  refine sx_iconst (pc := 168) (v := 1) dX12_low_168 (by decide) ?_
  obtain ⟨V1, g2, h⟩ := sx_bnd h
  refine sv_cV (pc := 169) (y := qX12_setVectors) (o := none) (as := [.int s1, .int s2, .int (1 : Int32), .int (1 : Int32)]) (V1 := V1) hG dX12_low_169 l_X12_572 y0X12_setVectors yvX12_setVectors rfl (Nat.le_of_ble_eq_true rfl) lay_146 kr_12 (by decide) (Nat.le_of_ble_eq_true rfl) rfl rfl rfl (t_X12_setVectors hG ⟨rfl, rfl⟩ g2) ?_
  exact sv_vret (pc := 172) dX12_low_172 rfl h hP
def B_X12_low_156 (N : Nat)  (l1 : Int32) (s1 : Int32) (V : sv_V) : Option sv_V := if l1 = 0 then (B_X12_low_167 N  s1 (16384 : Int32) V) else (B_X12_low_167 N  s1 (0 : Int32) V)
set_option maxRecDepth 20000 in
theorem tB_X12_low_156 {g : sx_G} (hG : sx_Go g) {P : Option Value → sv_V → Prop} {Vr : sv_V} (hP : P none Vr) {N : Nat}   {l1 : Int32} {s1 : Int32} {V : sv_V} (h : B_X12_low_156 N  l1 s1 V = some Vr) : sv_N g qX12_low 6 156 [(1, .int l1)] [.int s1, .ref 146] V P := by
  unfold B_X12_low_156 at h
  refine sx_iload_n (pc := 156) dX12_low_156 sx_m0 ?_
  refine sx_if_ne (pc := 157) (tgt := 166) dX12_low_157 (by decide) (fun c3 => ?_) (fun c3 => ?_)
  · have h := sx_neg c3 h
    refine sx_iconst (pc := 166) (v := 0) dX12_low_166 (by decide) ?_
    refine sx_wk sx_s0 ?_
    exact tB_X12_low_167 hG hP  h
  · have h := sx_pos c3 h
    refine sx_sipush (pc := 160) (v := 16384) dX12_low_160 (by decide) ?_
    refine sx_goto (pc := 163) (tgt := 167) dX12_low_163 (by decide) ?_
    refine sx_wk sx_s0 ?_
    exact tB_X12_low_167 hG hP  h
def B_X12_low_144 (N : Nat)  (l1 : Int32) (V : sv_V) : Option sv_V := if l1 = 0 then (B_X12_low_156 N  l1 (0 : Int32) V) else (B_X12_low_156 N  l1 (16384 : Int32) V)
set_option maxRecDepth 20000 in
theorem tB_X12_low_144 {g : sx_G} (hG : sx_Go g) {P : Option Value → sv_V → Prop} {Vr : sv_V} (hP : P none Vr) {N : Nat}   {l1 : Int32} {V : sv_V} (h : B_X12_low_144 N  l1 V = some Vr) : sv_N g qX12_low 6 144 [(0, .ref 146), (1, .int l1)] [] V P := by
  unfold B_X12_low_144 at h
  refine sx_aload_n (pc := 144) dX12_low_144 sx_m0 ?_
  refine sx_iload_n (pc := 145) dX12_low_145 sx_m1 ?_
  refine sx_if_ne (pc := 146) (tgt := 153) dX12_low_146 (by decide) (fun c4 => ?_) (fun c4 => ?_)
  · have h := sx_neg c4 h
    refine sx_sipush (pc := 153) (v := 16384) dX12_low_153 (by decide) ?_
    refine sx_wk (sx_s1 sx_m1 sx_s0) ?_
    exact tB_X12_low_156 hG hP  h
  · have h := sx_pos c4 h
    refine sx_iconst (pc := 149) (v := 0) dX12_low_149 (by decide) ?_
    refine sx_goto (pc := 150) (tgt := 156) dX12_low_150 (by decide) ?_
    refine sx_wk (sx_s1 sx_m1 sx_s0) ?_
    exact tB_X12_low_156 hG hP  h
def B_X12_low_198 (N : Nat)  (s1 : Int32) (s2 : Int32) (V : sv_V) : Option sv_V := (F_X12_setVectors s1 s2 (0 : Int32) (1 : Int32) V).bind (fun V5 => some V5)
set_option maxRecDepth 20000 in
theorem tB_X12_low_198 {g : sx_G} (hG : sx_Go g) {P : Option Value → sv_V → Prop} {Vr : sv_V} (hP : P none Vr) {N : Nat}   {s1 : Int32} {s2 : Int32} {V : sv_V} (h : B_X12_low_198 N  s1 s2 V = some Vr) : sv_N g qX12_low 6 198 [] [.int s2, .int s1, .ref 146] V P := by
  unfold B_X12_low_198 at h
  refine sx_iconst (pc := 198) (v := 0) dX12_low_198 (by decide) ?_
  refine sx_iconst (pc := 199) (v := 1) dX12_low_199 (by decide) ?_
  obtain ⟨V5, g6, h⟩ := sx_bnd h
  refine sv_cV (pc := 200) (y := qX12_setVectors) (o := none) (as := [.int s1, .int s2, .int (0 : Int32), .int (1 : Int32)]) (V1 := V5) hG dX12_low_200 l_X12_572 y0X12_setVectors yvX12_setVectors rfl (Nat.le_of_ble_eq_true rfl) lay_146 kr_12 (by decide) (Nat.le_of_ble_eq_true rfl) rfl rfl rfl (t_X12_setVectors hG ⟨rfl, rfl⟩ g6) ?_
  exact sv_vret (pc := 203) dX12_low_203 rfl h hP
def B_X12_low_186 (N : Nat)  (l1 : Int32) (s1 : Int32) (V : sv_V) : Option sv_V := if l1 = (2 : Int32) then (B_X12_low_198 N  s1 (16384 : Int32) V) else (B_X12_low_198 N  s1 (0 : Int32) V)
set_option maxRecDepth 20000 in
theorem tB_X12_low_186 {g : sx_G} (hG : sx_Go g) {P : Option Value → sv_V → Prop} {Vr : sv_V} (hP : P none Vr) {N : Nat}   {l1 : Int32} {s1 : Int32} {V : sv_V} (h : B_X12_low_186 N  l1 s1 V = some Vr) : sv_N g qX12_low 6 186 [(1, .int l1)] [.int s1, .ref 146] V P := by
  unfold B_X12_low_186 at h
  refine sx_iload_n (pc := 186) dX12_low_186 sx_m0 ?_
  refine sx_iconst (pc := 187) (v := 2) dX12_low_187 (by decide) ?_
  refine sx_icmp_ne (pc := 188) (tgt := 197) dX12_low_188 (by decide) (fun c7 => ?_) (fun c7 => ?_)
  · have h := sx_neg c7 h
    refine sx_iconst (pc := 197) (v := 0) dX12_low_197 (by decide) ?_
    refine sx_wk sx_s0 ?_
    exact tB_X12_low_198 hG hP  h
  · have h := sx_pos c7 h
    refine sx_sipush (pc := 191) (v := 16384) dX12_low_191 (by decide) ?_
    refine sx_goto (pc := 194) (tgt := 198) dX12_low_194 (by decide) ?_
    refine sx_wk sx_s0 ?_
    exact tB_X12_low_198 hG hP  h
def B_X12_low_173 (N : Nat)  (l1 : Int32) (V : sv_V) : Option sv_V := if l1 = (2 : Int32) then (B_X12_low_186 N  l1 (0 : Int32) V) else (B_X12_low_186 N  l1 (16384 : Int32) V)
set_option maxRecDepth 20000 in
theorem tB_X12_low_173 {g : sx_G} (hG : sx_Go g) {P : Option Value → sv_V → Prop} {Vr : sv_V} (hP : P none Vr) {N : Nat}   {l1 : Int32} {V : sv_V} (h : B_X12_low_173 N  l1 V = some Vr) : sv_N g qX12_low 6 173 [(0, .ref 146), (1, .int l1)] [] V P := by
  unfold B_X12_low_173 at h
  refine sx_aload_n (pc := 173) dX12_low_173 sx_m0 ?_
  refine sx_iload_n (pc := 174) dX12_low_174 sx_m1 ?_
  refine sx_iconst (pc := 175) (v := 2) dX12_low_175 (by decide) ?_
  refine sx_icmp_ne (pc := 176) (tgt := 183) dX12_low_176 (by decide) (fun c8 => ?_) (fun c8 => ?_)
  · have h := sx_neg c8 h
    refine sx_sipush (pc := 183) (v := 16384) dX12_low_183 (by decide) ?_
    refine sx_wk (sx_s1 sx_m1 sx_s0) ?_
    exact tB_X12_low_186 hG hP  h
  · have h := sx_pos c8 h
    refine sx_iconst (pc := 179) (v := 0) dX12_low_179 (by decide) ?_
    refine sx_goto (pc := 180) (tgt := 186) dX12_low_180 (by decide) ?_
    refine sx_wk (sx_s1 sx_m1 sx_s0) ?_
    exact tB_X12_low_186 hG hP  h
def B_X12_low_229 (N : Nat)  (s1 : Int32) (s2 : Int32) (V : sv_V) : Option sv_V := (F_X12_setVectors s1 s2 (1 : Int32) (0 : Int32) V).bind (fun V9 => some V9)
set_option maxRecDepth 20000 in
theorem tB_X12_low_229 {g : sx_G} (hG : sx_Go g) {P : Option Value → sv_V → Prop} {Vr : sv_V} (hP : P none Vr) {N : Nat}   {s1 : Int32} {s2 : Int32} {V : sv_V} (h : B_X12_low_229 N  s1 s2 V = some Vr) : sv_N g qX12_low 6 229 [] [.int s2, .int s1, .ref 146] V P := by
  unfold B_X12_low_229 at h
  refine sx_iconst (pc := 229) (v := 1) dX12_low_229 (by decide) ?_
  refine sx_iconst (pc := 230) (v := 0) dX12_low_230 (by decide) ?_
  obtain ⟨V9, g10, h⟩ := sx_bnd h
  refine sv_cV (pc := 231) (y := qX12_setVectors) (o := none) (as := [.int s1, .int s2, .int (1 : Int32), .int (0 : Int32)]) (V1 := V9) hG dX12_low_231 l_X12_572 y0X12_setVectors yvX12_setVectors rfl (Nat.le_of_ble_eq_true rfl) lay_146 kr_12 (by decide) (Nat.le_of_ble_eq_true rfl) rfl rfl rfl (t_X12_setVectors hG ⟨rfl, rfl⟩ g10) ?_
  exact sv_vret (pc := 234) dX12_low_234 rfl h hP
def B_X12_low_217 (N : Nat)  (l1 : Int32) (s1 : Int32) (V : sv_V) : Option sv_V := if l1 = (4 : Int32) then (B_X12_low_229 N  s1 (16384 : Int32) V) else (B_X12_low_229 N  s1 (0 : Int32) V)
set_option maxRecDepth 20000 in
theorem tB_X12_low_217 {g : sx_G} (hG : sx_Go g) {P : Option Value → sv_V → Prop} {Vr : sv_V} (hP : P none Vr) {N : Nat}   {l1 : Int32} {s1 : Int32} {V : sv_V} (h : B_X12_low_217 N  l1 s1 V = some Vr) : sv_N g qX12_low 6 217 [(1, .int l1)] [.int s1, .ref 146] V P := by
  unfold B_X12_low_217 at h
  refine sx_iload_n (pc := 217) dX12_low_217 sx_m0 ?_
  refine sx_iconst (pc := 218) (v := 4) dX12_low_218 (by decide) ?_
  refine sx_icmp_ne (pc := 219) (tgt := 228) dX12_low_219 (by decide) (fun c11 => ?_) (fun c11 => ?_)
  · have h := sx_neg c11 h
    refine sx_iconst (pc := 228) (v := 0) dX12_low_228 (by decide) ?_
    refine sx_wk sx_s0 ?_
    exact tB_X12_low_229 hG hP  h
  · have h := sx_pos c11 h
    refine sx_sipush (pc := 222) (v := 16384) dX12_low_222 (by decide) ?_
    refine sx_goto (pc := 225) (tgt := 229) dX12_low_225 (by decide) ?_
    refine sx_wk sx_s0 ?_
    exact tB_X12_low_229 hG hP  h
def B_X12_low_204 (N : Nat)  (l1 : Int32) (V : sv_V) : Option sv_V := if l1 = (4 : Int32) then (B_X12_low_217 N  l1 (0 : Int32) V) else (B_X12_low_217 N  l1 (16384 : Int32) V)
set_option maxRecDepth 20000 in
theorem tB_X12_low_204 {g : sx_G} (hG : sx_Go g) {P : Option Value → sv_V → Prop} {Vr : sv_V} (hP : P none Vr) {N : Nat}   {l1 : Int32} {V : sv_V} (h : B_X12_low_204 N  l1 V = some Vr) : sv_N g qX12_low 6 204 [(0, .ref 146), (1, .int l1)] [] V P := by
  unfold B_X12_low_204 at h
  refine sx_aload_n (pc := 204) dX12_low_204 sx_m0 ?_
  refine sx_iload_n (pc := 205) dX12_low_205 sx_m1 ?_
  refine sx_iconst (pc := 206) (v := 4) dX12_low_206 (by decide) ?_
  refine sx_icmp_ne (pc := 207) (tgt := 214) dX12_low_207 (by decide) (fun c12 => ?_) (fun c12 => ?_)
  · have h := sx_neg c12 h
    refine sx_sipush (pc := 214) (v := 16384) dX12_low_214 (by decide) ?_
    refine sx_wk (sx_s1 sx_m1 sx_s0) ?_
    exact tB_X12_low_217 hG hP  h
  · have h := sx_pos c12 h
    refine sx_iconst (pc := 210) (v := 0) dX12_low_210 (by decide) ?_
    refine sx_goto (pc := 211) (tgt := 217) dX12_low_211 (by decide) ?_
    refine sx_wk (sx_s1 sx_m1 sx_s0) ?_
    exact tB_X12_low_217 hG hP  h
def B_X12_low_381 (N : Nat)  (s1 : Int32) (s2 : Int32) (s3 : Int32) (s4 : Int32) (V : sv_V) : Option sv_V := (F_X12_setVectors s1 s2 s3 s4 V).bind (fun V13 => some V13)
set_option maxRecDepth 20000 in
theorem tB_X12_low_381 {g : sx_G} (hG : sx_Go g) {P : Option Value → sv_V → Prop} {Vr : sv_V} (hP : P none Vr) {N : Nat}   {s1 : Int32} {s2 : Int32} {s3 : Int32} {s4 : Int32} {V : sv_V} (h : B_X12_low_381 N  s1 s2 s3 s4 V = some Vr) : sv_N g qX12_low 6 381 [] [.int s4, .int s3, .int s2, .int s1, .ref 146] V P := by
  unfold B_X12_low_381 at h
  obtain ⟨V13, g14, h⟩ := sx_bnd h
  refine sv_cV (pc := 381) (y := qX12_setVectors) (o := none) (as := [.int s1, .int s2, .int s3, .int s4]) (V1 := V13) hG dX12_low_381 l_X12_572 y0X12_setVectors yvX12_setVectors rfl (Nat.le_of_ble_eq_true rfl) lay_146 kr_12 (by decide) (Nat.le_of_ble_eq_true rfl) rfl rfl rfl (t_X12_setVectors hG ⟨rfl, rfl⟩ g14) ?_
  exact sv_vret (pc := 384) dX12_low_384 rfl h hP
def B_X12_low_370 (N : Nat)  (l1 : Int32) (s1 : Int32) (s2 : Int32) (s3 : Int32) (V : sv_V) : Option sv_V := if (8 : Int32) ≤ l1 then (B_X12_low_381 N  s1 s2 s3 (0 : Int32) V) else (B_X12_low_381 N  s1 s2 s3 (1 : Int32) V)
set_option maxRecDepth 20000 in
theorem tB_X12_low_370 {g : sx_G} (hG : sx_Go g) {P : Option Value → sv_V → Prop} {Vr : sv_V} (hP : P none Vr) {N : Nat}   {l1 : Int32} {s1 : Int32} {s2 : Int32} {s3 : Int32} {V : sv_V} (h : B_X12_low_370 N  l1 s1 s2 s3 V = some Vr) : sv_N g qX12_low 6 370 [(1, .int l1)] [.int s3, .int s2, .int s1, .ref 146] V P := by
  unfold B_X12_low_370 at h
  refine sx_iload_n (pc := 370) dX12_low_370 sx_m0 ?_
  refine sx_bipush (pc := 371) (v := 8) dX12_low_371 (by decide) ?_
  refine sx_icmp_ge (pc := 373) (tgt := 380) dX12_low_373 (by decide) (fun c15 => ?_) (fun c15 => ?_)
  · have h := sx_pos c15 h
    refine sx_iconst (pc := 380) (v := 0) dX12_low_380 (by decide) ?_
    refine sx_wk sx_s0 ?_
    exact tB_X12_low_381 hG hP  h
  · have h := sx_neg c15 h
    refine sx_iconst (pc := 376) (v := 1) dX12_low_376 (by decide) ?_
    refine sx_goto (pc := 377) (tgt := 381) dX12_low_377 (by decide) ?_
    refine sx_wk sx_s0 ?_
    exact tB_X12_low_381 hG hP  h
def B_X12_low_359 (N : Nat)  (l1 : Int32) (s1 : Int32) (s2 : Int32) (V : sv_V) : Option sv_V := if l1 ≤ (7 : Int32) then (B_X12_low_370 N  l1 s1 s2 (0 : Int32) V) else (B_X12_low_370 N  l1 s1 s2 (1 : Int32) V)
set_option maxRecDepth 20000 in
theorem tB_X12_low_359 {g : sx_G} (hG : sx_Go g) {P : Option Value → sv_V → Prop} {Vr : sv_V} (hP : P none Vr) {N : Nat}   {l1 : Int32} {s1 : Int32} {s2 : Int32} {V : sv_V} (h : B_X12_low_359 N  l1 s1 s2 V = some Vr) : sv_N g qX12_low 6 359 [(1, .int l1)] [.int s2, .int s1, .ref 146] V P := by
  unfold B_X12_low_359 at h
  refine sx_iload_n (pc := 359) dX12_low_359 sx_m0 ?_
  refine sx_bipush (pc := 360) (v := 7) dX12_low_360 (by decide) ?_
  refine sx_icmp_le (pc := 362) (tgt := 369) dX12_low_362 (by decide) (fun c16 => ?_) (fun c16 => ?_)
  · have h := sx_pos c16 h
    refine sx_iconst (pc := 369) (v := 0) dX12_low_369 (by decide) ?_
    refine sx_wk (sx_s1 sx_m0 sx_s0) ?_
    exact tB_X12_low_370 hG hP  h
  · have h := sx_neg c16 h
    refine sx_iconst (pc := 365) (v := 1) dX12_low_365 (by decide) ?_
    refine sx_goto (pc := 366) (tgt := 370) dX12_low_366 (by decide) ?_
    refine sx_wk (sx_s1 sx_m0 sx_s0) ?_
    exact tB_X12_low_370 hG hP  h
def B_X12_low_343 (N : Nat)  (l1 : Int32) (l4 : Int32) (s1 : Int32) (V : sv_V) : Option sv_V := if l4 = 0 then (B_X12_low_359 N  l1 s1 (V.1 146 106) V) else (B_X12_low_359 N  l1 s1 (V.1 146 105) V)
set_option maxRecDepth 20000 in
theorem tB_X12_low_343 {g : sx_G} (hG : sx_Go g) {P : Option Value → sv_V → Prop} {Vr : sv_V} (hP : P none Vr) {N : Nat}   {l1 : Int32} {l4 : Int32} {s1 : Int32} {V : sv_V} (h : B_X12_low_343 N  l1 l4 s1 V = some Vr) : sv_N g qX12_low 6 343 [(0, .ref 146), (1, .int l1), (4, .int l4)] [.int s1, .ref 146] V P := by
  unfold B_X12_low_343 at h
  refine sx_iload (pc := 343) dX12_low_343 sx_m2 ?_
  refine sx_if_eq (pc := 345) (tgt := 355) dX12_low_345 (by decide) (fun c17 => ?_) (fun c17 => ?_)
  · have h := sx_pos c17 h
    refine sx_aload_n (pc := 355) dX12_low_355 sx_m0 ?_
    refine sv_getI (pc := 356) hG dX12_low_356 f_12_536 lay_146 rfl ?_
    refine sx_wk (sx_s1 sx_m1 sx_s0) ?_
    exact tB_X12_low_359 hG hP  h
  · have h := sx_neg c17 h
    refine sx_aload_n (pc := 348) dX12_low_348 sx_m0 ?_
    refine sv_getI (pc := 349) hG dX12_low_349 f_12_533 lay_146 rfl ?_
    refine sx_goto (pc := 352) (tgt := 359) dX12_low_352 (by decide) ?_
    refine sx_wk (sx_s1 sx_m1 sx_s0) ?_
    exact tB_X12_low_359 hG hP  h
def B_X12_low_323 (N : Nat)  (l1 : Int32) (s0 : Int32) (V : sv_V) : Option sv_V := if s0 = 0 then (B_X12_low_343 N  l1 s0 (V.1 146 105) V) else (B_X12_low_343 N  l1 s0 (-(V.1 146 106)) V)
set_option maxRecDepth 20000 in
theorem tB_X12_low_323 {g : sx_G} (hG : sx_Go g) {P : Option Value → sv_V → Prop} {Vr : sv_V} (hP : P none Vr) {N : Nat}   {l1 : Int32} {s0 : Int32} {V : sv_V} (h : B_X12_low_323 N  l1 s0 V = some Vr) : sv_N g qX12_low 6 323 [(0, .ref 146), (1, .int l1)] [.int s0] V P := by
  unfold B_X12_low_323 at h
  refine sx_istore (pc := 323) (lo' := [(4, .int s0), (0, .ref 146), (1, .int l1)]) dX12_low_323 (by decide) rfl ?_
  refine sx_aload_n (pc := 325) dX12_low_325 sx_m1 ?_
  refine sx_iload (pc := 326) dX12_low_326 sx_m0 ?_
  refine sx_if_eq (pc := 328) (tgt := 339) dX12_low_328 (by decide) (fun c18 => ?_) (fun c18 => ?_)
  · have h := sx_pos c18 h
    refine sx_aload_n (pc := 339) dX12_low_339 sx_m1 ?_
    refine sv_getI (pc := 340) hG dX12_low_340 f_12_533 lay_146 rfl ?_
    refine sx_wk (sx_s1 sx_m1 (sx_s1 sx_m2 (sx_s1 sx_m0 sx_s0))) ?_
    exact tB_X12_low_343 hG hP  h
  · have h := sx_neg c18 h
    refine sx_aload_n (pc := 331) dX12_low_331 sx_m1 ?_
    refine sv_getI (pc := 332) hG dX12_low_332 f_12_536 lay_146 rfl ?_
    refine sx_ineg (pc := 335) dX12_low_335 ?_
    refine sx_goto (pc := 336) (tgt := 343) dX12_low_336 (by decide) ?_
    refine sx_wk (sx_s1 sx_m1 (sx_s1 sx_m2 (sx_s1 sx_m0 sx_s0))) ?_
    exact tB_X12_low_343 hG hP  h
def B_X12_low_318 (N : Nat)  (l1 : Int32) (V : sv_V) : Option sv_V := B_X12_low_323 N  l1 (1 : Int32) V
set_option maxRecDepth 20000 in
theorem tB_X12_low_318 {g : sx_G} (hG : sx_Go g) {P : Option Value → sv_V → Prop} {Vr : sv_V} (hP : P none Vr) {N : Nat}   {l1 : Int32} {V : sv_V} (h : B_X12_low_318 N  l1 V = some Vr) : sv_N g qX12_low 6 318 [(0, .ref 146), (1, .int l1)] [] V P := by
  unfold B_X12_low_318 at h
  refine sx_iconst (pc := 318) (v := 1) dX12_low_318 (by decide) ?_
  refine sx_goto (pc := 319) (tgt := 323) dX12_low_319 (by decide) ?_
  refine sx_wk (sx_s1 sx_m0 (sx_s1 sx_m1 sx_s0)) ?_
  exact tB_X12_low_323 hG hP  h
def B_X12_low_235 (N : Nat)  (l1 : Int32) (V : sv_V) : Option sv_V := (F_X12_has (2 : Int32) V).bind (fun (x21, V19) => if x21 = 0 then (some V19) else ((F_X12_pop  V19).bind (fun (x25, V23) => (F_X12_pointOf (V19.1 146 74) x25 V23).bind (fun (x28, V26) => (F_X12_pop  V26).bind (fun (x31, V29) => (F_X12_pointOf (V26.1 146 73) x31 V29).bind (fun (x34, V32) => if (V32.1 146 59) = 0 then (if sx_in x34 204 = true then if sx_in x28 204 = true then if sx_in x34 204 = true then if sx_in x28 204 = true then (F_X12_direction N ((V32.1 168 x34.toNatClampNeg) - (V32.1 168 x28.toNatClampNeg)) ((V32.1 169 x34.toNatClampNeg) - (V32.1 169 x28.toNatClampNeg)) V32).bind (fun V40 => if l1 = (7 : Int32) then (B_X12_low_318 N  l1 V40) else (if l1 = (9 : Int32) then (B_X12_low_318 N  l1 V40) else (B_X12_low_323 N  l1 (0 : Int32) V40))) else none else none else none else none) else (some V32)))))))
set_option maxRecDepth 20000 in
theorem tB_X12_low_235 {g : sx_G} (hG : sx_Go g) {P : Option Value → sv_V → Prop} {Vr : sv_V} (hP : P none Vr) {N : Nat}   {l1 : Int32} {V : sv_V} (h : B_X12_low_235 N  l1 V = some Vr) : sv_N g qX12_low 6 235 [(0, .ref 146), (1, .int l1)] [] V P := by
  unfold B_X12_low_235 at h
  refine sx_aload_n (pc := 235) dX12_low_235 sx_m0 ?_
  refine sx_iconst (pc := 236) (v := 2) dX12_low_236 (by decide) ?_
  obtain ⟨⟨x21, V19⟩, g20, h⟩ := sx_bnd h
  refine sv_cV (pc := 237) (y := qX12_has) (o := (some (.int x21))) (as := [.int (2 : Int32)]) (V1 := V19) hG dX12_low_237 l_X12_576 y0X12_has yvX12_has rfl (Nat.le_of_ble_eq_true rfl) lay_146 kr_12 (by decide) (Nat.le_of_ble_eq_true rfl) rfl rfl rfl (t_X12_has hG ⟨rfl, rfl⟩ g20) ?_
  refine sx_if_eq (pc := 240) (tgt := 384) dX12_low_240 (by decide) (fun c22 => ?_) (fun c22 => ?_)
  · have h := sx_pos c22 h
    exact sv_vret (pc := 384) dX12_low_384 rfl h hP
  · have h := sx_neg c22 h
    refine sx_aload_n (pc := 243) dX12_low_243 sx_m0 ?_
    refine sx_aload_n (pc := 244) dX12_low_244 sx_m0 ?_
    refine sv_getI (pc := 245) hG dX12_low_245 f_12_466 lay_146 rfl ?_
    refine sx_aload_n (pc := 248) dX12_low_248 sx_m0 ?_
    obtain ⟨⟨x25, V23⟩, g24, h⟩ := sx_bnd h
    refine sv_cV (pc := 249) (y := qX12_pop) (o := (some (.int x25))) (as := []) (V1 := V23) hG dX12_low_249 l_X12_579 y0X12_pop yvX12_pop rfl (Nat.le_of_ble_eq_true rfl) lay_146 kr_12 (by decide) (Nat.le_of_ble_eq_true rfl) rfl rfl rfl (t_X12_pop hG ⟨rfl, rfl⟩ g24) ?_
    obtain ⟨⟨x28, V26⟩, g27, h⟩ := sx_bnd h
    refine sv_cV (pc := 252) (y := qX12_pointOf) (o := (some (.int x28))) (as := [.int (V19.1 146 74), .int x25]) (V1 := V26) hG dX12_low_252 l_X12_582 y0X12_pointOf yvX12_pointOf rfl (Nat.le_of_ble_eq_true rfl) lay_146 kr_12 (by decide) (Nat.le_of_ble_eq_true rfl) rfl rfl rfl (t_X12_pointOf hG ⟨rfl, rfl⟩ g27) ?_
    refine sx_istore_n (pc := 255) (lo' := [(2, .int x28), (0, .ref 146), (1, .int l1)]) dX12_low_255 (by decide) rfl ?_
    refine sx_aload_n (pc := 256) dX12_low_256 sx_m1 ?_
    refine sx_aload_n (pc := 257) dX12_low_257 sx_m1 ?_
    refine sv_getI (pc := 258) hG dX12_low_258 f_12_463 lay_146 rfl ?_
    refine sx_aload_n (pc := 261) dX12_low_261 sx_m1 ?_
    obtain ⟨⟨x31, V29⟩, g30, h⟩ := sx_bnd h
    refine sv_cV (pc := 262) (y := qX12_pop) (o := (some (.int x31))) (as := []) (V1 := V29) hG dX12_low_262 l_X12_579 y0X12_pop yvX12_pop rfl (Nat.le_of_ble_eq_true rfl) lay_146 kr_12 (by decide) (Nat.le_of_ble_eq_true rfl) rfl rfl rfl (t_X12_pop hG ⟨rfl, rfl⟩ g30) ?_
    obtain ⟨⟨x34, V32⟩, g33, h⟩ := sx_bnd h
    refine sv_cV (pc := 265) (y := qX12_pointOf) (o := (some (.int x34))) (as := [.int (V26.1 146 73), .int x31]) (V1 := V32) hG dX12_low_265 l_X12_582 y0X12_pointOf yvX12_pointOf rfl (Nat.le_of_ble_eq_true rfl) lay_146 kr_12 (by decide) (Nat.le_of_ble_eq_true rfl) rfl rfl rfl (t_X12_pointOf hG ⟨rfl, rfl⟩ g33) ?_
    refine sx_istore_n (pc := 268) (lo' := [(3, .int x34), (2, .int x28), (0, .ref 146), (1, .int l1)]) dX12_low_268 (by decide) rfl ?_
    refine sx_aload_n (pc := 269) dX12_low_269 sx_m2 ?_
    refine sv_getI (pc := 270) hG dX12_low_270 f_12_409 lay_146 rfl ?_
    refine sx_if_ne (pc := 273) (tgt := 384) dX12_low_273 (by decide) (fun c35 => ?_) (fun c35 => ?_)
    · have h := sx_neg c35 h
      exact sv_vret (pc := 384) dX12_low_384 rfl h hP
    · have h := sx_pos c35 h
      refine sx_aload_n (pc := 276) dX12_low_276 sx_m2 ?_
      refine sx_aload_n (pc := 277) dX12_low_277 sx_m2 ?_
      refine sv_getA (pc := 278) hG dX12_low_278 f_12_76 lay_146 rfl cr_146_48 ?_
      refine sx_iload_n (pc := 281) dX12_low_281 sx_m0 ?_
      obtain ⟨g36, h⟩ := sx_grd h
      refine sv_iald (pc := 282) hG dX12_low_282 lay_168 g36 ?_
      refine sx_aload_n (pc := 283) dX12_low_283 sx_m2 ?_
      refine sv_getA (pc := 284) hG dX12_low_284 f_12_76 lay_146 rfl cr_146_48 ?_
      refine sx_iload_n (pc := 287) dX12_low_287 sx_m1 ?_
      obtain ⟨g37, h⟩ := sx_grd h
      refine sv_iald (pc := 288) hG dX12_low_288 lay_168 g37 ?_
      refine sx_isub (pc := 289) dX12_low_289 ?_
      refine sx_aload_n (pc := 290) dX12_low_290 sx_m2 ?_
      refine sv_getA (pc := 291) hG dX12_low_291 f_12_79 lay_146 rfl cr_146_49 ?_
      refine sx_iload_n (pc := 294) dX12_low_294 sx_m0 ?_
      obtain ⟨g38, h⟩ := sx_grd h
      refine sv_iald (pc := 295) hG dX12_low_295 lay_169 g38 ?_
      refine sx_aload_n (pc := 296) dX12_low_296 sx_m2 ?_
      refine sv_getA (pc := 297) hG dX12_low_297 f_12_79 lay_146 rfl cr_146_49 ?_
      refine sx_iload_n (pc := 300) dX12_low_300 sx_m1 ?_
      obtain ⟨g39, h⟩ := sx_grd h
      refine sv_iald (pc := 301) hG dX12_low_301 lay_169 g39 ?_
      refine sx_isub (pc := 302) dX12_low_302 ?_
      obtain ⟨V40, g41, h⟩ := sx_bnd h
      refine sv_cV (pc := 303) (y := qX12_direction) (o := none) (as := [.int ((V32.1 168 x34.toNatClampNeg) - (V32.1 168 x28.toNatClampNeg)), .int ((V32.1 169 x34.toNatClampNeg) - (V32.1 169 x28.toNatClampNeg))]) (V1 := V40) hG dX12_low_303 l_X12_586 y0X12_direction yvX12_direction rfl (Nat.le_of_ble_eq_true rfl) lay_146 kr_12 (by decide) (Nat.le_of_ble_eq_true rfl) rfl rfl rfl (t_X12_direction hG ⟨rfl, rfl⟩ g41) ?_
      refine sx_iload_n (pc := 306) dX12_low_306 sx_m3 ?_
      refine sx_bipush (pc := 307) (v := 7) dX12_low_307 (by decide) ?_
      refine sx_icmp_eq (pc := 309) (tgt := 318) dX12_low_309 (by decide) (fun c42 => ?_) (fun c42 => ?_)
      · have h := sx_pos c42 h
        refine sx_wk (sx_s1 sx_m2 (sx_s1 sx_m3 sx_s0)) ?_
        exact tB_X12_low_318 hG hP  h
      · have h := sx_neg c42 h
        refine sx_iload_n (pc := 312) dX12_low_312 sx_m3 ?_
        refine sx_bipush (pc := 313) (v := 9) dX12_low_313 (by decide) ?_
        refine sx_icmp_ne (pc := 315) (tgt := 322) dX12_low_315 (by decide) (fun c43 => ?_) (fun c43 => ?_)
        · have h := sx_neg c43 h
          refine sx_iconst (pc := 322) (v := 0) dX12_low_322 (by decide) ?_
          refine sx_wk (sx_s1 sx_m2 (sx_s1 sx_m3 sx_s0)) ?_
          exact tB_X12_low_323 hG hP  h
        · have h := sx_pos c43 h
          refine sx_wk (sx_s1 sx_m2 (sx_s1 sx_m3 sx_s0)) ?_
          exact tB_X12_low_318 hG hP  h
def B_X12_low_442 (N : Nat)  (s1 : Int32) (s2 : Int32) (s3 : Int32) (s4 : Int32) (V : sv_V) : Option sv_V := (F_X12_setVectors s1 s2 s3 s4 V).bind (fun V44 => some V44)
set_option maxRecDepth 20000 in
theorem tB_X12_low_442 {g : sx_G} (hG : sx_Go g) {P : Option Value → sv_V → Prop} {Vr : sv_V} (hP : P none Vr) {N : Nat}   {s1 : Int32} {s2 : Int32} {s3 : Int32} {s4 : Int32} {V : sv_V} (h : B_X12_low_442 N  s1 s2 s3 s4 V = some Vr) : sv_N g qX12_low 6 442 [] [.int s4, .int s3, .int s2, .int s1, .ref 146] V P := by
  unfold B_X12_low_442 at h
  obtain ⟨V44, g45, h⟩ := sx_bnd h
  refine sv_cV (pc := 442) (y := qX12_setVectors) (o := none) (as := [.int s1, .int s2, .int s3, .int s4]) (V1 := V44) hG dX12_low_442 l_X12_572 y0X12_setVectors yvX12_setVectors rfl (Nat.le_of_ble_eq_true rfl) lay_146 kr_12 (by decide) (Nat.le_of_ble_eq_true rfl) rfl rfl rfl (t_X12_setVectors hG ⟨rfl, rfl⟩ g45) ?_
  exact sv_vret (pc := 445) dX12_low_445 rfl h hP
def B_X12_low_431 (N : Nat)  (l1 : Int32) (s1 : Int32) (s2 : Int32) (s3 : Int32) (V : sv_V) : Option sv_V := if l1 = (10 : Int32) then (B_X12_low_442 N  s1 s2 s3 (1 : Int32) V) else (B_X12_low_442 N  s1 s2 s3 (0 : Int32) V)
set_option maxRecDepth 20000 in
theorem tB_X12_low_431 {g : sx_G} (hG : sx_Go g) {P : Option Value → sv_V → Prop} {Vr : sv_V} (hP : P none Vr) {N : Nat}   {l1 : Int32} {s1 : Int32} {s2 : Int32} {s3 : Int32} {V : sv_V} (h : B_X12_low_431 N  l1 s1 s2 s3 V = some Vr) : sv_N g qX12_low 6 431 [(1, .int l1)] [.int s3, .int s2, .int s1, .ref 146] V P := by
  unfold B_X12_low_431 at h
  refine sx_iload_n (pc := 431) dX12_low_431 sx_m0 ?_
  refine sx_bipush (pc := 432) (v := 10) dX12_low_432 (by decide) ?_
  refine sx_icmp_ne (pc := 434) (tgt := 441) dX12_low_434 (by decide) (fun c46 => ?_) (fun c46 => ?_)
  · have h := sx_neg c46 h
    refine sx_iconst (pc := 441) (v := 0) dX12_low_441 (by decide) ?_
    refine sx_wk sx_s0 ?_
    exact tB_X12_low_442 hG hP  h
  · have h := sx_pos c46 h
    refine sx_iconst (pc := 437) (v := 1) dX12_low_437 (by decide) ?_
    refine sx_goto (pc := 438) (tgt := 442) dX12_low_438 (by decide) ?_
    refine sx_wk sx_s0 ?_
    exact tB_X12_low_442 hG hP  h
def B_X12_low_385 (N : Nat)  (l1 : Int32) (V : sv_V) : Option sv_V := (F_X12_has (2 : Int32) V).bind (fun (x49, V47) => if x49 = 0 then (some V47) else ((F_X12_pop  V47).bind (fun (x53, V51) => sx_let (x53.toInt16.toInt32) (fun x54 => (F_X12_pop  V51).bind (fun (x57, V55) => sx_let (x57.toInt16.toInt32) (fun x58 => (F_X12_direction N x58 x54 V55).bind (fun V59 => if l1 = (11 : Int32) then (B_X12_low_431 N  l1 (V59.1 146 105) (V59.1 146 106) (1 : Int32) V59) else (B_X12_low_431 N  l1 (V59.1 146 105) (V59.1 146 106) (0 : Int32) V59))))))))
set_option maxRecDepth 20000 in
theorem tB_X12_low_385 {g : sx_G} (hG : sx_Go g) {P : Option Value → sv_V → Prop} {Vr : sv_V} (hP : P none Vr) {N : Nat}   {l1 : Int32} {V : sv_V} (h : B_X12_low_385 N  l1 V = some Vr) : sv_N g qX12_low 6 385 [(0, .ref 146), (1, .int l1)] [] V P := by
  unfold B_X12_low_385 at h
  refine sx_aload_n (pc := 385) dX12_low_385 sx_m0 ?_
  refine sx_iconst (pc := 386) (v := 2) dX12_low_386 (by decide) ?_
  obtain ⟨⟨x49, V47⟩, g48, h⟩ := sx_bnd h
  refine sv_cV (pc := 387) (y := qX12_has) (o := (some (.int x49))) (as := [.int (2 : Int32)]) (V1 := V47) hG dX12_low_387 l_X12_576 y0X12_has yvX12_has rfl (Nat.le_of_ble_eq_true rfl) lay_146 kr_12 (by decide) (Nat.le_of_ble_eq_true rfl) rfl rfl rfl (t_X12_has hG ⟨rfl, rfl⟩ g48) ?_
  refine sx_if_eq (pc := 390) (tgt := 445) dX12_low_390 (by decide) (fun c50 => ?_) (fun c50 => ?_)
  · have h := sx_pos c50 h
    exact sv_vret (pc := 445) dX12_low_445 rfl h hP
  · have h := sx_neg c50 h
    refine sx_aload_n (pc := 393) dX12_low_393 sx_m0 ?_
    obtain ⟨⟨x53, V51⟩, g52, h⟩ := sx_bnd h
    refine sv_cV (pc := 394) (y := qX12_pop) (o := (some (.int x53))) (as := []) (V1 := V51) hG dX12_low_394 l_X12_579 y0X12_pop yvX12_pop rfl (Nat.le_of_ble_eq_true rfl) lay_146 kr_12 (by decide) (Nat.le_of_ble_eq_true rfl) rfl rfl rfl (t_X12_pop hG ⟨rfl, rfl⟩ g52) ?_
    refine sx_i2s (pc := 397) dX12_low_397 ?_
    refine sv_tI (fun x54 hx54 => ?_)
    have h := sx_letE hx54 h
    refine sx_istore_n (pc := 398) (lo' := [(2, .int x54), (0, .ref 146), (1, .int l1)]) dX12_low_398 (by decide) rfl ?_
    refine sx_aload_n (pc := 399) dX12_low_399 sx_m1 ?_
    obtain ⟨⟨x57, V55⟩, g56, h⟩ := sx_bnd h
    refine sv_cV (pc := 400) (y := qX12_pop) (o := (some (.int x57))) (as := []) (V1 := V55) hG dX12_low_400 l_X12_579 y0X12_pop yvX12_pop rfl (Nat.le_of_ble_eq_true rfl) lay_146 kr_12 (by decide) (Nat.le_of_ble_eq_true rfl) rfl rfl rfl (t_X12_pop hG ⟨rfl, rfl⟩ g56) ?_
    refine sx_i2s (pc := 403) dX12_low_403 ?_
    refine sv_tI (fun x58 hx58 => ?_)
    have h := sx_letE hx58 h
    refine sx_istore_n (pc := 404) (lo' := [(3, .int x58), (2, .int x54), (0, .ref 146), (1, .int l1)]) dX12_low_404 (by decide) rfl ?_
    refine sx_aload_n (pc := 405) dX12_low_405 sx_m2 ?_
    refine sx_iload_n (pc := 406) dX12_low_406 sx_m0 ?_
    refine sx_iload_n (pc := 407) dX12_low_407 sx_m1 ?_
    obtain ⟨V59, g60, h⟩ := sx_bnd h
    refine sv_cV (pc := 408) (y := qX12_direction) (o := none) (as := [.int x58, .int x54]) (V1 := V59) hG dX12_low_408 l_X12_586 y0X12_direction yvX12_direction rfl (Nat.le_of_ble_eq_true rfl) lay_146 kr_12 (by decide) (Nat.le_of_ble_eq_true rfl) rfl rfl rfl (t_X12_direction hG ⟨rfl, rfl⟩ g60) ?_
    refine sx_aload_n (pc := 411) dX12_low_411 sx_m2 ?_
    refine sx_aload_n (pc := 412) dX12_low_412 sx_m2 ?_
    refine sv_getI (pc := 413) hG dX12_low_413 f_12_533 lay_146 rfl ?_
    refine sx_aload_n (pc := 416) dX12_low_416 sx_m2 ?_
    refine sv_getI (pc := 417) hG dX12_low_417 f_12_536 lay_146 rfl ?_
    refine sx_iload_n (pc := 420) dX12_low_420 sx_m3 ?_
    refine sx_bipush (pc := 421) (v := 11) dX12_low_421 (by decide) ?_
    refine sx_icmp_ne (pc := 423) (tgt := 430) dX12_low_423 (by decide) (fun c61 => ?_) (fun c61 => ?_)
    · have h := sx_neg c61 h
      refine sx_iconst (pc := 430) (v := 0) dX12_low_430 (by decide) ?_
      refine sx_wk (sx_s1 sx_m3 sx_s0) ?_
      exact tB_X12_low_431 hG hP  h
    · have h := sx_pos c61 h
      refine sx_iconst (pc := 426) (v := 1) dX12_low_426 (by decide) ?_
      refine sx_goto (pc := 427) (tgt := 431) dX12_low_427 (by decide) ?_
      refine sx_wk (sx_s1 sx_m3 sx_s0) ?_
      exact tB_X12_low_431 hG hP  h
def B_X12_low_564 (N : Nat)  (l1 : Int32) (V : sv_V) : Option sv_V := (F_X12_setZone l1 V).bind (fun V62 => some V62)
set_option maxRecDepth 20000 in
theorem tB_X12_low_564 {g : sx_G} (hG : sx_Go g) {P : Option Value → sv_V → Prop} {Vr : sv_V} (hP : P none Vr) {N : Nat}   {l1 : Int32} {V : sv_V} (h : B_X12_low_564 N  l1 V = some Vr) : sv_N g qX12_low 6 564 [(0, .ref 146), (1, .int l1)] [] V P := by
  unfold B_X12_low_564 at h
  refine sx_aload_n (pc := 564) dX12_low_564 sx_m0 ?_
  refine sx_iload_n (pc := 565) dX12_low_565 sx_m1 ?_
  obtain ⟨V62, g63, h⟩ := sx_bnd h
  refine sv_cV (pc := 566) (y := qX12_setZone) (o := none) (as := [.int l1]) (V1 := V62) hG dX12_low_566 l_X12_590 y0X12_setZone yvX12_setZone rfl (Nat.le_of_ble_eq_true rfl) lay_146 kr_12 (by decide) (Nat.le_of_ble_eq_true rfl) rfl rfl rfl (t_X12_setZone hG ⟨rfl, rfl⟩ g63) ?_
  exact sv_vret (pc := 569) dX12_low_569 rfl h hP
def B_X12_low_759 (N : Nat)  (l1 : Int32) (V : sv_V) : Option sv_V := (F_X12_stacks N l1 V).bind (fun V64 => some V64)
set_option maxRecDepth 20000 in
theorem tB_X12_low_759 {g : sx_G} (hG : sx_Go g) {P : Option Value → sv_V → Prop} {Vr : sv_V} (hP : P none Vr) {N : Nat}   {l1 : Int32} {V : sv_V} (h : B_X12_low_759 N  l1 V = some Vr) : sv_N g qX12_low 6 759 [(0, .ref 146), (1, .int l1)] [] V P := by
  unfold B_X12_low_759 at h
  refine sx_aload_n (pc := 759) dX12_low_759 sx_m0 ?_
  refine sx_iload_n (pc := 760) dX12_low_760 sx_m1 ?_
  obtain ⟨V64, g65, h⟩ := sx_bnd h
  refine sv_cV (pc := 761) (y := qX12_stacks) (o := none) (as := [.int l1]) (V1 := V64) hG dX12_low_761 l_X12_618 y0X12_stacks yvX12_stacks rfl (Nat.le_of_ble_eq_true rfl) lay_146 kr_12 (by decide) (Nat.le_of_ble_eq_true rfl) rfl rfl rfl (t_X12_stacks hG ⟨rfl, rfl⟩ g65) ?_
  exact sv_vret (pc := 764) dX12_low_764 rfl h hP
def F_X12_low (N : Nat) (l1 : Int32) (V : sv_V) : Option sv_V := if l1 = 0 then (B_X12_low_144 N  l1 V) else (if l1 = 1 then (B_X12_low_144 N  l1 V) else (if l1 = 2 then (B_X12_low_173 N  l1 V) else (if l1 = 3 then (B_X12_low_173 N  l1 V) else (if l1 = 4 then (B_X12_low_204 N  l1 V) else (if l1 = 5 then (B_X12_low_204 N  l1 V) else (if l1 = 6 then (B_X12_low_235 N  l1 V) else (if l1 = 7 then (B_X12_low_235 N  l1 V) else (if l1 = 8 then (B_X12_low_235 N  l1 V) else (if l1 = 9 then (B_X12_low_235 N  l1 V) else (if l1 = 10 then (B_X12_low_385 N  l1 V) else (if l1 = 11 then (B_X12_low_385 N  l1 V) else (if l1 = 12 then ((F_X12_push ((V.1 146 65).toInt64) V).bind (fun V79 => (F_X12_push ((V79.1 146 66).toInt64) V79).bind (fun V81 => some V81))) else (if l1 = 13 then ((F_X12_push ((V.1 146 63).toInt64) V).bind (fun V84 => (F_X12_push ((V84.1 146 64).toInt64) V84).bind (fun V86 => some V86))) else (if l1 = 14 then (sx_let (sv_I V 146 63 (V.1 146 65)) (fun V89 => sx_let (sv_I V89 146 64 (V89.1 146 66)) (fun V90 => some V90))) else (if l1 = 15 then (B_X12_low_759 N  l1 V) else (if l1 = 16 then ((F_X12_has (1 : Int32) V).bind (fun (x95, V93) => if x95 = 0 then (sx_let (sv_I V93 146 69 (0 : Int32)) (fun V97 => some V97)) else ((F_X12_pop  V93).bind (fun (x100, V98) => sx_let (sv_I V98 146 69 x100) (fun V101 => some V101))))) else (if l1 = 17 then ((F_X12_has (1 : Int32) V).bind (fun (x105, V103) => if x105 = 0 then (sx_let (sv_I V103 146 70 (0 : Int32)) (fun V107 => some V107)) else ((F_X12_pop  V103).bind (fun (x110, V108) => sx_let (sv_I V108 146 70 x110) (fun V111 => some V111))))) else (if l1 = 18 then ((F_X12_has (1 : Int32) V).bind (fun (x115, V113) => if x115 = 0 then (sx_let (sv_I V113 146 71 (0 : Int32)) (fun V117 => some V117)) else ((F_X12_pop  V113).bind (fun (x120, V118) => sx_let (sv_I V118 146 71 x120) (fun V121 => some V121))))) else (if l1 = 19 then (B_X12_low_564 N  l1 V) else (if l1 = 20 then (B_X12_low_564 N  l1 V) else (if l1 = 21 then (B_X12_low_564 N  l1 V) else (if l1 = 22 then (B_X12_low_564 N  l1 V) else (if l1 = 23 then ((F_X12_has (1 : Int32) V).bind (fun (x129, V127) => if x129 = 0 then (some V127) else ((F_X12_pop  V127).bind (fun (x133, V131) => (F_X12_in x133.toInt64 (1 : Int64) (65535 : Int64) V131).bind (fun (x136, V134) => if x136 = 0 then ((F_X12_fail (11 : Int32) V134).bind (fun V139 => sx_let (sv_I V139 146 75 x133) (fun V141 => some V141))) else (sx_let (sv_I V134 146 75 x133) (fun V138 => some V138))))))) else (if l1 = 24 then ((F_X12_setRounding (24 : Int32) (64 : Int32) (0 : Int32) (32 : Int32) V).bind (fun V143 => some V143)) else (if l1 = 25 then ((F_X12_setRounding (25 : Int32) (64 : Int32) (32 : Int32) (32 : Int32) V).bind (fun V146 => some V146)) else (if l1 = 26 then ((F_X12_has (1 : Int32) V).bind (fun (x151, V149) => if x151 = 0 then (sx_let (sv_I V149 146 83 (0 : Int32)) (fun V153 => some V153)) else ((F_X12_pop  V149).bind (fun (x156, V154) => sx_let (sv_I V154 146 83 x156) (fun V157 => some V157))))) else (if l1 = 27 then ((F_X12_pass N (V.1 146 93) (89 : Int32) (89 : Int32) (1 : Int32) V).bind (fun (x161, V159) => sx_let (sv_I V159 146 93 x161) (fun V162 => some V162))) else (if l1 = 28 then ((F_X12_has (1 : Int32) V).bind (fun (x166, V164) => if x166 = 0 then (some V164) else ((F_X12_pop  V164).bind (fun (x170, V168) => (F_X12_jump x170.toInt64 V168).bind (fun V171 => some V171))))) else (if l1 = 29 then ((F_X12_has (1 : Int32) V).bind (fun (x176, V174) => if x176 = 0 then (sx_let (sv_I V174 146 80 (0 : Int32)) (fun V178 => some V178)) else ((F_X12_pop  V174).bind (fun (x181, V179) => sx_let (sv_I V179 146 80 x181) (fun V182 => some V182))))) else (if l1 = 30 then ((F_X12_has (1 : Int32) V).bind (fun (x186, V184) => if x186 = 0 then (sx_let (sv_I V184 146 82 (0 : Int32)) (fun V188 => some V188)) else ((F_X12_pop  V184).bind (fun (x191, V189) => sx_let (sv_I V189 146 82 x191) (fun V192 => some V192))))) else (if l1 = 31 then ((F_X12_has (1 : Int32) V).bind (fun (x196, V194) => if x196 = 0 then (sx_let (sv_I V194 146 81 (0 : Int32)) (fun V198 => some V198)) else ((F_X12_pop  V194).bind (fun (x201, V199) => (F_X12_scaled x201.toInt64 V199).bind (fun (x204, V202) => sx_let (sv_I V202 146 81 x204) (fun V205 => some V205)))))) else (B_X12_low_759 N  l1 V))))))))))))))))))))))))))))))))
set_option maxRecDepth 20000 in
theorem t_X12_low {g : sx_G} (hG : sx_Go g) {P : Option Value → sv_V → Prop} {Vr : sv_V} (hP : P none Vr) {N : Nat} {l1 : Int32} {V : sv_V} (h : F_X12_low N l1 V = some Vr) : sv_N g qX12_low 6 0 [(0, .ref 146), (1, .int l1)] [] V P := by
  unfold F_X12_low at h
  refine sx_iload_n (pc := 0) dX12_low_0 sx_m1 ?_
  by_cases c66 : l1 = 0
  · have h := sx_pos c66 h
    refine sx_tabI (pc := 1) (off := 143) (tgt := 144) dX12_low_1 (by rw [c66]; decide) (by rw [c66]; decide) (by rw [c66]; rfl) (by decide) ?_
    refine sx_wk (sx_s1 sx_m0 (sx_s1 sx_m1 sx_s0)) ?_
    exact tB_X12_low_144 hG hP  h
  have h := sx_neg c66 h
  by_cases c67 : l1 = 1
  · have h := sx_pos c67 h
    refine sx_tabI (pc := 1) (off := 143) (tgt := 144) dX12_low_1 (by rw [c67]; decide) (by rw [c67]; decide) (by rw [c67]; rfl) (by decide) ?_
    refine sx_wk (sx_s1 sx_m0 (sx_s1 sx_m1 sx_s0)) ?_
    exact tB_X12_low_144 hG hP  h
  have h := sx_neg c67 h
  by_cases c68 : l1 = 2
  · have h := sx_pos c68 h
    refine sx_tabI (pc := 1) (off := 172) (tgt := 173) dX12_low_1 (by rw [c68]; decide) (by rw [c68]; decide) (by rw [c68]; rfl) (by decide) ?_
    refine sx_wk (sx_s1 sx_m0 (sx_s1 sx_m1 sx_s0)) ?_
    exact tB_X12_low_173 hG hP  h
  have h := sx_neg c68 h
  by_cases c69 : l1 = 3
  · have h := sx_pos c69 h
    refine sx_tabI (pc := 1) (off := 172) (tgt := 173) dX12_low_1 (by rw [c69]; decide) (by rw [c69]; decide) (by rw [c69]; rfl) (by decide) ?_
    refine sx_wk (sx_s1 sx_m0 (sx_s1 sx_m1 sx_s0)) ?_
    exact tB_X12_low_173 hG hP  h
  have h := sx_neg c69 h
  by_cases c70 : l1 = 4
  · have h := sx_pos c70 h
    refine sx_tabI (pc := 1) (off := 203) (tgt := 204) dX12_low_1 (by rw [c70]; decide) (by rw [c70]; decide) (by rw [c70]; rfl) (by decide) ?_
    refine sx_wk (sx_s1 sx_m0 (sx_s1 sx_m1 sx_s0)) ?_
    exact tB_X12_low_204 hG hP  h
  have h := sx_neg c70 h
  by_cases c71 : l1 = 5
  · have h := sx_pos c71 h
    refine sx_tabI (pc := 1) (off := 203) (tgt := 204) dX12_low_1 (by rw [c71]; decide) (by rw [c71]; decide) (by rw [c71]; rfl) (by decide) ?_
    refine sx_wk (sx_s1 sx_m0 (sx_s1 sx_m1 sx_s0)) ?_
    exact tB_X12_low_204 hG hP  h
  have h := sx_neg c71 h
  by_cases c72 : l1 = 6
  · have h := sx_pos c72 h
    refine sx_tabI (pc := 1) (off := 234) (tgt := 235) dX12_low_1 (by rw [c72]; decide) (by rw [c72]; decide) (by rw [c72]; rfl) (by decide) ?_
    refine sx_wk (sx_s1 sx_m0 (sx_s1 sx_m1 sx_s0)) ?_
    exact tB_X12_low_235 hG hP  h
  have h := sx_neg c72 h
  by_cases c73 : l1 = 7
  · have h := sx_pos c73 h
    refine sx_tabI (pc := 1) (off := 234) (tgt := 235) dX12_low_1 (by rw [c73]; decide) (by rw [c73]; decide) (by rw [c73]; rfl) (by decide) ?_
    refine sx_wk (sx_s1 sx_m0 (sx_s1 sx_m1 sx_s0)) ?_
    exact tB_X12_low_235 hG hP  h
  have h := sx_neg c73 h
  by_cases c74 : l1 = 8
  · have h := sx_pos c74 h
    refine sx_tabI (pc := 1) (off := 234) (tgt := 235) dX12_low_1 (by rw [c74]; decide) (by rw [c74]; decide) (by rw [c74]; rfl) (by decide) ?_
    refine sx_wk (sx_s1 sx_m0 (sx_s1 sx_m1 sx_s0)) ?_
    exact tB_X12_low_235 hG hP  h
  have h := sx_neg c74 h
  by_cases c75 : l1 = 9
  · have h := sx_pos c75 h
    refine sx_tabI (pc := 1) (off := 234) (tgt := 235) dX12_low_1 (by rw [c75]; decide) (by rw [c75]; decide) (by rw [c75]; rfl) (by decide) ?_
    refine sx_wk (sx_s1 sx_m0 (sx_s1 sx_m1 sx_s0)) ?_
    exact tB_X12_low_235 hG hP  h
  have h := sx_neg c75 h
  by_cases c76 : l1 = 10
  · have h := sx_pos c76 h
    refine sx_tabI (pc := 1) (off := 384) (tgt := 385) dX12_low_1 (by rw [c76]; decide) (by rw [c76]; decide) (by rw [c76]; rfl) (by decide) ?_
    refine sx_wk (sx_s1 sx_m0 (sx_s1 sx_m1 sx_s0)) ?_
    exact tB_X12_low_385 hG hP  h
  have h := sx_neg c76 h
  by_cases c77 : l1 = 11
  · have h := sx_pos c77 h
    refine sx_tabI (pc := 1) (off := 384) (tgt := 385) dX12_low_1 (by rw [c77]; decide) (by rw [c77]; decide) (by rw [c77]; rfl) (by decide) ?_
    refine sx_wk (sx_s1 sx_m0 (sx_s1 sx_m1 sx_s0)) ?_
    exact tB_X12_low_385 hG hP  h
  have h := sx_neg c77 h
  by_cases c78 : l1 = 12
  · have h := sx_pos c78 h
    refine sx_tabI (pc := 1) (off := 445) (tgt := 446) dX12_low_1 (by rw [c78]; decide) (by rw [c78]; decide) (by rw [c78]; rfl) (by decide) ?_
    refine sx_aload_n (pc := 446) dX12_low_446 sx_m0 ?_
    refine sx_aload_n (pc := 447) dX12_low_447 sx_m0 ?_
    refine sv_getI (pc := 448) hG dX12_low_448 f_12_439 lay_146 rfl ?_
    refine sx_i2l (pc := 451) dX12_low_451 ?_
    obtain ⟨V79, g80, h⟩ := sx_bnd h
    refine sv_cV (pc := 452) (y := qX12_push) (o := none) (as := [.long ((V.1 146 65).toInt64)]) (V1 := V79) hG dX12_low_452 l_X12_564 y0X12_push yvX12_push rfl (Nat.le_of_ble_eq_true rfl) lay_146 kr_12 (by decide) (Nat.le_of_ble_eq_true rfl) rfl rfl rfl (t_X12_push hG ⟨rfl, rfl⟩ g80) ?_
    refine sx_aload_n (pc := 455) dX12_low_455 sx_m0 ?_
    refine sx_aload_n (pc := 456) dX12_low_456 sx_m0 ?_
    refine sv_getI (pc := 457) hG dX12_low_457 f_12_442 lay_146 rfl ?_
    refine sx_i2l (pc := 460) dX12_low_460 ?_
    obtain ⟨V81, g82, h⟩ := sx_bnd h
    refine sv_cV (pc := 461) (y := qX12_push) (o := none) (as := [.long ((V79.1 146 66).toInt64)]) (V1 := V81) hG dX12_low_461 l_X12_564 y0X12_push yvX12_push rfl (Nat.le_of_ble_eq_true rfl) lay_146 kr_12 (by decide) (Nat.le_of_ble_eq_true rfl) rfl rfl rfl (t_X12_push hG ⟨rfl, rfl⟩ g82) ?_
    exact sv_vret (pc := 464) dX12_low_464 rfl h hP
  have h := sx_neg c78 h
  by_cases c83 : l1 = 13
  · have h := sx_pos c83 h
    refine sx_tabI (pc := 1) (off := 464) (tgt := 465) dX12_low_1 (by rw [c83]; decide) (by rw [c83]; decide) (by rw [c83]; rfl) (by decide) ?_
    refine sx_aload_n (pc := 465) dX12_low_465 sx_m0 ?_
    refine sx_aload_n (pc := 466) dX12_low_466 sx_m0 ?_
    refine sv_getI (pc := 467) hG dX12_low_467 f_12_433 lay_146 rfl ?_
    refine sx_i2l (pc := 470) dX12_low_470 ?_
    obtain ⟨V84, g85, h⟩ := sx_bnd h
    refine sv_cV (pc := 471) (y := qX12_push) (o := none) (as := [.long ((V.1 146 63).toInt64)]) (V1 := V84) hG dX12_low_471 l_X12_564 y0X12_push yvX12_push rfl (Nat.le_of_ble_eq_true rfl) lay_146 kr_12 (by decide) (Nat.le_of_ble_eq_true rfl) rfl rfl rfl (t_X12_push hG ⟨rfl, rfl⟩ g85) ?_
    refine sx_aload_n (pc := 474) dX12_low_474 sx_m0 ?_
    refine sx_aload_n (pc := 475) dX12_low_475 sx_m0 ?_
    refine sv_getI (pc := 476) hG dX12_low_476 f_12_436 lay_146 rfl ?_
    refine sx_i2l (pc := 479) dX12_low_479 ?_
    obtain ⟨V86, g87, h⟩ := sx_bnd h
    refine sv_cV (pc := 480) (y := qX12_push) (o := none) (as := [.long ((V84.1 146 64).toInt64)]) (V1 := V86) hG dX12_low_480 l_X12_564 y0X12_push yvX12_push rfl (Nat.le_of_ble_eq_true rfl) lay_146 kr_12 (by decide) (Nat.le_of_ble_eq_true rfl) rfl rfl rfl (t_X12_push hG ⟨rfl, rfl⟩ g87) ?_
    exact sv_vret (pc := 483) dX12_low_483 rfl h hP
  have h := sx_neg c83 h
  by_cases c88 : l1 = 14
  · have h := sx_pos c88 h
    refine sx_tabI (pc := 1) (off := 483) (tgt := 484) dX12_low_1 (by rw [c88]; decide) (by rw [c88]; decide) (by rw [c88]; rfl) (by decide) ?_
    refine sx_aload_n (pc := 484) dX12_low_484 sx_m0 ?_
    refine sx_aload_n (pc := 485) dX12_low_485 sx_m0 ?_
    refine sv_getI (pc := 486) hG dX12_low_486 f_12_439 lay_146 rfl ?_
    obtain ⟨V89, hV89⟩ : ∃ z : sv_V, z = sv_I V 146 63 (V.1 146 65) := ⟨_, rfl⟩
    have h := sx_letE hV89 h
    refine sv_putI (pc := 489) hG dX12_low_489 f_12_433 lay_146 rfl hV89 ?_
    refine sx_aload_n (pc := 492) dX12_low_492 sx_m0 ?_
    refine sx_aload_n (pc := 493) dX12_low_493 sx_m0 ?_
    refine sv_getI (pc := 494) hG dX12_low_494 f_12_442 lay_146 rfl ?_
    obtain ⟨V90, hV90⟩ : ∃ z : sv_V, z = sv_I V89 146 64 (V89.1 146 66) := ⟨_, rfl⟩
    have h := sx_letE hV90 h
    refine sv_putI (pc := 497) hG dX12_low_497 f_12_436 lay_146 rfl hV90 ?_
    exact sv_vret (pc := 500) dX12_low_500 rfl h hP
  have h := sx_neg c88 h
  by_cases c91 : l1 = 15
  · have h := sx_pos c91 h
    refine sx_tabI (pc := 1) (off := 758) (tgt := 759) dX12_low_1 (by rw [c91]; decide) (by rw [c91]; decide) (by rw [c91]; rfl) (by decide) ?_
    refine sx_wk (sx_s1 sx_m0 (sx_s1 sx_m1 sx_s0)) ?_
    exact tB_X12_low_759 hG hP  h
  have h := sx_neg c91 h
  by_cases c92 : l1 = 16
  · have h := sx_pos c92 h
    refine sx_tabI (pc := 1) (off := 500) (tgt := 501) dX12_low_1 (by rw [c92]; decide) (by rw [c92]; decide) (by rw [c92]; rfl) (by decide) ?_
    refine sx_aload_n (pc := 501) dX12_low_501 sx_m0 ?_
    refine sx_aload_n (pc := 502) dX12_low_502 sx_m0 ?_
    refine sx_iconst (pc := 503) (v := 1) dX12_low_503 (by decide) ?_
    obtain ⟨⟨x95, V93⟩, g94, h⟩ := sx_bnd h
    refine sv_cV (pc := 504) (y := qX12_has) (o := (some (.int x95))) (as := [.int (1 : Int32)]) (V1 := V93) hG dX12_low_504 l_X12_576 y0X12_has yvX12_has rfl (Nat.le_of_ble_eq_true rfl) lay_146 kr_12 (by decide) (Nat.le_of_ble_eq_true rfl) rfl rfl rfl (t_X12_has hG ⟨rfl, rfl⟩ g94) ?_
    refine sx_if_eq (pc := 507) (tgt := 517) dX12_low_507 (by decide) (fun c96 => ?_) (fun c96 => ?_)
    · have h := sx_pos c96 h
      refine sx_iconst (pc := 517) (v := 0) dX12_low_517 (by decide) ?_
      obtain ⟨V97, hV97⟩ : ∃ z : sv_V, z = sv_I V93 146 69 (0 : Int32) := ⟨_, rfl⟩
      have h := sx_letE hV97 h
      refine sv_putI (pc := 518) hG dX12_low_518 f_12_451 lay_146 rfl hV97 ?_
      exact sv_vret (pc := 521) dX12_low_521 rfl h hP
    · have h := sx_neg c96 h
      refine sx_aload_n (pc := 510) dX12_low_510 sx_m0 ?_
      obtain ⟨⟨x100, V98⟩, g99, h⟩ := sx_bnd h
      refine sv_cV (pc := 511) (y := qX12_pop) (o := (some (.int x100))) (as := []) (V1 := V98) hG dX12_low_511 l_X12_579 y0X12_pop yvX12_pop rfl (Nat.le_of_ble_eq_true rfl) lay_146 kr_12 (by decide) (Nat.le_of_ble_eq_true rfl) rfl rfl rfl (t_X12_pop hG ⟨rfl, rfl⟩ g99) ?_
      refine sx_goto (pc := 514) (tgt := 518) dX12_low_514 (by decide) ?_
      obtain ⟨V101, hV101⟩ : ∃ z : sv_V, z = sv_I V98 146 69 x100 := ⟨_, rfl⟩
      have h := sx_letE hV101 h
      refine sv_putI (pc := 518) hG dX12_low_518 f_12_451 lay_146 rfl hV101 ?_
      exact sv_vret (pc := 521) dX12_low_521 rfl h hP
  have h := sx_neg c92 h
  by_cases c102 : l1 = 17
  · have h := sx_pos c102 h
    refine sx_tabI (pc := 1) (off := 521) (tgt := 522) dX12_low_1 (by rw [c102]; decide) (by rw [c102]; decide) (by rw [c102]; rfl) (by decide) ?_
    refine sx_aload_n (pc := 522) dX12_low_522 sx_m0 ?_
    refine sx_aload_n (pc := 523) dX12_low_523 sx_m0 ?_
    refine sx_iconst (pc := 524) (v := 1) dX12_low_524 (by decide) ?_
    obtain ⟨⟨x105, V103⟩, g104, h⟩ := sx_bnd h
    refine sv_cV (pc := 525) (y := qX12_has) (o := (some (.int x105))) (as := [.int (1 : Int32)]) (V1 := V103) hG dX12_low_525 l_X12_576 y0X12_has yvX12_has rfl (Nat.le_of_ble_eq_true rfl) lay_146 kr_12 (by decide) (Nat.le_of_ble_eq_true rfl) rfl rfl rfl (t_X12_has hG ⟨rfl, rfl⟩ g104) ?_
    refine sx_if_eq (pc := 528) (tgt := 538) dX12_low_528 (by decide) (fun c106 => ?_) (fun c106 => ?_)
    · have h := sx_pos c106 h
      refine sx_iconst (pc := 538) (v := 0) dX12_low_538 (by decide) ?_
      obtain ⟨V107, hV107⟩ : ∃ z : sv_V, z = sv_I V103 146 70 (0 : Int32) := ⟨_, rfl⟩
      have h := sx_letE hV107 h
      refine sv_putI (pc := 539) hG dX12_low_539 f_12_454 lay_146 rfl hV107 ?_
      exact sv_vret (pc := 542) dX12_low_542 rfl h hP
    · have h := sx_neg c106 h
      refine sx_aload_n (pc := 531) dX12_low_531 sx_m0 ?_
      obtain ⟨⟨x110, V108⟩, g109, h⟩ := sx_bnd h
      refine sv_cV (pc := 532) (y := qX12_pop) (o := (some (.int x110))) (as := []) (V1 := V108) hG dX12_low_532 l_X12_579 y0X12_pop yvX12_pop rfl (Nat.le_of_ble_eq_true rfl) lay_146 kr_12 (by decide) (Nat.le_of_ble_eq_true rfl) rfl rfl rfl (t_X12_pop hG ⟨rfl, rfl⟩ g109) ?_
      refine sx_goto (pc := 535) (tgt := 539) dX12_low_535 (by decide) ?_
      obtain ⟨V111, hV111⟩ : ∃ z : sv_V, z = sv_I V108 146 70 x110 := ⟨_, rfl⟩
      have h := sx_letE hV111 h
      refine sv_putI (pc := 539) hG dX12_low_539 f_12_454 lay_146 rfl hV111 ?_
      exact sv_vret (pc := 542) dX12_low_542 rfl h hP
  have h := sx_neg c102 h
  by_cases c112 : l1 = 18
  · have h := sx_pos c112 h
    refine sx_tabI (pc := 1) (off := 542) (tgt := 543) dX12_low_1 (by rw [c112]; decide) (by rw [c112]; decide) (by rw [c112]; rfl) (by decide) ?_
    refine sx_aload_n (pc := 543) dX12_low_543 sx_m0 ?_
    refine sx_aload_n (pc := 544) dX12_low_544 sx_m0 ?_
    refine sx_iconst (pc := 545) (v := 1) dX12_low_545 (by decide) ?_
    obtain ⟨⟨x115, V113⟩, g114, h⟩ := sx_bnd h
    refine sv_cV (pc := 546) (y := qX12_has) (o := (some (.int x115))) (as := [.int (1 : Int32)]) (V1 := V113) hG dX12_low_546 l_X12_576 y0X12_has yvX12_has rfl (Nat.le_of_ble_eq_true rfl) lay_146 kr_12 (by decide) (Nat.le_of_ble_eq_true rfl) rfl rfl rfl (t_X12_has hG ⟨rfl, rfl⟩ g114) ?_
    refine sx_if_eq (pc := 549) (tgt := 559) dX12_low_549 (by decide) (fun c116 => ?_) (fun c116 => ?_)
    · have h := sx_pos c116 h
      refine sx_iconst (pc := 559) (v := 0) dX12_low_559 (by decide) ?_
      obtain ⟨V117, hV117⟩ : ∃ z : sv_V, z = sv_I V113 146 71 (0 : Int32) := ⟨_, rfl⟩
      have h := sx_letE hV117 h
      refine sv_putI (pc := 560) hG dX12_low_560 f_12_457 lay_146 rfl hV117 ?_
      exact sv_vret (pc := 563) dX12_low_563 rfl h hP
    · have h := sx_neg c116 h
      refine sx_aload_n (pc := 552) dX12_low_552 sx_m0 ?_
      obtain ⟨⟨x120, V118⟩, g119, h⟩ := sx_bnd h
      refine sv_cV (pc := 553) (y := qX12_pop) (o := (some (.int x120))) (as := []) (V1 := V118) hG dX12_low_553 l_X12_579 y0X12_pop yvX12_pop rfl (Nat.le_of_ble_eq_true rfl) lay_146 kr_12 (by decide) (Nat.le_of_ble_eq_true rfl) rfl rfl rfl (t_X12_pop hG ⟨rfl, rfl⟩ g119) ?_
      refine sx_goto (pc := 556) (tgt := 560) dX12_low_556 (by decide) ?_
      obtain ⟨V121, hV121⟩ : ∃ z : sv_V, z = sv_I V118 146 71 x120 := ⟨_, rfl⟩
      have h := sx_letE hV121 h
      refine sv_putI (pc := 560) hG dX12_low_560 f_12_457 lay_146 rfl hV121 ?_
      exact sv_vret (pc := 563) dX12_low_563 rfl h hP
  have h := sx_neg c112 h
  by_cases c122 : l1 = 19
  · have h := sx_pos c122 h
    refine sx_tabI (pc := 1) (off := 563) (tgt := 564) dX12_low_1 (by rw [c122]; decide) (by rw [c122]; decide) (by rw [c122]; rfl) (by decide) ?_
    refine sx_wk (sx_s1 sx_m0 (sx_s1 sx_m1 sx_s0)) ?_
    exact tB_X12_low_564 hG hP  h
  have h := sx_neg c122 h
  by_cases c123 : l1 = 20
  · have h := sx_pos c123 h
    refine sx_tabI (pc := 1) (off := 563) (tgt := 564) dX12_low_1 (by rw [c123]; decide) (by rw [c123]; decide) (by rw [c123]; rfl) (by decide) ?_
    refine sx_wk (sx_s1 sx_m0 (sx_s1 sx_m1 sx_s0)) ?_
    exact tB_X12_low_564 hG hP  h
  have h := sx_neg c123 h
  by_cases c124 : l1 = 21
  · have h := sx_pos c124 h
    refine sx_tabI (pc := 1) (off := 563) (tgt := 564) dX12_low_1 (by rw [c124]; decide) (by rw [c124]; decide) (by rw [c124]; rfl) (by decide) ?_
    refine sx_wk (sx_s1 sx_m0 (sx_s1 sx_m1 sx_s0)) ?_
    exact tB_X12_low_564 hG hP  h
  have h := sx_neg c124 h
  by_cases c125 : l1 = 22
  · have h := sx_pos c125 h
    refine sx_tabI (pc := 1) (off := 563) (tgt := 564) dX12_low_1 (by rw [c125]; decide) (by rw [c125]; decide) (by rw [c125]; rfl) (by decide) ?_
    refine sx_wk (sx_s1 sx_m0 (sx_s1 sx_m1 sx_s0)) ?_
    exact tB_X12_low_564 hG hP  h
  have h := sx_neg c125 h
  by_cases c126 : l1 = 23
  · have h := sx_pos c126 h
    refine sx_tabI (pc := 1) (off := 569) (tgt := 570) dX12_low_1 (by rw [c126]; decide) (by rw [c126]; decide) (by rw [c126]; rfl) (by decide) ?_
    refine sx_aload_n (pc := 570) dX12_low_570 sx_m0 ?_
    refine sx_iconst (pc := 571) (v := 1) dX12_low_571 (by decide) ?_
    obtain ⟨⟨x129, V127⟩, g128, h⟩ := sx_bnd h
    refine sv_cV (pc := 572) (y := qX12_has) (o := (some (.int x129))) (as := [.int (1 : Int32)]) (V1 := V127) hG dX12_low_572 l_X12_576 y0X12_has yvX12_has rfl (Nat.le_of_ble_eq_true rfl) lay_146 kr_12 (by decide) (Nat.le_of_ble_eq_true rfl) rfl rfl rfl (t_X12_has hG ⟨rfl, rfl⟩ g128) ?_
    refine sx_if_eq (pc := 575) (tgt := 606) dX12_low_575 (by decide) (fun c130 => ?_) (fun c130 => ?_)
    · have h := sx_pos c130 h
      exact sv_vret (pc := 606) dX12_low_606 rfl h hP
    · have h := sx_neg c130 h
      refine sx_aload_n (pc := 578) dX12_low_578 sx_m0 ?_
      obtain ⟨⟨x133, V131⟩, g132, h⟩ := sx_bnd h
      refine sv_cV (pc := 579) (y := qX12_pop) (o := (some (.int x133))) (as := []) (V1 := V131) hG dX12_low_579 l_X12_579 y0X12_pop yvX12_pop rfl (Nat.le_of_ble_eq_true rfl) lay_146 kr_12 (by decide) (Nat.le_of_ble_eq_true rfl) rfl rfl rfl (t_X12_pop hG ⟨rfl, rfl⟩ g132) ?_
      refine sx_istore_n (pc := 582) (lo' := [(2, .int x133), (0, .ref 146), (1, .int l1)]) dX12_low_582 (by decide) rfl ?_
      refine sx_iload_n (pc := 583) dX12_low_583 sx_m0 ?_
      refine sx_i2l (pc := 584) dX12_low_584 ?_
      refine sx_lconst (pc := 585) (v := 1) dX12_low_585 rfl ?_
      refine sx_ldc2 (pc := 586) dX12_low_586 k_X12_593 ?_
      obtain ⟨⟨x136, V134⟩, g135, h⟩ := sx_bnd h
      refine sv_cS (pc := 589) (y := qX12_in) (o := (some (.int x136))) (as := [.long x133.toInt64, .long (1 : Int64), .long (65535 : Int64)]) (V1 := V134) dX12_low_589 l_X12_263 y0X12_in ysX12_in rfl (Nat.le_of_ble_eq_true rfl) (by decide) (Nat.le_of_ble_eq_true rfl) rfl rfl rfl (t_X12_in hG ⟨rfl, rfl⟩ g135) ?_
      refine sx_if_ne (pc := 592) (tgt := 601) dX12_low_592 (by decide) (fun c137 => ?_) (fun c137 => ?_)
      · have h := sx_neg c137 h
        refine sx_aload_n (pc := 601) dX12_low_601 sx_m1 ?_
        refine sx_iload_n (pc := 602) dX12_low_602 sx_m0 ?_
        obtain ⟨V138, hV138⟩ : ∃ z : sv_V, z = sv_I V134 146 75 x133 := ⟨_, rfl⟩
        have h := sx_letE hV138 h
        refine sv_putI (pc := 603) hG dX12_low_603 f_12_469 lay_146 rfl hV138 ?_
        exact sv_vret (pc := 606) dX12_low_606 rfl h hP
      · have h := sx_pos c137 h
        refine sx_aload_n (pc := 595) dX12_low_595 sx_m1 ?_
        refine sx_bipush (pc := 596) (v := 11) dX12_low_596 (by decide) ?_
        obtain ⟨V139, g140, h⟩ := sx_bnd h
        refine sv_cV (pc := 598) (y := qX12_fail) (o := none) (as := [.int (11 : Int32)]) (V1 := V139) hG dX12_low_598 l_X12_421 y0X12_fail yvX12_fail rfl (Nat.le_of_ble_eq_true rfl) lay_146 kr_12 (by decide) (Nat.le_of_ble_eq_true rfl) rfl rfl rfl (t_X12_fail hG ⟨rfl, rfl⟩ g140) ?_
        refine sx_aload_n (pc := 601) dX12_low_601 sx_m1 ?_
        refine sx_iload_n (pc := 602) dX12_low_602 sx_m0 ?_
        obtain ⟨V141, hV141⟩ : ∃ z : sv_V, z = sv_I V139 146 75 x133 := ⟨_, rfl⟩
        have h := sx_letE hV141 h
        refine sv_putI (pc := 603) hG dX12_low_603 f_12_469 lay_146 rfl hV141 ?_
        exact sv_vret (pc := 606) dX12_low_606 rfl h hP
  have h := sx_neg c126 h
  by_cases c142 : l1 = 24
  · have h := sx_pos c142 h
    refine sx_tabI (pc := 1) (off := 606) (tgt := 607) dX12_low_1 (by rw [c142]; decide) (by rw [c142]; decide) (by rw [c142]; rfl) (by decide) ?_
    refine sx_aload_n (pc := 607) dX12_low_607 sx_m0 ?_
    refine sx_bipush (pc := 608) (v := 24) dX12_low_608 (by decide) ?_
    refine sx_bipush (pc := 610) (v := 64) dX12_low_610 (by decide) ?_
    refine sx_iconst (pc := 612) (v := 0) dX12_low_612 (by decide) ?_
    refine sx_bipush (pc := 613) (v := 32) dX12_low_613 (by decide) ?_
    obtain ⟨V143, g144, h⟩ := sx_bnd h
    refine sv_cV (pc := 615) (y := qX12_setRounding) (o := none) (as := [.int (24 : Int32), .int (64 : Int32), .int (0 : Int32), .int (32 : Int32)]) (V1 := V143) hG dX12_low_615 l_X12_472 y0X12_setRounding yvX12_setRounding rfl (Nat.le_of_ble_eq_true rfl) lay_146 kr_12 (by decide) (Nat.le_of_ble_eq_true rfl) rfl rfl rfl (t_X12_setRounding hG ⟨rfl, rfl⟩ g144) ?_
    exact sv_vret (pc := 618) dX12_low_618 rfl h hP
  have h := sx_neg c142 h
  by_cases c145 : l1 = 25
  · have h := sx_pos c145 h
    refine sx_tabI (pc := 1) (off := 618) (tgt := 619) dX12_low_1 (by rw [c145]; decide) (by rw [c145]; decide) (by rw [c145]; rfl) (by decide) ?_
    refine sx_aload_n (pc := 619) dX12_low_619 sx_m0 ?_
    refine sx_bipush (pc := 620) (v := 25) dX12_low_620 (by decide) ?_
    refine sx_bipush (pc := 622) (v := 64) dX12_low_622 (by decide) ?_
    refine sx_bipush (pc := 624) (v := 32) dX12_low_624 (by decide) ?_
    refine sx_bipush (pc := 626) (v := 32) dX12_low_626 (by decide) ?_
    obtain ⟨V146, g147, h⟩ := sx_bnd h
    refine sv_cV (pc := 628) (y := qX12_setRounding) (o := none) (as := [.int (25 : Int32), .int (64 : Int32), .int (32 : Int32), .int (32 : Int32)]) (V1 := V146) hG dX12_low_628 l_X12_472 y0X12_setRounding yvX12_setRounding rfl (Nat.le_of_ble_eq_true rfl) lay_146 kr_12 (by decide) (Nat.le_of_ble_eq_true rfl) rfl rfl rfl (t_X12_setRounding hG ⟨rfl, rfl⟩ g147) ?_
    exact sv_vret (pc := 631) dX12_low_631 rfl h hP
  have h := sx_neg c145 h
  by_cases c148 : l1 = 26
  · have h := sx_pos c148 h
    refine sx_tabI (pc := 1) (off := 631) (tgt := 632) dX12_low_1 (by rw [c148]; decide) (by rw [c148]; decide) (by rw [c148]; rfl) (by decide) ?_
    refine sx_aload_n (pc := 632) dX12_low_632 sx_m0 ?_
    refine sx_aload_n (pc := 633) dX12_low_633 sx_m0 ?_
    refine sx_iconst (pc := 634) (v := 1) dX12_low_634 (by decide) ?_
    obtain ⟨⟨x151, V149⟩, g150, h⟩ := sx_bnd h
    refine sv_cV (pc := 635) (y := qX12_has) (o := (some (.int x151))) (as := [.int (1 : Int32)]) (V1 := V149) hG dX12_low_635 l_X12_576 y0X12_has yvX12_has rfl (Nat.le_of_ble_eq_true rfl) lay_146 kr_12 (by decide) (Nat.le_of_ble_eq_true rfl) rfl rfl rfl (t_X12_has hG ⟨rfl, rfl⟩ g150) ?_
    refine sx_if_eq (pc := 638) (tgt := 648) dX12_low_638 (by decide) (fun c152 => ?_) (fun c152 => ?_)
    · have h := sx_pos c152 h
      refine sx_iconst (pc := 648) (v := 0) dX12_low_648 (by decide) ?_
      obtain ⟨V153, hV153⟩ : ∃ z : sv_V, z = sv_I V149 146 83 (0 : Int32) := ⟨_, rfl⟩
      have h := sx_letE hV153 h
      refine sv_putI (pc := 649) hG dX12_low_649 f_12_595 lay_146 rfl hV153 ?_
      exact sv_vret (pc := 652) dX12_low_652 rfl h hP
    · have h := sx_neg c152 h
      refine sx_aload_n (pc := 641) dX12_low_641 sx_m0 ?_
      obtain ⟨⟨x156, V154⟩, g155, h⟩ := sx_bnd h
      refine sv_cV (pc := 642) (y := qX12_pop) (o := (some (.int x156))) (as := []) (V1 := V154) hG dX12_low_642 l_X12_579 y0X12_pop yvX12_pop rfl (Nat.le_of_ble_eq_true rfl) lay_146 kr_12 (by decide) (Nat.le_of_ble_eq_true rfl) rfl rfl rfl (t_X12_pop hG ⟨rfl, rfl⟩ g155) ?_
      refine sx_goto (pc := 645) (tgt := 649) dX12_low_645 (by decide) ?_
      obtain ⟨V157, hV157⟩ : ∃ z : sv_V, z = sv_I V154 146 83 x156 := ⟨_, rfl⟩
      have h := sx_letE hV157 h
      refine sv_putI (pc := 649) hG dX12_low_649 f_12_595 lay_146 rfl hV157 ?_
      exact sv_vret (pc := 652) dX12_low_652 rfl h hP
  have h := sx_neg c148 h
  by_cases c158 : l1 = 27
  · have h := sx_pos c158 h
    refine sx_tabI (pc := 1) (off := 652) (tgt := 653) dX12_low_1 (by rw [c158]; decide) (by rw [c158]; decide) (by rw [c158]; rfl) (by decide) ?_
    refine sx_aload_n (pc := 653) dX12_low_653 sx_m0 ?_
    refine sx_aload_n (pc := 654) dX12_low_654 sx_m0 ?_
    refine sv_getI (pc := 655) hG dX12_low_655 f_12_496 lay_146 rfl ?_
    refine sx_bipush (pc := 658) (v := 89) dX12_low_658 (by decide) ?_
    refine sx_bipush (pc := 660) (v := 89) dX12_low_660 (by decide) ?_
    refine sx_iconst (pc := 662) (v := 1) dX12_low_662 (by decide) ?_
    obtain ⟨⟨x161, V159⟩, g160, h⟩ := sx_bnd h
    refine sv_cV (pc := 663) (y := qX12_pass) (o := (some (.int x161))) (as := [.int (V.1 146 93), .int (89 : Int32), .int (89 : Int32), .int (1 : Int32)]) (V1 := V159) hG dX12_low_663 l_X12_598 y0X12_pass yvX12_pass rfl (Nat.le_of_ble_eq_true rfl) lay_146 kr_12 (by decide) (Nat.le_of_ble_eq_true rfl) rfl rfl rfl (t_X12_pass hG ⟨rfl, rfl⟩ g160) ?_
    refine sx_istore_n (pc := 666) (lo' := [(2, .int x161), (0, .ref 146), (1, .int l1)]) dX12_low_666 (by decide) rfl ?_
    refine sx_aload_n (pc := 667) dX12_low_667 sx_m1 ?_
    refine sx_iload_n (pc := 668) dX12_low_668 sx_m0 ?_
    obtain ⟨V162, hV162⟩ : ∃ z : sv_V, z = sv_I V159 146 93 x161 := ⟨_, rfl⟩
    have h := sx_letE hV162 h
    refine sv_putI (pc := 669) hG dX12_low_669 f_12_496 lay_146 rfl hV162 ?_
    exact sv_vret (pc := 672) dX12_low_672 rfl h hP
  have h := sx_neg c158 h
  by_cases c163 : l1 = 28
  · have h := sx_pos c163 h
    refine sx_tabI (pc := 1) (off := 672) (tgt := 673) dX12_low_1 (by rw [c163]; decide) (by rw [c163]; decide) (by rw [c163]; rfl) (by decide) ?_
    refine sx_aload_n (pc := 673) dX12_low_673 sx_m0 ?_
    refine sx_iconst (pc := 674) (v := 1) dX12_low_674 (by decide) ?_
    obtain ⟨⟨x166, V164⟩, g165, h⟩ := sx_bnd h
    refine sv_cV (pc := 675) (y := qX12_has) (o := (some (.int x166))) (as := [.int (1 : Int32)]) (V1 := V164) hG dX12_low_675 l_X12_576 y0X12_has yvX12_has rfl (Nat.le_of_ble_eq_true rfl) lay_146 kr_12 (by decide) (Nat.le_of_ble_eq_true rfl) rfl rfl rfl (t_X12_has hG ⟨rfl, rfl⟩ g165) ?_
    refine sx_if_eq (pc := 678) (tgt := 690) dX12_low_678 (by decide) (fun c167 => ?_) (fun c167 => ?_)
    · have h := sx_pos c167 h
      exact sv_vret (pc := 690) dX12_low_690 rfl h hP
    · have h := sx_neg c167 h
      refine sx_aload_n (pc := 681) dX12_low_681 sx_m0 ?_
      refine sx_aload_n (pc := 682) dX12_low_682 sx_m0 ?_
      obtain ⟨⟨x170, V168⟩, g169, h⟩ := sx_bnd h
      refine sv_cV (pc := 683) (y := qX12_pop) (o := (some (.int x170))) (as := []) (V1 := V168) hG dX12_low_683 l_X12_579 y0X12_pop yvX12_pop rfl (Nat.le_of_ble_eq_true rfl) lay_146 kr_12 (by decide) (Nat.le_of_ble_eq_true rfl) rfl rfl rfl (t_X12_pop hG ⟨rfl, rfl⟩ g169) ?_
      refine sx_i2l (pc := 686) dX12_low_686 ?_
      obtain ⟨V171, g172, h⟩ := sx_bnd h
      refine sv_cV (pc := 687) (y := qX12_jump) (o := none) (as := [.long x170.toInt64]) (V1 := V171) hG dX12_low_687 l_X12_602 y0X12_jump yvX12_jump rfl (Nat.le_of_ble_eq_true rfl) lay_146 kr_12 (by decide) (Nat.le_of_ble_eq_true rfl) rfl rfl rfl (t_X12_jump hG ⟨rfl, rfl⟩ g172) ?_
      exact sv_vret (pc := 690) dX12_low_690 rfl h hP
  have h := sx_neg c163 h
  by_cases c173 : l1 = 29
  · have h := sx_pos c173 h
    refine sx_tabI (pc := 1) (off := 690) (tgt := 691) dX12_low_1 (by rw [c173]; decide) (by rw [c173]; decide) (by rw [c173]; rfl) (by decide) ?_
    refine sx_aload_n (pc := 691) dX12_low_691 sx_m0 ?_
    refine sx_aload_n (pc := 692) dX12_low_692 sx_m0 ?_
    refine sx_iconst (pc := 693) (v := 1) dX12_low_693 (by decide) ?_
    obtain ⟨⟨x176, V174⟩, g175, h⟩ := sx_bnd h
    refine sv_cV (pc := 694) (y := qX12_has) (o := (some (.int x176))) (as := [.int (1 : Int32)]) (V1 := V174) hG dX12_low_694 l_X12_576 y0X12_has yvX12_has rfl (Nat.le_of_ble_eq_true rfl) lay_146 kr_12 (by decide) (Nat.le_of_ble_eq_true rfl) rfl rfl rfl (t_X12_has hG ⟨rfl, rfl⟩ g175) ?_
    refine sx_if_eq (pc := 697) (tgt := 707) dX12_low_697 (by decide) (fun c177 => ?_) (fun c177 => ?_)
    · have h := sx_pos c177 h
      refine sx_iconst (pc := 707) (v := 0) dX12_low_707 (by decide) ?_
      obtain ⟨V178, hV178⟩ : ∃ z : sv_V, z = sv_I V174 146 80 (0 : Int32) := ⟨_, rfl⟩
      have h := sx_letE hV178 h
      refine sv_putI (pc := 708) hG dX12_low_708 f_12_605 lay_146 rfl hV178 ?_
      exact sv_vret (pc := 711) dX12_low_711 rfl h hP
    · have h := sx_neg c177 h
      refine sx_aload_n (pc := 700) dX12_low_700 sx_m0 ?_
      obtain ⟨⟨x181, V179⟩, g180, h⟩ := sx_bnd h
      refine sv_cV (pc := 701) (y := qX12_pop) (o := (some (.int x181))) (as := []) (V1 := V179) hG dX12_low_701 l_X12_579 y0X12_pop yvX12_pop rfl (Nat.le_of_ble_eq_true rfl) lay_146 kr_12 (by decide) (Nat.le_of_ble_eq_true rfl) rfl rfl rfl (t_X12_pop hG ⟨rfl, rfl⟩ g180) ?_
      refine sx_goto (pc := 704) (tgt := 708) dX12_low_704 (by decide) ?_
      obtain ⟨V182, hV182⟩ : ∃ z : sv_V, z = sv_I V179 146 80 x181 := ⟨_, rfl⟩
      have h := sx_letE hV182 h
      refine sv_putI (pc := 708) hG dX12_low_708 f_12_605 lay_146 rfl hV182 ?_
      exact sv_vret (pc := 711) dX12_low_711 rfl h hP
  have h := sx_neg c173 h
  by_cases c183 : l1 = 30
  · have h := sx_pos c183 h
    refine sx_tabI (pc := 1) (off := 711) (tgt := 712) dX12_low_1 (by rw [c183]; decide) (by rw [c183]; decide) (by rw [c183]; rfl) (by decide) ?_
    refine sx_aload_n (pc := 712) dX12_low_712 sx_m0 ?_
    refine sx_aload_n (pc := 713) dX12_low_713 sx_m0 ?_
    refine sx_iconst (pc := 714) (v := 1) dX12_low_714 (by decide) ?_
    obtain ⟨⟨x186, V184⟩, g185, h⟩ := sx_bnd h
    refine sv_cV (pc := 715) (y := qX12_has) (o := (some (.int x186))) (as := [.int (1 : Int32)]) (V1 := V184) hG dX12_low_715 l_X12_576 y0X12_has yvX12_has rfl (Nat.le_of_ble_eq_true rfl) lay_146 kr_12 (by decide) (Nat.le_of_ble_eq_true rfl) rfl rfl rfl (t_X12_has hG ⟨rfl, rfl⟩ g185) ?_
    refine sx_if_eq (pc := 718) (tgt := 728) dX12_low_718 (by decide) (fun c187 => ?_) (fun c187 => ?_)
    · have h := sx_pos c187 h
      refine sx_iconst (pc := 728) (v := 0) dX12_low_728 (by decide) ?_
      obtain ⟨V188, hV188⟩ : ∃ z : sv_V, z = sv_I V184 146 82 (0 : Int32) := ⟨_, rfl⟩
      have h := sx_letE hV188 h
      refine sv_putI (pc := 729) hG dX12_low_729 f_12_608 lay_146 rfl hV188 ?_
      exact sv_vret (pc := 732) dX12_low_732 rfl h hP
    · have h := sx_neg c187 h
      refine sx_aload_n (pc := 721) dX12_low_721 sx_m0 ?_
      obtain ⟨⟨x191, V189⟩, g190, h⟩ := sx_bnd h
      refine sv_cV (pc := 722) (y := qX12_pop) (o := (some (.int x191))) (as := []) (V1 := V189) hG dX12_low_722 l_X12_579 y0X12_pop yvX12_pop rfl (Nat.le_of_ble_eq_true rfl) lay_146 kr_12 (by decide) (Nat.le_of_ble_eq_true rfl) rfl rfl rfl (t_X12_pop hG ⟨rfl, rfl⟩ g190) ?_
      refine sx_goto (pc := 725) (tgt := 729) dX12_low_725 (by decide) ?_
      obtain ⟨V192, hV192⟩ : ∃ z : sv_V, z = sv_I V189 146 82 x191 := ⟨_, rfl⟩
      have h := sx_letE hV192 h
      refine sv_putI (pc := 729) hG dX12_low_729 f_12_608 lay_146 rfl hV192 ?_
      exact sv_vret (pc := 732) dX12_low_732 rfl h hP
  have h := sx_neg c183 h
  by_cases c193 : l1 = 31
  · have h := sx_pos c193 h
    refine sx_tabI (pc := 1) (off := 732) (tgt := 733) dX12_low_1 (by rw [c193]; decide) (by rw [c193]; decide) (by rw [c193]; rfl) (by decide) ?_
    refine sx_aload_n (pc := 733) dX12_low_733 sx_m0 ?_
    refine sx_aload_n (pc := 734) dX12_low_734 sx_m0 ?_
    refine sx_iconst (pc := 735) (v := 1) dX12_low_735 (by decide) ?_
    obtain ⟨⟨x196, V194⟩, g195, h⟩ := sx_bnd h
    refine sv_cV (pc := 736) (y := qX12_has) (o := (some (.int x196))) (as := [.int (1 : Int32)]) (V1 := V194) hG dX12_low_736 l_X12_576 y0X12_has yvX12_has rfl (Nat.le_of_ble_eq_true rfl) lay_146 kr_12 (by decide) (Nat.le_of_ble_eq_true rfl) rfl rfl rfl (t_X12_has hG ⟨rfl, rfl⟩ g195) ?_
    refine sx_if_eq (pc := 739) (tgt := 754) dX12_low_739 (by decide) (fun c197 => ?_) (fun c197 => ?_)
    · have h := sx_pos c197 h
      refine sx_iconst (pc := 754) (v := 0) dX12_low_754 (by decide) ?_
      obtain ⟨V198, hV198⟩ : ∃ z : sv_V, z = sv_I V194 146 81 (0 : Int32) := ⟨_, rfl⟩
      have h := sx_letE hV198 h
      refine sv_putI (pc := 755) hG dX12_low_755 f_12_615 lay_146 rfl hV198 ?_
      exact sv_vret (pc := 758) dX12_low_758 rfl h hP
    · have h := sx_neg c197 h
      refine sx_aload_n (pc := 742) dX12_low_742 sx_m0 ?_
      refine sx_aload_n (pc := 743) dX12_low_743 sx_m0 ?_
      obtain ⟨⟨x201, V199⟩, g200, h⟩ := sx_bnd h
      refine sv_cV (pc := 744) (y := qX12_pop) (o := (some (.int x201))) (as := []) (V1 := V199) hG dX12_low_744 l_X12_579 y0X12_pop yvX12_pop rfl (Nat.le_of_ble_eq_true rfl) lay_146 kr_12 (by decide) (Nat.le_of_ble_eq_true rfl) rfl rfl rfl (t_X12_pop hG ⟨rfl, rfl⟩ g200) ?_
      refine sx_i2l (pc := 747) dX12_low_747 ?_
      obtain ⟨⟨x204, V202⟩, g203, h⟩ := sx_bnd h
      refine sv_cV (pc := 748) (y := qX12_scaled) (o := (some (.int x204))) (as := [.long x201.toInt64]) (V1 := V202) hG dX12_low_748 l_X12_611 y0X12_scaled yvX12_scaled rfl (Nat.le_of_ble_eq_true rfl) lay_146 kr_12 (by decide) (Nat.le_of_ble_eq_true rfl) rfl rfl rfl (t_X12_scaled hG ⟨rfl, rfl⟩ g203) ?_
      refine sx_goto (pc := 751) (tgt := 755) dX12_low_751 (by decide) ?_
      obtain ⟨V205, hV205⟩ : ∃ z : sv_V, z = sv_I V202 146 81 x204 := ⟨_, rfl⟩
      have h := sx_letE hV205 h
      refine sv_putI (pc := 755) hG dX12_low_755 f_12_615 lay_146 rfl hV205 ?_
      exact sv_vret (pc := 758) dX12_low_758 rfl h hP
  have h := sx_neg c193 h
  refine sx_tabO (pc := 1) (tgt := 759) dX12_low_1 (by have ec66 := lv_neT (a := 0) c66 rfl; have ec67 := lv_neT (a := 1) c67 rfl; have ec68 := lv_neT (a := 2) c68 rfl; have ec69 := lv_neT (a := 3) c69 rfl; have ec70 := lv_neT (a := 4) c70 rfl; have ec71 := lv_neT (a := 5) c71 rfl; have ec72 := lv_neT (a := 6) c72 rfl; have ec73 := lv_neT (a := 7) c73 rfl; have ec74 := lv_neT (a := 8) c74 rfl; have ec75 := lv_neT (a := 9) c75 rfl; have ec76 := lv_neT (a := 10) c76 rfl; have ec77 := lv_neT (a := 11) c77 rfl; have ec78 := lv_neT (a := 12) c78 rfl; have ec83 := lv_neT (a := 13) c83 rfl; have ec88 := lv_neT (a := 14) c88 rfl; have ec91 := lv_neT (a := 15) c91 rfl; have ec92 := lv_neT (a := 16) c92 rfl; have ec102 := lv_neT (a := 17) c102 rfl; have ec112 := lv_neT (a := 18) c112 rfl; have ec122 := lv_neT (a := 19) c122 rfl; have ec123 := lv_neT (a := 20) c123 rfl; have ec124 := lv_neT (a := 21) c124 rfl; have ec125 := lv_neT (a := 22) c125 rfl; have ec126 := lv_neT (a := 23) c126 rfl; have ec142 := lv_neT (a := 24) c142 rfl; have ec145 := lv_neT (a := 25) c145 rfl; have ec148 := lv_neT (a := 26) c148 rfl; have ec158 := lv_neT (a := 27) c158 rfl; have ec163 := lv_neT (a := 28) c163 rfl; have ec173 := lv_neT (a := 29) c173 rfl; have ec183 := lv_neT (a := 30) c183 rfl; have ec193 := lv_neT (a := 31) c193 rfl; omega) (by decide) ?_
  refine sx_wk (sx_s1 sx_m0 (sx_s1 sx_m1 sx_s0)) ?_
  exact tB_X12_low_759 hG hP  h
end
section
/-! methods: X12_tests, X12_loops, X5_run, X6_addParts, X12_check -/
def ncX12_tests : Nat := 191919333162691588180102597892094682135707632296506236133576401816219763628671525436794264056546061517628255733792444396262870558780329795190671293263440186288267995406121923019996092092853928367737307227734363371769574313317343329813038137694199830914864665285223938203573925540966280056777184220352131184395100320632527573079224033655186793715673598408746595740382967726290003533258933540173149678735276679426302289960937829596590974843422510707766602236044447247292844115332751915945591321029315471614699618521557535460137866009051117153840313807094661795819927069162662336506966487050716393881300201980638263476198898539934580085462414106708222955046447082084807947661550075851353183508867328448413437401483003191313035195424315825854292228052929237851541769525996139530485735255613286099836952468124983757211879271518107478319434247658287921918374837255110468052189206405695074211348759517871607635186874087491177362391529252387778803668713475438900001508551097877393914020537086149528700893489574560050766713832452761357466364043019368255792566250463876393499
theorem kcX12_tests : CK cX12_tests ncX12_tests 442 := ⟨by decide +kernel, by decide +kernel⟩
theorem dX12_tests_0 : decode cX12_tests 0 = .ok (.iload_n 1, 1) := dl_o27 kcX12_tests (by decide +kernel)
theorem dX12_tests_1 : decode cX12_tests 1 = .ok (.tableswitch 435 80 95 #[79, 79, 79, 79, 79, 79, 255, 255, 307, 340, 79, 79, 341, 370, 377, 398], 79) := by decide +kernel
theorem dX12_tests_80 : decode cX12_tests 80 = .ok (.aload_n 0, 1) := dl_o42 kcX12_tests (by decide +kernel)
theorem dX12_tests_81 : decode cX12_tests 81 = .ok (.iconst 2, 1) := dl_o5 kcX12_tests (by decide +kernel)
theorem dX12_tests_82 : decode cX12_tests 82 = .ok (.invokevirtual 576, 3) := dl_o182 kcX12_tests (by decide +kernel)
theorem dX12_tests_85 : decode cX12_tests 85 = .ok (.ifCond .eq 170, 3) := dl_o153 kcX12_tests 170 (by decide +kernel) (by decide +kernel)
theorem dX12_tests_88 : decode cX12_tests 88 = .ok (.aload_n 0, 1) := dl_o42 kcX12_tests (by decide +kernel)
theorem dX12_tests_89 : decode cX12_tests 89 = .ok (.invokevirtual 579, 3) := dl_o182 kcX12_tests (by decide +kernel)
theorem dX12_tests_92 : decode cX12_tests 92 = .ok (.istore_n 2, 1) := dl_o61 kcX12_tests (by decide +kernel)
theorem dX12_tests_93 : decode cX12_tests 93 = .ok (.aload_n 0, 1) := dl_o42 kcX12_tests (by decide +kernel)
theorem dX12_tests_94 : decode cX12_tests 94 = .ok (.invokevirtual 579, 3) := dl_o182 kcX12_tests (by decide +kernel)
theorem dX12_tests_97 : decode cX12_tests 97 = .ok (.istore_n 3, 1) := dl_o62 kcX12_tests (by decide +kernel)
theorem dX12_tests_98 : decode cX12_tests 98 = .ok (.aload_n 0, 1) := dl_o42 kcX12_tests (by decide +kernel)
theorem dX12_tests_99 : decode cX12_tests 99 = .ok (.iload_n 1, 1) := dl_o27 kcX12_tests (by decide +kernel)
theorem dX12_tests_100 : decode cX12_tests 100 = .ok (.bipush 80, 2) := dl_o16 kcX12_tests 80 (by decide +kernel) (by decide +kernel)
theorem dX12_tests_102 : decode cX12_tests 102 = .ok (.if_icmp .ne 16, 3) := dl_o160 kcX12_tests 16 (by decide +kernel) (by decide +kernel)
theorem dX12_tests_105 : decode cX12_tests 105 = .ok (.iload_n 3, 1) := dl_o29 kcX12_tests (by decide +kernel)
theorem dX12_tests_106 : decode cX12_tests 106 = .ok (.iload_n 2, 1) := dl_o28 kcX12_tests (by decide +kernel)
theorem dX12_tests_107 : decode cX12_tests 107 = .ok (.if_icmp .ge 7, 3) := dl_o162 kcX12_tests 7 (by decide +kernel) (by decide +kernel)
theorem dX12_tests_110 : decode cX12_tests 110 = .ok (.iconst 1, 1) := dl_o4 kcX12_tests (by decide +kernel)
theorem dX12_tests_111 : decode cX12_tests 111 = .ok (.goto 137, 3) := dl_o167 kcX12_tests 137 (by decide +kernel) (by decide +kernel)
theorem dX12_tests_114 : decode cX12_tests 114 = .ok (.iconst 0, 1) := dl_o3 kcX12_tests (by decide +kernel)
theorem dX12_tests_115 : decode cX12_tests 115 = .ok (.goto 133, 3) := dl_o167 kcX12_tests 133 (by decide +kernel) (by decide +kernel)
theorem dX12_tests_118 : decode cX12_tests 118 = .ok (.iload_n 1, 1) := dl_o27 kcX12_tests (by decide +kernel)
theorem dX12_tests_119 : decode cX12_tests 119 = .ok (.bipush 81, 2) := dl_o16 kcX12_tests 81 (by decide +kernel) (by decide +kernel)
theorem dX12_tests_121 : decode cX12_tests 121 = .ok (.if_icmp .ne 16, 3) := dl_o160 kcX12_tests 16 (by decide +kernel) (by decide +kernel)
theorem dX12_tests_124 : decode cX12_tests 124 = .ok (.iload_n 3, 1) := dl_o29 kcX12_tests (by decide +kernel)
theorem dX12_tests_125 : decode cX12_tests 125 = .ok (.iload_n 2, 1) := dl_o28 kcX12_tests (by decide +kernel)
theorem dX12_tests_126 : decode cX12_tests 126 = .ok (.if_icmp .gt 7, 3) := dl_o163 kcX12_tests 7 (by decide +kernel) (by decide +kernel)
theorem dX12_tests_129 : decode cX12_tests 129 = .ok (.iconst 1, 1) := dl_o4 kcX12_tests (by decide +kernel)
theorem dX12_tests_130 : decode cX12_tests 130 = .ok (.goto 118, 3) := dl_o167 kcX12_tests 118 (by decide +kernel) (by decide +kernel)
theorem dX12_tests_133 : decode cX12_tests 133 = .ok (.iconst 0, 1) := dl_o3 kcX12_tests (by decide +kernel)
theorem dX12_tests_134 : decode cX12_tests 134 = .ok (.goto 114, 3) := dl_o167 kcX12_tests 114 (by decide +kernel) (by decide +kernel)
theorem dX12_tests_137 : decode cX12_tests 137 = .ok (.iload_n 1, 1) := dl_o27 kcX12_tests (by decide +kernel)
theorem dX12_tests_138 : decode cX12_tests 138 = .ok (.bipush 82, 2) := dl_o16 kcX12_tests 82 (by decide +kernel) (by decide +kernel)
theorem dX12_tests_140 : decode cX12_tests 140 = .ok (.if_icmp .ne 16, 3) := dl_o160 kcX12_tests 16 (by decide +kernel) (by decide +kernel)
theorem dX12_tests_143 : decode cX12_tests 143 = .ok (.iload_n 3, 1) := dl_o29 kcX12_tests (by decide +kernel)
theorem dX12_tests_144 : decode cX12_tests 144 = .ok (.iload_n 2, 1) := dl_o28 kcX12_tests (by decide +kernel)
theorem dX12_tests_145 : decode cX12_tests 145 = .ok (.if_icmp .le 7, 3) := dl_o164 kcX12_tests 7 (by decide +kernel) (by decide +kernel)
theorem dX12_tests_148 : decode cX12_tests 148 = .ok (.iconst 1, 1) := dl_o4 kcX12_tests (by decide +kernel)
theorem dX12_tests_149 : decode cX12_tests 149 = .ok (.goto 99, 3) := dl_o167 kcX12_tests 99 (by decide +kernel) (by decide +kernel)
theorem dX12_tests_152 : decode cX12_tests 152 = .ok (.iconst 0, 1) := dl_o3 kcX12_tests (by decide +kernel)
theorem dX12_tests_153 : decode cX12_tests 153 = .ok (.goto 95, 3) := dl_o167 kcX12_tests 95 (by decide +kernel) (by decide +kernel)
theorem dX12_tests_156 : decode cX12_tests 156 = .ok (.iload_n 1, 1) := dl_o27 kcX12_tests (by decide +kernel)
theorem dX12_tests_157 : decode cX12_tests 157 = .ok (.bipush 83, 2) := dl_o16 kcX12_tests 83 (by decide +kernel) (by decide +kernel)
theorem dX12_tests_159 : decode cX12_tests 159 = .ok (.if_icmp .ne 16, 3) := dl_o160 kcX12_tests 16 (by decide +kernel) (by decide +kernel)
theorem dX12_tests_162 : decode cX12_tests 162 = .ok (.iload_n 3, 1) := dl_o29 kcX12_tests (by decide +kernel)
theorem dX12_tests_163 : decode cX12_tests 163 = .ok (.iload_n 2, 1) := dl_o28 kcX12_tests (by decide +kernel)
theorem dX12_tests_164 : decode cX12_tests 164 = .ok (.if_icmp .lt 7, 3) := dl_o161 kcX12_tests 7 (by decide +kernel) (by decide +kernel)
theorem dX12_tests_167 : decode cX12_tests 167 = .ok (.iconst 1, 1) := dl_o4 kcX12_tests (by decide +kernel)
theorem dX12_tests_168 : decode cX12_tests 168 = .ok (.goto 80, 3) := dl_o167 kcX12_tests 80 (by decide +kernel) (by decide +kernel)
theorem dX12_tests_171 : decode cX12_tests 171 = .ok (.iconst 0, 1) := dl_o3 kcX12_tests (by decide +kernel)
theorem dX12_tests_172 : decode cX12_tests 172 = .ok (.goto 76, 3) := dl_o167 kcX12_tests 76 (by decide +kernel) (by decide +kernel)
theorem dX12_tests_175 : decode cX12_tests 175 = .ok (.iload_n 1, 1) := dl_o27 kcX12_tests (by decide +kernel)
theorem dX12_tests_176 : decode cX12_tests 176 = .ok (.bipush 84, 2) := dl_o16 kcX12_tests 84 (by decide +kernel) (by decide +kernel)
theorem dX12_tests_178 : decode cX12_tests 178 = .ok (.if_icmp .ne 16, 3) := dl_o160 kcX12_tests 16 (by decide +kernel) (by decide +kernel)
theorem dX12_tests_181 : decode cX12_tests 181 = .ok (.iload_n 3, 1) := dl_o29 kcX12_tests (by decide +kernel)
theorem dX12_tests_182 : decode cX12_tests 182 = .ok (.iload_n 2, 1) := dl_o28 kcX12_tests (by decide +kernel)
theorem dX12_tests_183 : decode cX12_tests 183 = .ok (.if_icmp .ne 7, 3) := dl_o160 kcX12_tests 7 (by decide +kernel) (by decide +kernel)
theorem dX12_tests_186 : decode cX12_tests 186 = .ok (.iconst 1, 1) := dl_o4 kcX12_tests (by decide +kernel)
theorem dX12_tests_187 : decode cX12_tests 187 = .ok (.goto 61, 3) := dl_o167 kcX12_tests 61 (by decide +kernel) (by decide +kernel)
theorem dX12_tests_190 : decode cX12_tests 190 = .ok (.iconst 0, 1) := dl_o3 kcX12_tests (by decide +kernel)
theorem dX12_tests_191 : decode cX12_tests 191 = .ok (.goto 57, 3) := dl_o167 kcX12_tests 57 (by decide +kernel) (by decide +kernel)
theorem dX12_tests_194 : decode cX12_tests 194 = .ok (.iload_n 1, 1) := dl_o27 kcX12_tests (by decide +kernel)
theorem dX12_tests_195 : decode cX12_tests 195 = .ok (.bipush 85, 2) := dl_o16 kcX12_tests 85 (by decide +kernel) (by decide +kernel)
theorem dX12_tests_197 : decode cX12_tests 197 = .ok (.if_icmp .ne 16, 3) := dl_o160 kcX12_tests 16 (by decide +kernel) (by decide +kernel)
theorem dX12_tests_200 : decode cX12_tests 200 = .ok (.iload_n 3, 1) := dl_o29 kcX12_tests (by decide +kernel)
theorem dX12_tests_201 : decode cX12_tests 201 = .ok (.iload_n 2, 1) := dl_o28 kcX12_tests (by decide +kernel)
theorem dX12_tests_202 : decode cX12_tests 202 = .ok (.if_icmp .eq 7, 3) := dl_o159 kcX12_tests 7 (by decide +kernel) (by decide +kernel)
theorem dX12_tests_205 : decode cX12_tests 205 = .ok (.iconst 1, 1) := dl_o4 kcX12_tests (by decide +kernel)
theorem dX12_tests_206 : decode cX12_tests 206 = .ok (.goto 42, 3) := dl_o167 kcX12_tests 42 (by decide +kernel) (by decide +kernel)
theorem dX12_tests_209 : decode cX12_tests 209 = .ok (.iconst 0, 1) := dl_o3 kcX12_tests (by decide +kernel)
theorem dX12_tests_210 : decode cX12_tests 210 = .ok (.goto 38, 3) := dl_o167 kcX12_tests 38 (by decide +kernel) (by decide +kernel)
theorem dX12_tests_213 : decode cX12_tests 213 = .ok (.iload_n 1, 1) := dl_o27 kcX12_tests (by decide +kernel)
theorem dX12_tests_214 : decode cX12_tests 214 = .ok (.bipush 90, 2) := dl_o16 kcX12_tests 90 (by decide +kernel) (by decide +kernel)
theorem dX12_tests_216 : decode cX12_tests 216 = .ok (.if_icmp .ne 19, 3) := dl_o160 kcX12_tests 19 (by decide +kernel) (by decide +kernel)
theorem dX12_tests_219 : decode cX12_tests 219 = .ok (.iload_n 3, 1) := dl_o29 kcX12_tests (by decide +kernel)
theorem dX12_tests_220 : decode cX12_tests 220 = .ok (.ifCond .eq 11, 3) := dl_o153 kcX12_tests 11 (by decide +kernel) (by decide +kernel)
theorem dX12_tests_223 : decode cX12_tests 223 = .ok (.iload_n 2, 1) := dl_o28 kcX12_tests (by decide +kernel)
theorem dX12_tests_224 : decode cX12_tests 224 = .ok (.ifCond .eq 7, 3) := dl_o153 kcX12_tests 7 (by decide +kernel) (by decide +kernel)
theorem dX12_tests_227 : decode cX12_tests 227 = .ok (.iconst 1, 1) := dl_o4 kcX12_tests (by decide +kernel)
theorem dX12_tests_228 : decode cX12_tests 228 = .ok (.goto 20, 3) := dl_o167 kcX12_tests 20 (by decide +kernel) (by decide +kernel)
theorem dX12_tests_231 : decode cX12_tests 231 = .ok (.iconst 0, 1) := dl_o3 kcX12_tests (by decide +kernel)
theorem dX12_tests_232 : decode cX12_tests 232 = .ok (.goto 16, 3) := dl_o167 kcX12_tests 16 (by decide +kernel) (by decide +kernel)
theorem dX12_tests_235 : decode cX12_tests 235 = .ok (.iload_n 3, 1) := dl_o29 kcX12_tests (by decide +kernel)
theorem dX12_tests_236 : decode cX12_tests 236 = .ok (.ifCond .ne 7, 3) := dl_o154 kcX12_tests 7 (by decide +kernel) (by decide +kernel)
theorem dX12_tests_239 : decode cX12_tests 239 = .ok (.iload_n 2, 1) := dl_o28 kcX12_tests (by decide +kernel)
theorem dX12_tests_240 : decode cX12_tests 240 = .ok (.ifCond .eq 7, 3) := dl_o153 kcX12_tests 7 (by decide +kernel) (by decide +kernel)
theorem dX12_tests_243 : decode cX12_tests 243 = .ok (.iconst 1, 1) := dl_o4 kcX12_tests (by decide +kernel)
theorem dX12_tests_244 : decode cX12_tests 244 = .ok (.goto 4, 3) := dl_o167 kcX12_tests 4 (by decide +kernel) (by decide +kernel)
theorem dX12_tests_247 : decode cX12_tests 247 = .ok (.iconst 0, 1) := dl_o3 kcX12_tests (by decide +kernel)
theorem dX12_tests_248 : decode cX12_tests 248 = .ok (.invokestatic 690, 3) := dl_o184 kcX12_tests (by decide +kernel)
theorem dX12_tests_251 : decode cX12_tests 251 = .ok (.i2l, 1) := dl_o133 kcX12_tests (by decide +kernel)
theorem dX12_tests_252 : decode cX12_tests 252 = .ok (.invokevirtual 564, 3) := dl_o182 kcX12_tests (by decide +kernel)
theorem dX12_tests_255 : decode cX12_tests 255 = .ok (.return_, 1) := dl_o177 kcX12_tests (by decide +kernel)
theorem dX12_tests_256 : decode cX12_tests 256 = .ok (.aload_n 0, 1) := dl_o42 kcX12_tests (by decide +kernel)
theorem dX12_tests_257 : decode cX12_tests 257 = .ok (.iconst 1, 1) := dl_o4 kcX12_tests (by decide +kernel)
theorem dX12_tests_258 : decode cX12_tests 258 = .ok (.invokevirtual 576, 3) := dl_o182 kcX12_tests (by decide +kernel)
theorem dX12_tests_261 : decode cX12_tests 261 = .ok (.ifCond .eq 46, 3) := dl_o153 kcX12_tests 46 (by decide +kernel) (by decide +kernel)
theorem dX12_tests_264 : decode cX12_tests 264 = .ok (.aload_n 0, 1) := dl_o42 kcX12_tests (by decide +kernel)
theorem dX12_tests_265 : decode cX12_tests 265 = .ok (.aload_n 0, 1) := dl_o42 kcX12_tests (by decide +kernel)
theorem dX12_tests_266 : decode cX12_tests 266 = .ok (.aload_n 0, 1) := dl_o42 kcX12_tests (by decide +kernel)
theorem dX12_tests_267 : decode cX12_tests 267 = .ok (.invokevirtual 579, 3) := dl_o182 kcX12_tests (by decide +kernel)
theorem dX12_tests_270 : decode cX12_tests 270 = .ok (.i2l, 1) := dl_o133 kcX12_tests (by decide +kernel)
theorem dX12_tests_271 : decode cX12_tests 271 = .ok (.invokevirtual 647, 3) := dl_o182 kcX12_tests (by decide +kernel)
theorem dX12_tests_274 : decode cX12_tests 274 = .ok (.ldc2_w 694, 3) := dl_o20 kcX12_tests (by decide +kernel)
theorem dX12_tests_277 : decode cX12_tests 277 = .ok (.land, 1) := dl_o127 kcX12_tests (by decide +kernel)
theorem dX12_tests_278 : decode cX12_tests 278 = .ok (.iload_n 1, 1) := dl_o27 kcX12_tests (by decide +kernel)
theorem dX12_tests_279 : decode cX12_tests 279 = .ok (.bipush 86, 2) := dl_o16 kcX12_tests 86 (by decide +kernel) (by decide +kernel)
theorem dX12_tests_281 : decode cX12_tests 281 = .ok (.if_icmp .ne 9, 3) := dl_o160 kcX12_tests 9 (by decide +kernel) (by decide +kernel)
theorem dX12_tests_284 : decode cX12_tests 284 = .ok (.ldc2_w 338, 3) := dl_o20 kcX12_tests (by decide +kernel)
theorem dX12_tests_287 : decode cX12_tests 287 = .ok (.goto 4, 3) := dl_o167 kcX12_tests 4 (by decide +kernel) (by decide +kernel)
theorem dX12_tests_290 : decode cX12_tests 290 = .ok (.lconst 0, 1) := dl_o9 kcX12_tests (by decide +kernel)
theorem dX12_tests_291 : decode cX12_tests 291 = .ok (.lcmp, 1) := dl_o148 kcX12_tests (by decide +kernel)
theorem dX12_tests_292 : decode cX12_tests 292 = .ok (.ifCond .ne 7, 3) := dl_o154 kcX12_tests 7 (by decide +kernel) (by decide +kernel)
theorem dX12_tests_295 : decode cX12_tests 295 = .ok (.iconst 1, 1) := dl_o4 kcX12_tests (by decide +kernel)
theorem dX12_tests_296 : decode cX12_tests 296 = .ok (.goto 4, 3) := dl_o167 kcX12_tests 4 (by decide +kernel) (by decide +kernel)
theorem dX12_tests_299 : decode cX12_tests 299 = .ok (.iconst 0, 1) := dl_o3 kcX12_tests (by decide +kernel)
theorem dX12_tests_300 : decode cX12_tests 300 = .ok (.invokestatic 690, 3) := dl_o184 kcX12_tests (by decide +kernel)
theorem dX12_tests_303 : decode cX12_tests 303 = .ok (.i2l, 1) := dl_o133 kcX12_tests (by decide +kernel)
theorem dX12_tests_304 : decode cX12_tests 304 = .ok (.invokevirtual 564, 3) := dl_o182 kcX12_tests (by decide +kernel)
theorem dX12_tests_307 : decode cX12_tests 307 = .ok (.return_, 1) := dl_o177 kcX12_tests (by decide +kernel)
theorem dX12_tests_308 : decode cX12_tests 308 = .ok (.aload_n 0, 1) := dl_o42 kcX12_tests (by decide +kernel)
theorem dX12_tests_309 : decode cX12_tests 309 = .ok (.iconst 1, 1) := dl_o4 kcX12_tests (by decide +kernel)
theorem dX12_tests_310 : decode cX12_tests 310 = .ok (.invokevirtual 576, 3) := dl_o182 kcX12_tests (by decide +kernel)
theorem dX12_tests_313 : decode cX12_tests 313 = .ok (.ifCond .eq 27, 3) := dl_o153 kcX12_tests 27 (by decide +kernel) (by decide +kernel)
theorem dX12_tests_316 : decode cX12_tests 316 = .ok (.aload_n 0, 1) := dl_o42 kcX12_tests (by decide +kernel)
theorem dX12_tests_317 : decode cX12_tests 317 = .ok (.invokevirtual 579, 3) := dl_o182 kcX12_tests (by decide +kernel)
theorem dX12_tests_320 : decode cX12_tests 320 = .ok (.ifCond .ne 20, 3) := dl_o154 kcX12_tests 20 (by decide +kernel) (by decide +kernel)
theorem dX12_tests_323 : decode cX12_tests 323 = .ok (.aload_n 0, 1) := dl_o42 kcX12_tests (by decide +kernel)
theorem dX12_tests_324 : decode cX12_tests 324 = .ok (.aload_n 0, 1) := dl_o42 kcX12_tests (by decide +kernel)
theorem dX12_tests_325 : decode cX12_tests 325 = .ok (.aload_n 0, 1) := dl_o42 kcX12_tests (by decide +kernel)
theorem dX12_tests_326 : decode cX12_tests 326 = .ok (.getfield 496, 3) := dl_o180 kcX12_tests (by decide +kernel)
theorem dX12_tests_329 : decode cX12_tests 329 = .ok (.bipush 27, 2) := dl_o16 kcX12_tests 27 (by decide +kernel) (by decide +kernel)
theorem dX12_tests_331 : decode cX12_tests 331 = .ok (.bipush 89, 2) := dl_o16 kcX12_tests 89 (by decide +kernel) (by decide +kernel)
theorem dX12_tests_333 : decode cX12_tests 333 = .ok (.iconst 1, 1) := dl_o4 kcX12_tests (by decide +kernel)
theorem dX12_tests_334 : decode cX12_tests 334 = .ok (.invokevirtual 598, 3) := dl_o182 kcX12_tests (by decide +kernel)
theorem dX12_tests_337 : decode cX12_tests 337 = .ok (.putfield 496, 3) := dl_o181 kcX12_tests (by decide +kernel)
theorem dX12_tests_340 : decode cX12_tests 340 = .ok (.return_, 1) := dl_o177 kcX12_tests (by decide +kernel)
theorem dX12_tests_341 : decode cX12_tests 341 = .ok (.return_, 1) := dl_o177 kcX12_tests (by decide +kernel)
theorem dX12_tests_342 : decode cX12_tests 342 = .ok (.aload_n 0, 1) := dl_o42 kcX12_tests (by decide +kernel)
theorem dX12_tests_343 : decode cX12_tests 343 = .ok (.iconst 1, 1) := dl_o4 kcX12_tests (by decide +kernel)
theorem dX12_tests_344 : decode cX12_tests 344 = .ok (.invokevirtual 576, 3) := dl_o182 kcX12_tests (by decide +kernel)
theorem dX12_tests_347 : decode cX12_tests 347 = .ok (.ifCond .eq 23, 3) := dl_o153 kcX12_tests 23 (by decide +kernel) (by decide +kernel)
theorem dX12_tests_350 : decode cX12_tests 350 = .ok (.aload_n 0, 1) := dl_o42 kcX12_tests (by decide +kernel)
theorem dX12_tests_351 : decode cX12_tests 351 = .ok (.aload_n 0, 1) := dl_o42 kcX12_tests (by decide +kernel)
theorem dX12_tests_352 : decode cX12_tests 352 = .ok (.invokevirtual 579, 3) := dl_o182 kcX12_tests (by decide +kernel)
theorem dX12_tests_355 : decode cX12_tests 355 = .ok (.ifCond .ne 7, 3) := dl_o154 kcX12_tests 7 (by decide +kernel) (by decide +kernel)
theorem dX12_tests_358 : decode cX12_tests 358 = .ok (.iconst 1, 1) := dl_o4 kcX12_tests (by decide +kernel)
theorem dX12_tests_359 : decode cX12_tests 359 = .ok (.goto 4, 3) := dl_o167 kcX12_tests 4 (by decide +kernel) (by decide +kernel)
theorem dX12_tests_362 : decode cX12_tests 362 = .ok (.iconst 0, 1) := dl_o3 kcX12_tests (by decide +kernel)
theorem dX12_tests_363 : decode cX12_tests 363 = .ok (.invokestatic 690, 3) := dl_o184 kcX12_tests (by decide +kernel)
theorem dX12_tests_366 : decode cX12_tests 366 = .ok (.i2l, 1) := dl_o133 kcX12_tests (by decide +kernel)
theorem dX12_tests_367 : decode cX12_tests 367 = .ok (.invokevirtual 564, 3) := dl_o182 kcX12_tests (by decide +kernel)
theorem dX12_tests_370 : decode cX12_tests 370 = .ok (.return_, 1) := dl_o177 kcX12_tests (by decide +kernel)
theorem dX12_tests_371 : decode cX12_tests 371 = .ok (.aload_n 0, 1) := dl_o42 kcX12_tests (by decide +kernel)
theorem dX12_tests_372 : decode cX12_tests 372 = .ok (.iconst 0, 1) := dl_o3 kcX12_tests (by decide +kernel)
theorem dX12_tests_373 : decode cX12_tests 373 = .ok (.iconst 1, 1) := dl_o4 kcX12_tests (by decide +kernel)
theorem dX12_tests_374 : decode cX12_tests 374 = .ok (.invokevirtual 696, 3) := dl_o182 kcX12_tests (by decide +kernel)
theorem dX12_tests_377 : decode cX12_tests 377 = .ok (.return_, 1) := dl_o177 kcX12_tests (by decide +kernel)
theorem dX12_tests_378 : decode cX12_tests 378 = .ok (.aload_n 0, 1) := dl_o42 kcX12_tests (by decide +kernel)
theorem dX12_tests_379 : decode cX12_tests 379 = .ok (.aload_n 0, 1) := dl_o42 kcX12_tests (by decide +kernel)
theorem dX12_tests_380 : decode cX12_tests 380 = .ok (.iconst 1, 1) := dl_o4 kcX12_tests (by decide +kernel)
theorem dX12_tests_381 : decode cX12_tests 381 = .ok (.invokevirtual 576, 3) := dl_o182 kcX12_tests (by decide +kernel)
theorem dX12_tests_384 : decode cX12_tests 384 = .ok (.ifCond .eq 10, 3) := dl_o153 kcX12_tests 10 (by decide +kernel) (by decide +kernel)
theorem dX12_tests_387 : decode cX12_tests 387 = .ok (.aload_n 0, 1) := dl_o42 kcX12_tests (by decide +kernel)
theorem dX12_tests_388 : decode cX12_tests 388 = .ok (.invokevirtual 579, 3) := dl_o182 kcX12_tests (by decide +kernel)
theorem dX12_tests_391 : decode cX12_tests 391 = .ok (.goto 4, 3) := dl_o167 kcX12_tests 4 (by decide +kernel) (by decide +kernel)
theorem dX12_tests_394 : decode cX12_tests 394 = .ok (.iconst 0, 1) := dl_o3 kcX12_tests (by decide +kernel)
theorem dX12_tests_395 : decode cX12_tests 395 = .ok (.putfield 700, 3) := dl_o181 kcX12_tests (by decide +kernel)
theorem dX12_tests_398 : decode cX12_tests 398 = .ok (.return_, 1) := dl_o177 kcX12_tests (by decide +kernel)
theorem dX12_tests_399 : decode cX12_tests 399 = .ok (.aload_n 0, 1) := dl_o42 kcX12_tests (by decide +kernel)
theorem dX12_tests_400 : decode cX12_tests 400 = .ok (.iconst 1, 1) := dl_o4 kcX12_tests (by decide +kernel)
theorem dX12_tests_401 : decode cX12_tests 401 = .ok (.invokevirtual 576, 3) := dl_o182 kcX12_tests (by decide +kernel)
theorem dX12_tests_404 : decode cX12_tests 404 = .ok (.ifCond .eq 31, 3) := dl_o153 kcX12_tests 31 (by decide +kernel) (by decide +kernel)
theorem dX12_tests_407 : decode cX12_tests 407 = .ok (.aload_n 0, 1) := dl_o42 kcX12_tests (by decide +kernel)
theorem dX12_tests_408 : decode cX12_tests 408 = .ok (.invokevirtual 579, 3) := dl_o182 kcX12_tests (by decide +kernel)
theorem dX12_tests_411 : decode cX12_tests 411 = .ok (.istore_n 2, 1) := dl_o61 kcX12_tests (by decide +kernel)
theorem dX12_tests_412 : decode cX12_tests 412 = .ok (.iload_n 2, 1) := dl_o28 kcX12_tests (by decide +kernel)
theorem dX12_tests_413 : decode cX12_tests 413 = .ok (.i2l, 1) := dl_o133 kcX12_tests (by decide +kernel)
theorem dX12_tests_414 : decode cX12_tests 414 = .ok (.lconst 0, 1) := dl_o9 kcX12_tests (by decide +kernel)
theorem dX12_tests_415 : decode cX12_tests 415 = .ok (.ldc2_w 382, 3) := dl_o20 kcX12_tests (by decide +kernel)
theorem dX12_tests_418 : decode cX12_tests 418 = .ok (.invokestatic 263, 3) := dl_o184 kcX12_tests (by decide +kernel)
theorem dX12_tests_421 : decode cX12_tests 421 = .ok (.ifCond .ne 9, 3) := dl_o154 kcX12_tests 9 (by decide +kernel) (by decide +kernel)
theorem dX12_tests_424 : decode cX12_tests 424 = .ok (.aload_n 0, 1) := dl_o42 kcX12_tests (by decide +kernel)
theorem dX12_tests_425 : decode cX12_tests 425 = .ok (.bipush 11, 2) := dl_o16 kcX12_tests 11 (by decide +kernel) (by decide +kernel)
theorem dX12_tests_427 : decode cX12_tests 427 = .ok (.invokevirtual 421, 3) := dl_o182 kcX12_tests (by decide +kernel)
theorem dX12_tests_430 : decode cX12_tests 430 = .ok (.aload_n 0, 1) := dl_o42 kcX12_tests (by decide +kernel)
theorem dX12_tests_431 : decode cX12_tests 431 = .ok (.iload_n 2, 1) := dl_o28 kcX12_tests (by decide +kernel)
theorem dX12_tests_432 : decode cX12_tests 432 = .ok (.putfield 703, 3) := dl_o181 kcX12_tests (by decide +kernel)
theorem dX12_tests_435 : decode cX12_tests 435 = .ok (.return_, 1) := dl_o177 kcX12_tests (by decide +kernel)
theorem dX12_tests_436 : decode cX12_tests 436 = .ok (.aload_n 0, 1) := dl_o42 kcX12_tests (by decide +kernel)
theorem dX12_tests_437 : decode cX12_tests 437 = .ok (.iload_n 1, 1) := dl_o27 kcX12_tests (by decide +kernel)
theorem dX12_tests_438 : decode cX12_tests 438 = .ok (.invokevirtual 650, 3) := dl_o182 kcX12_tests (by decide +kernel)
theorem dX12_tests_441 : decode cX12_tests 441 = .ok (.return_, 1) := dl_o177 kcX12_tests (by decide +kernel)
def B_X12_tests_248 (N : Nat)  (s1 : Int32) (V : sv_V) : Option sv_V := (F_X12_one s1 V).bind (fun (x3, V1) => (F_X12_push x3.toInt64 V1).bind (fun V4 => some V4))
set_option maxRecDepth 20000 in
theorem tB_X12_tests_248 {g : sx_G} (hG : sx_Go g) {P : Option Value → sv_V → Prop} {Vr : sv_V} (hP : P none Vr) {N : Nat}   {s1 : Int32} {V : sv_V} (h : B_X12_tests_248 N  s1 V = some Vr) : sv_N g qX12_tests 6 248 [] [.int s1, .ref 146] V P := by
  unfold B_X12_tests_248 at h
  obtain ⟨⟨x3, V1⟩, g2, h⟩ := sx_bnd h
  refine sv_cS (pc := 248) (y := qX12_one) (o := (some (.int x3))) (as := [.int s1]) (V1 := V1) dX12_tests_248 l_X12_690 y0X12_one ysX12_one rfl (Nat.le_of_ble_eq_true rfl) (by decide) (Nat.le_of_ble_eq_true rfl) rfl rfl rfl (t_X12_one hG ⟨rfl, rfl⟩ g2) ?_
  refine sx_i2l (pc := 251) dX12_tests_251 ?_
  obtain ⟨V4, g5, h⟩ := sx_bnd h
  refine sv_cV (pc := 252) (y := qX12_push) (o := none) (as := [.long x3.toInt64]) (V1 := V4) hG dX12_tests_252 l_X12_564 y0X12_push yvX12_push rfl (Nat.le_of_ble_eq_true rfl) lay_146 kr_12 (by decide) (Nat.le_of_ble_eq_true rfl) rfl rfl rfl (t_X12_push hG ⟨rfl, rfl⟩ g5) ?_
  exact sv_vret (pc := 255) dX12_tests_255 rfl h hP
def B_X12_tests_231 (N : Nat)   (V : sv_V) : Option sv_V := B_X12_tests_248 N  (0 : Int32) V
set_option maxRecDepth 20000 in
theorem tB_X12_tests_231 {g : sx_G} (hG : sx_Go g) {P : Option Value → sv_V → Prop} {Vr : sv_V} (hP : P none Vr) {N : Nat}    {V : sv_V} (h : B_X12_tests_231 N   V = some Vr) : sv_N g qX12_tests 6 231 [] [.ref 146] V P := by
  unfold B_X12_tests_231 at h
  refine sx_iconst (pc := 231) (v := 0) dX12_tests_231 (by decide) ?_
  refine sx_goto (pc := 232) (tgt := 248) dX12_tests_232 (by decide) ?_
  refine sx_wk sx_s0 ?_
  exact tB_X12_tests_248 hG hP  h
def B_X12_tests_243 (N : Nat)   (V : sv_V) : Option sv_V := B_X12_tests_248 N  (1 : Int32) V
set_option maxRecDepth 20000 in
theorem tB_X12_tests_243 {g : sx_G} (hG : sx_Go g) {P : Option Value → sv_V → Prop} {Vr : sv_V} (hP : P none Vr) {N : Nat}    {V : sv_V} (h : B_X12_tests_243 N   V = some Vr) : sv_N g qX12_tests 6 243 [] [.ref 146] V P := by
  unfold B_X12_tests_243 at h
  refine sx_iconst (pc := 243) (v := 1) dX12_tests_243 (by decide) ?_
  refine sx_goto (pc := 244) (tgt := 248) dX12_tests_244 (by decide) ?_
  refine sx_wk sx_s0 ?_
  exact tB_X12_tests_248 hG hP  h
def B_X12_tests_80 (N : Nat)  (l1 : Int32) (V : sv_V) : Option sv_V := (F_X12_has (2 : Int32) V).bind (fun (x8, V6) => if x8 = 0 then (some V6) else ((F_X12_pop  V6).bind (fun (x12, V10) => (F_X12_pop  V10).bind (fun (x15, V13) => if l1 = (80 : Int32) then (if x12 ≤ x15 then (B_X12_tests_248 N  (0 : Int32) V13) else (B_X12_tests_248 N  (1 : Int32) V13)) else (if l1 = (81 : Int32) then (if x12 < x15 then (B_X12_tests_248 N  (0 : Int32) V13) else (B_X12_tests_248 N  (1 : Int32) V13)) else (if l1 = (82 : Int32) then (if x15 ≤ x12 then (B_X12_tests_248 N  (0 : Int32) V13) else (B_X12_tests_248 N  (1 : Int32) V13)) else (if l1 = (83 : Int32) then (if x15 < x12 then (B_X12_tests_248 N  (0 : Int32) V13) else (B_X12_tests_248 N  (1 : Int32) V13)) else (if l1 = (84 : Int32) then (if x15 = x12 then (B_X12_tests_248 N  (1 : Int32) V13) else (B_X12_tests_248 N  (0 : Int32) V13)) else (if l1 = (85 : Int32) then (if x15 = x12 then (B_X12_tests_248 N  (0 : Int32) V13) else (B_X12_tests_248 N  (1 : Int32) V13)) else (if l1 = (90 : Int32) then (if x15 = 0 then (B_X12_tests_231 N   V13) else (if x12 = 0 then (B_X12_tests_231 N   V13) else (B_X12_tests_248 N  (1 : Int32) V13))) else (if x15 = 0 then (if x12 = 0 then (B_X12_tests_248 N  (0 : Int32) V13) else (B_X12_tests_243 N   V13)) else (B_X12_tests_243 N   V13))))))))))))
set_option maxRecDepth 20000 in
theorem tB_X12_tests_80 {g : sx_G} (hG : sx_Go g) {P : Option Value → sv_V → Prop} {Vr : sv_V} (hP : P none Vr) {N : Nat}   {l1 : Int32} {V : sv_V} (h : B_X12_tests_80 N  l1 V = some Vr) : sv_N g qX12_tests 6 80 [(0, .ref 146), (1, .int l1)] [] V P := by
  unfold B_X12_tests_80 at h
  refine sx_aload_n (pc := 80) dX12_tests_80 sx_m0 ?_
  refine sx_iconst (pc := 81) (v := 2) dX12_tests_81 (by decide) ?_
  obtain ⟨⟨x8, V6⟩, g7, h⟩ := sx_bnd h
  refine sv_cV (pc := 82) (y := qX12_has) (o := (some (.int x8))) (as := [.int (2 : Int32)]) (V1 := V6) hG dX12_tests_82 l_X12_576 y0X12_has yvX12_has rfl (Nat.le_of_ble_eq_true rfl) lay_146 kr_12 (by decide) (Nat.le_of_ble_eq_true rfl) rfl rfl rfl (t_X12_has hG ⟨rfl, rfl⟩ g7) ?_
  refine sx_if_eq (pc := 85) (tgt := 255) dX12_tests_85 (by decide) (fun c9 => ?_) (fun c9 => ?_)
  · have h := sx_pos c9 h
    exact sv_vret (pc := 255) dX12_tests_255 rfl h hP
  · have h := sx_neg c9 h
    refine sx_aload_n (pc := 88) dX12_tests_88 sx_m0 ?_
    obtain ⟨⟨x12, V10⟩, g11, h⟩ := sx_bnd h
    refine sv_cV (pc := 89) (y := qX12_pop) (o := (some (.int x12))) (as := []) (V1 := V10) hG dX12_tests_89 l_X12_579 y0X12_pop yvX12_pop rfl (Nat.le_of_ble_eq_true rfl) lay_146 kr_12 (by decide) (Nat.le_of_ble_eq_true rfl) rfl rfl rfl (t_X12_pop hG ⟨rfl, rfl⟩ g11) ?_
    refine sx_istore_n (pc := 92) (lo' := [(2, .int x12), (0, .ref 146), (1, .int l1)]) dX12_tests_92 (by decide) rfl ?_
    refine sx_aload_n (pc := 93) dX12_tests_93 sx_m1 ?_
    obtain ⟨⟨x15, V13⟩, g14, h⟩ := sx_bnd h
    refine sv_cV (pc := 94) (y := qX12_pop) (o := (some (.int x15))) (as := []) (V1 := V13) hG dX12_tests_94 l_X12_579 y0X12_pop yvX12_pop rfl (Nat.le_of_ble_eq_true rfl) lay_146 kr_12 (by decide) (Nat.le_of_ble_eq_true rfl) rfl rfl rfl (t_X12_pop hG ⟨rfl, rfl⟩ g14) ?_
    refine sx_istore_n (pc := 97) (lo' := [(3, .int x15), (2, .int x12), (0, .ref 146), (1, .int l1)]) dX12_tests_97 (by decide) rfl ?_
    refine sx_aload_n (pc := 98) dX12_tests_98 sx_m2 ?_
    refine sx_iload_n (pc := 99) dX12_tests_99 sx_m3 ?_
    refine sx_bipush (pc := 100) (v := 80) dX12_tests_100 (by decide) ?_
    refine sx_icmp_ne (pc := 102) (tgt := 118) dX12_tests_102 (by decide) (fun c16 => ?_) (fun c16 => ?_)
    · have h := sx_neg c16 h
      refine sx_iload_n (pc := 118) dX12_tests_118 sx_m3 ?_
      refine sx_bipush (pc := 119) (v := 81) dX12_tests_119 (by decide) ?_
      refine sx_icmp_ne (pc := 121) (tgt := 137) dX12_tests_121 (by decide) (fun c17 => ?_) (fun c17 => ?_)
      · have h := sx_neg c17 h
        refine sx_iload_n (pc := 137) dX12_tests_137 sx_m3 ?_
        refine sx_bipush (pc := 138) (v := 82) dX12_tests_138 (by decide) ?_
        refine sx_icmp_ne (pc := 140) (tgt := 156) dX12_tests_140 (by decide) (fun c18 => ?_) (fun c18 => ?_)
        · have h := sx_neg c18 h
          refine sx_iload_n (pc := 156) dX12_tests_156 sx_m3 ?_
          refine sx_bipush (pc := 157) (v := 83) dX12_tests_157 (by decide) ?_
          refine sx_icmp_ne (pc := 159) (tgt := 175) dX12_tests_159 (by decide) (fun c19 => ?_) (fun c19 => ?_)
          · have h := sx_neg c19 h
            refine sx_iload_n (pc := 175) dX12_tests_175 sx_m3 ?_
            refine sx_bipush (pc := 176) (v := 84) dX12_tests_176 (by decide) ?_
            refine sx_icmp_ne (pc := 178) (tgt := 194) dX12_tests_178 (by decide) (fun c20 => ?_) (fun c20 => ?_)
            · have h := sx_neg c20 h
              refine sx_iload_n (pc := 194) dX12_tests_194 sx_m3 ?_
              refine sx_bipush (pc := 195) (v := 85) dX12_tests_195 (by decide) ?_
              refine sx_icmp_ne (pc := 197) (tgt := 213) dX12_tests_197 (by decide) (fun c21 => ?_) (fun c21 => ?_)
              · have h := sx_neg c21 h
                refine sx_iload_n (pc := 213) dX12_tests_213 sx_m3 ?_
                refine sx_bipush (pc := 214) (v := 90) dX12_tests_214 (by decide) ?_
                refine sx_icmp_ne (pc := 216) (tgt := 235) dX12_tests_216 (by decide) (fun c22 => ?_) (fun c22 => ?_)
                · have h := sx_neg c22 h
                  refine sx_iload_n (pc := 235) dX12_tests_235 sx_m0 ?_
                  refine sx_if_ne (pc := 236) (tgt := 243) dX12_tests_236 (by decide) (fun c23 => ?_) (fun c23 => ?_)
                  · have h := sx_neg c23 h
                    refine sx_wk sx_s0 ?_
                    exact tB_X12_tests_243 hG hP  h
                  · have h := sx_pos c23 h
                    refine sx_iload_n (pc := 239) dX12_tests_239 sx_m1 ?_
                    refine sx_if_eq (pc := 240) (tgt := 247) dX12_tests_240 (by decide) (fun c24 => ?_) (fun c24 => ?_)
                    · have h := sx_pos c24 h
                      refine sx_iconst (pc := 247) (v := 0) dX12_tests_247 (by decide) ?_
                      refine sx_wk sx_s0 ?_
                      exact tB_X12_tests_248 hG hP  h
                    · have h := sx_neg c24 h
                      refine sx_wk sx_s0 ?_
                      exact tB_X12_tests_243 hG hP  h
                · have h := sx_pos c22 h
                  refine sx_iload_n (pc := 219) dX12_tests_219 sx_m0 ?_
                  refine sx_if_eq (pc := 220) (tgt := 231) dX12_tests_220 (by decide) (fun c25 => ?_) (fun c25 => ?_)
                  · have h := sx_pos c25 h
                    refine sx_wk sx_s0 ?_
                    exact tB_X12_tests_231 hG hP  h
                  · have h := sx_neg c25 h
                    refine sx_iload_n (pc := 223) dX12_tests_223 sx_m1 ?_
                    refine sx_if_eq (pc := 224) (tgt := 231) dX12_tests_224 (by decide) (fun c26 => ?_) (fun c26 => ?_)
                    · have h := sx_pos c26 h
                      refine sx_wk sx_s0 ?_
                      exact tB_X12_tests_231 hG hP  h
                    · have h := sx_neg c26 h
                      refine sx_iconst (pc := 227) (v := 1) dX12_tests_227 (by decide) ?_
                      refine sx_goto (pc := 228) (tgt := 248) dX12_tests_228 (by decide) ?_
                      refine sx_wk sx_s0 ?_
                      exact tB_X12_tests_248 hG hP  h
              · have h := sx_pos c21 h
                refine sx_iload_n (pc := 200) dX12_tests_200 sx_m0 ?_
                refine sx_iload_n (pc := 201) dX12_tests_201 sx_m1 ?_
                refine sx_icmp_eq (pc := 202) (tgt := 209) dX12_tests_202 (by decide) (fun c27 => ?_) (fun c27 => ?_)
                · have h := sx_pos c27 h
                  refine sx_iconst (pc := 209) (v := 0) dX12_tests_209 (by decide) ?_
                  refine sx_goto (pc := 210) (tgt := 248) dX12_tests_210 (by decide) ?_
                  refine sx_wk sx_s0 ?_
                  exact tB_X12_tests_248 hG hP  h
                · have h := sx_neg c27 h
                  refine sx_iconst (pc := 205) (v := 1) dX12_tests_205 (by decide) ?_
                  refine sx_goto (pc := 206) (tgt := 248) dX12_tests_206 (by decide) ?_
                  refine sx_wk sx_s0 ?_
                  exact tB_X12_tests_248 hG hP  h
            · have h := sx_pos c20 h
              refine sx_iload_n (pc := 181) dX12_tests_181 sx_m0 ?_
              refine sx_iload_n (pc := 182) dX12_tests_182 sx_m1 ?_
              refine sx_icmp_ne (pc := 183) (tgt := 190) dX12_tests_183 (by decide) (fun c28 => ?_) (fun c28 => ?_)
              · have h := sx_neg c28 h
                refine sx_iconst (pc := 190) (v := 0) dX12_tests_190 (by decide) ?_
                refine sx_goto (pc := 191) (tgt := 248) dX12_tests_191 (by decide) ?_
                refine sx_wk sx_s0 ?_
                exact tB_X12_tests_248 hG hP  h
              · have h := sx_pos c28 h
                refine sx_iconst (pc := 186) (v := 1) dX12_tests_186 (by decide) ?_
                refine sx_goto (pc := 187) (tgt := 248) dX12_tests_187 (by decide) ?_
                refine sx_wk sx_s0 ?_
                exact tB_X12_tests_248 hG hP  h
          · have h := sx_pos c19 h
            refine sx_iload_n (pc := 162) dX12_tests_162 sx_m0 ?_
            refine sx_iload_n (pc := 163) dX12_tests_163 sx_m1 ?_
            refine sx_icmp_lt (pc := 164) (tgt := 171) dX12_tests_164 (by decide) (fun c29 => ?_) (fun c29 => ?_)
            · have h := sx_pos c29 h
              refine sx_iconst (pc := 171) (v := 0) dX12_tests_171 (by decide) ?_
              refine sx_goto (pc := 172) (tgt := 248) dX12_tests_172 (by decide) ?_
              refine sx_wk sx_s0 ?_
              exact tB_X12_tests_248 hG hP  h
            · have h := sx_neg c29 h
              refine sx_iconst (pc := 167) (v := 1) dX12_tests_167 (by decide) ?_
              refine sx_goto (pc := 168) (tgt := 248) dX12_tests_168 (by decide) ?_
              refine sx_wk sx_s0 ?_
              exact tB_X12_tests_248 hG hP  h
        · have h := sx_pos c18 h
          refine sx_iload_n (pc := 143) dX12_tests_143 sx_m0 ?_
          refine sx_iload_n (pc := 144) dX12_tests_144 sx_m1 ?_
          refine sx_icmp_le (pc := 145) (tgt := 152) dX12_tests_145 (by decide) (fun c30 => ?_) (fun c30 => ?_)
          · have h := sx_pos c30 h
            refine sx_iconst (pc := 152) (v := 0) dX12_tests_152 (by decide) ?_
            refine sx_goto (pc := 153) (tgt := 248) dX12_tests_153 (by decide) ?_
            refine sx_wk sx_s0 ?_
            exact tB_X12_tests_248 hG hP  h
          · have h := sx_neg c30 h
            refine sx_iconst (pc := 148) (v := 1) dX12_tests_148 (by decide) ?_
            refine sx_goto (pc := 149) (tgt := 248) dX12_tests_149 (by decide) ?_
            refine sx_wk sx_s0 ?_
            exact tB_X12_tests_248 hG hP  h
      · have h := sx_pos c17 h
        refine sx_iload_n (pc := 124) dX12_tests_124 sx_m0 ?_
        refine sx_iload_n (pc := 125) dX12_tests_125 sx_m1 ?_
        refine sx_icmp_gt (pc := 126) (tgt := 133) dX12_tests_126 (by decide) (fun c31 => ?_) (fun c31 => ?_)
        · have h := sx_pos c31 h
          refine sx_iconst (pc := 133) (v := 0) dX12_tests_133 (by decide) ?_
          refine sx_goto (pc := 134) (tgt := 248) dX12_tests_134 (by decide) ?_
          refine sx_wk sx_s0 ?_
          exact tB_X12_tests_248 hG hP  h
        · have h := sx_neg c31 h
          refine sx_iconst (pc := 129) (v := 1) dX12_tests_129 (by decide) ?_
          refine sx_goto (pc := 130) (tgt := 248) dX12_tests_130 (by decide) ?_
          refine sx_wk sx_s0 ?_
          exact tB_X12_tests_248 hG hP  h
    · have h := sx_pos c16 h
      refine sx_iload_n (pc := 105) dX12_tests_105 sx_m0 ?_
      refine sx_iload_n (pc := 106) dX12_tests_106 sx_m1 ?_
      refine sx_icmp_ge (pc := 107) (tgt := 114) dX12_tests_107 (by decide) (fun c32 => ?_) (fun c32 => ?_)
      · have h := sx_pos c32 h
        refine sx_iconst (pc := 114) (v := 0) dX12_tests_114 (by decide) ?_
        refine sx_goto (pc := 115) (tgt := 248) dX12_tests_115 (by decide) ?_
        refine sx_wk sx_s0 ?_
        exact tB_X12_tests_248 hG hP  h
      · have h := sx_neg c32 h
        refine sx_iconst (pc := 110) (v := 1) dX12_tests_110 (by decide) ?_
        refine sx_goto (pc := 111) (tgt := 248) dX12_tests_111 (by decide) ?_
        refine sx_wk sx_s0 ?_
        exact tB_X12_tests_248 hG hP  h
def B_X12_tests_300 (N : Nat)  (s1 : Int32) (V : sv_V) : Option sv_V := (F_X12_one s1 V).bind (fun (x35, V33) => (F_X12_push x35.toInt64 V33).bind (fun V36 => some V36))
set_option maxRecDepth 20000 in
theorem tB_X12_tests_300 {g : sx_G} (hG : sx_Go g) {P : Option Value → sv_V → Prop} {Vr : sv_V} (hP : P none Vr) {N : Nat}   {s1 : Int32} {V : sv_V} (h : B_X12_tests_300 N  s1 V = some Vr) : sv_N g qX12_tests 6 300 [] [.int s1, .ref 146] V P := by
  unfold B_X12_tests_300 at h
  obtain ⟨⟨x35, V33⟩, g34, h⟩ := sx_bnd h
  refine sv_cS (pc := 300) (y := qX12_one) (o := (some (.int x35))) (as := [.int s1]) (V1 := V33) dX12_tests_300 l_X12_690 y0X12_one ysX12_one rfl (Nat.le_of_ble_eq_true rfl) (by decide) (Nat.le_of_ble_eq_true rfl) rfl rfl rfl (t_X12_one hG ⟨rfl, rfl⟩ g34) ?_
  refine sx_i2l (pc := 303) dX12_tests_303 ?_
  obtain ⟨V36, g37, h⟩ := sx_bnd h
  refine sv_cV (pc := 304) (y := qX12_push) (o := none) (as := [.long x35.toInt64]) (V1 := V36) hG dX12_tests_304 l_X12_564 y0X12_push yvX12_push rfl (Nat.le_of_ble_eq_true rfl) lay_146 kr_12 (by decide) (Nat.le_of_ble_eq_true rfl) rfl rfl rfl (t_X12_push hG ⟨rfl, rfl⟩ g37) ?_
  exact sv_vret (pc := 307) dX12_tests_307 rfl h hP
def B_X12_tests_291 (N : Nat)  (s1 : Int64) (s2 : Int64) (V : sv_V) : Option sv_V := if (lg_cmp s1 s2) = 0 then (B_X12_tests_300 N  (1 : Int32) V) else (B_X12_tests_300 N  (0 : Int32) V)
set_option maxRecDepth 20000 in
theorem tB_X12_tests_291 {g : sx_G} (hG : sx_Go g) {P : Option Value → sv_V → Prop} {Vr : sv_V} (hP : P none Vr) {N : Nat}   {s1 : Int64} {s2 : Int64} {V : sv_V} (h : B_X12_tests_291 N  s1 s2 V = some Vr) : sv_N g qX12_tests 6 291 [] [.long s2, .long s1, .ref 146] V P := by
  unfold B_X12_tests_291 at h
  refine sx_lcmp (pc := 291) dX12_tests_291 ?_
  refine sx_if_ne (pc := 292) (tgt := 299) dX12_tests_292 (by decide) (fun c38 => ?_) (fun c38 => ?_)
  · have h := sx_neg c38 h
    refine sx_iconst (pc := 299) (v := 0) dX12_tests_299 (by decide) ?_
    refine sx_wk sx_s0 ?_
    exact tB_X12_tests_300 hG hP  h
  · have h := sx_pos c38 h
    refine sx_iconst (pc := 295) (v := 1) dX12_tests_295 (by decide) ?_
    refine sx_goto (pc := 296) (tgt := 300) dX12_tests_296 (by decide) ?_
    refine sx_wk sx_s0 ?_
    exact tB_X12_tests_300 hG hP  h
def B_X12_tests_256 (N : Nat)  (l1 : Int32) (V : sv_V) : Option sv_V := (F_X12_has (1 : Int32) V).bind (fun (x41, V39) => if x41 = 0 then (some V39) else ((F_X12_pop  V39).bind (fun (x45, V43) => (F_X12_rounded x45.toInt64 V43).bind (fun (x48, V46) => if l1 = (86 : Int32) then (B_X12_tests_291 N  (x48 &&& (127 : Int64)) (64 : Int64) V46) else (B_X12_tests_291 N  (x48 &&& (127 : Int64)) (0 : Int64) V46)))))
set_option maxRecDepth 20000 in
theorem tB_X12_tests_256 {g : sx_G} (hG : sx_Go g) {P : Option Value → sv_V → Prop} {Vr : sv_V} (hP : P none Vr) {N : Nat}   {l1 : Int32} {V : sv_V} (h : B_X12_tests_256 N  l1 V = some Vr) : sv_N g qX12_tests 6 256 [(0, .ref 146), (1, .int l1)] [] V P := by
  unfold B_X12_tests_256 at h
  refine sx_aload_n (pc := 256) dX12_tests_256 sx_m0 ?_
  refine sx_iconst (pc := 257) (v := 1) dX12_tests_257 (by decide) ?_
  obtain ⟨⟨x41, V39⟩, g40, h⟩ := sx_bnd h
  refine sv_cV (pc := 258) (y := qX12_has) (o := (some (.int x41))) (as := [.int (1 : Int32)]) (V1 := V39) hG dX12_tests_258 l_X12_576 y0X12_has yvX12_has rfl (Nat.le_of_ble_eq_true rfl) lay_146 kr_12 (by decide) (Nat.le_of_ble_eq_true rfl) rfl rfl rfl (t_X12_has hG ⟨rfl, rfl⟩ g40) ?_
  refine sx_if_eq (pc := 261) (tgt := 307) dX12_tests_261 (by decide) (fun c42 => ?_) (fun c42 => ?_)
  · have h := sx_pos c42 h
    exact sv_vret (pc := 307) dX12_tests_307 rfl h hP
  · have h := sx_neg c42 h
    refine sx_aload_n (pc := 264) dX12_tests_264 sx_m0 ?_
    refine sx_aload_n (pc := 265) dX12_tests_265 sx_m0 ?_
    refine sx_aload_n (pc := 266) dX12_tests_266 sx_m0 ?_
    obtain ⟨⟨x45, V43⟩, g44, h⟩ := sx_bnd h
    refine sv_cV (pc := 267) (y := qX12_pop) (o := (some (.int x45))) (as := []) (V1 := V43) hG dX12_tests_267 l_X12_579 y0X12_pop yvX12_pop rfl (Nat.le_of_ble_eq_true rfl) lay_146 kr_12 (by decide) (Nat.le_of_ble_eq_true rfl) rfl rfl rfl (t_X12_pop hG ⟨rfl, rfl⟩ g44) ?_
    refine sx_i2l (pc := 270) dX12_tests_270 ?_
    obtain ⟨⟨x48, V46⟩, g47, h⟩ := sx_bnd h
    refine sv_cV (pc := 271) (y := qX12_rounded) (o := (some (.long x48))) (as := [.long x45.toInt64]) (V1 := V46) hG dX12_tests_271 l_X12_647 y0X12_rounded yvX12_rounded rfl (Nat.le_of_ble_eq_true rfl) lay_146 kr_12 (by decide) (Nat.le_of_ble_eq_true rfl) rfl rfl rfl (t_X12_rounded hG ⟨rfl, rfl⟩ g47) ?_
    refine sx_ldc2 (pc := 274) dX12_tests_274 k_X12_694 ?_
    refine sx_land (pc := 277) dX12_tests_277 ?_
    refine sx_iload_n (pc := 278) dX12_tests_278 sx_m1 ?_
    refine sx_bipush (pc := 279) (v := 86) dX12_tests_279 (by decide) ?_
    refine sx_icmp_ne (pc := 281) (tgt := 290) dX12_tests_281 (by decide) (fun c49 => ?_) (fun c49 => ?_)
    · have h := sx_neg c49 h
      refine sx_lconst (pc := 290) (v := 0) dX12_tests_290 rfl ?_
      refine sx_wk sx_s0 ?_
      exact tB_X12_tests_291 hG hP  h
    · have h := sx_pos c49 h
      refine sx_ldc2 (pc := 284) dX12_tests_284 k_X12_338 ?_
      refine sx_goto (pc := 287) (tgt := 291) dX12_tests_287 (by decide) ?_
      refine sx_wk sx_s0 ?_
      exact tB_X12_tests_291 hG hP  h
def B_X12_tests_363 (N : Nat)  (s1 : Int32) (V : sv_V) : Option sv_V := (F_X12_one s1 V).bind (fun (x52, V50) => (F_X12_push x52.toInt64 V50).bind (fun V53 => some V53))
set_option maxRecDepth 20000 in
theorem tB_X12_tests_363 {g : sx_G} (hG : sx_Go g) {P : Option Value → sv_V → Prop} {Vr : sv_V} (hP : P none Vr) {N : Nat}   {s1 : Int32} {V : sv_V} (h : B_X12_tests_363 N  s1 V = some Vr) : sv_N g qX12_tests 6 363 [] [.int s1, .ref 146] V P := by
  unfold B_X12_tests_363 at h
  obtain ⟨⟨x52, V50⟩, g51, h⟩ := sx_bnd h
  refine sv_cS (pc := 363) (y := qX12_one) (o := (some (.int x52))) (as := [.int s1]) (V1 := V50) dX12_tests_363 l_X12_690 y0X12_one ysX12_one rfl (Nat.le_of_ble_eq_true rfl) (by decide) (Nat.le_of_ble_eq_true rfl) rfl rfl rfl (t_X12_one hG ⟨rfl, rfl⟩ g51) ?_
  refine sx_i2l (pc := 366) dX12_tests_366 ?_
  obtain ⟨V53, g54, h⟩ := sx_bnd h
  refine sv_cV (pc := 367) (y := qX12_push) (o := none) (as := [.long x52.toInt64]) (V1 := V53) hG dX12_tests_367 l_X12_564 y0X12_push yvX12_push rfl (Nat.le_of_ble_eq_true rfl) lay_146 kr_12 (by decide) (Nat.le_of_ble_eq_true rfl) rfl rfl rfl (t_X12_push hG ⟨rfl, rfl⟩ g54) ?_
  exact sv_vret (pc := 370) dX12_tests_370 rfl h hP
def F_X12_tests (N : Nat) (l1 : Int32) (V : sv_V) : Option sv_V := if l1 = 80 then (B_X12_tests_80 N  l1 V) else (if l1 = 81 then (B_X12_tests_80 N  l1 V) else (if l1 = 82 then (B_X12_tests_80 N  l1 V) else (if l1 = 83 then (B_X12_tests_80 N  l1 V) else (if l1 = 84 then (B_X12_tests_80 N  l1 V) else (if l1 = 85 then (B_X12_tests_80 N  l1 V) else (if l1 = 86 then (B_X12_tests_256 N  l1 V) else (if l1 = 87 then (B_X12_tests_256 N  l1 V) else (if l1 = 88 then ((F_X12_has (1 : Int32) V).bind (fun (x66, V64) => if x66 = 0 then (some V64) else ((F_X12_pop  V64).bind (fun (x70, V68) => if x70 = 0 then ((F_X12_pass N (V68.1 146 93) (27 : Int32) (89 : Int32) (1 : Int32) V68).bind (fun (x74, V72) => sx_let (sv_I V72 146 93 x74) (fun V75 => some V75))) else (some V68))))) else (if l1 = 89 then (some V) else (if l1 = 90 then (B_X12_tests_80 N  l1 V) else (if l1 = 91 then (B_X12_tests_80 N  l1 V) else (if l1 = 92 then ((F_X12_has (1 : Int32) V).bind (fun (x82, V80) => if x82 = 0 then (some V80) else ((F_X12_pop  V80).bind (fun (x86, V84) => if x86 = 0 then (B_X12_tests_363 N  (1 : Int32) V84) else (B_X12_tests_363 N  (0 : Int32) V84))))) else (if l1 = 93 then ((F_X12_deltas N (0 : Int32) (1 : Int32) V).bind (fun V89 => some V89)) else (if l1 = 94 then ((F_X12_has (1 : Int32) V).bind (fun (x94, V92) => if x94 = 0 then (sx_let (sv_I V92 146 85 (0 : Int32)) (fun V96 => some V96)) else ((F_X12_pop  V92).bind (fun (x99, V97) => sx_let (sv_I V97 146 85 x99) (fun V100 => some V100))))) else (if l1 = 95 then ((F_X12_has (1 : Int32) V).bind (fun (x104, V102) => if x104 = 0 then (some V102) else ((F_X12_pop  V102).bind (fun (x108, V106) => (F_X12_in x108.toInt64 (0 : Int64) (6 : Int64) V106).bind (fun (x111, V109) => if x111 = 0 then ((F_X12_fail (11 : Int32) V109).bind (fun V114 => sx_let (sv_I V114 146 86 x108) (fun V116 => some V116))) else (sx_let (sv_I V109 146 86 x108) (fun V113 => some V113))))))) else ((F_X12_unknown l1 V).bind (fun V117 => some V117)))))))))))))))))
set_option maxRecDepth 20000 in
theorem t_X12_tests {g : sx_G} (hG : sx_Go g) {P : Option Value → sv_V → Prop} {Vr : sv_V} (hP : P none Vr) {N : Nat} {l1 : Int32} {V : sv_V} (h : F_X12_tests N l1 V = some Vr) : sv_N g qX12_tests 6 0 [(0, .ref 146), (1, .int l1)] [] V P := by
  unfold F_X12_tests at h
  refine sx_iload_n (pc := 0) dX12_tests_0 sx_m1 ?_
  by_cases c55 : l1 = 80
  · have h := sx_pos c55 h
    refine sx_tabI (pc := 1) (off := 79) (tgt := 80) dX12_tests_1 (by rw [c55]; decide) (by rw [c55]; decide) (by rw [c55]; rfl) (by decide) ?_
    refine sx_wk (sx_s1 sx_m0 (sx_s1 sx_m1 sx_s0)) ?_
    exact tB_X12_tests_80 hG hP  h
  have h := sx_neg c55 h
  by_cases c56 : l1 = 81
  · have h := sx_pos c56 h
    refine sx_tabI (pc := 1) (off := 79) (tgt := 80) dX12_tests_1 (by rw [c56]; decide) (by rw [c56]; decide) (by rw [c56]; rfl) (by decide) ?_
    refine sx_wk (sx_s1 sx_m0 (sx_s1 sx_m1 sx_s0)) ?_
    exact tB_X12_tests_80 hG hP  h
  have h := sx_neg c56 h
  by_cases c57 : l1 = 82
  · have h := sx_pos c57 h
    refine sx_tabI (pc := 1) (off := 79) (tgt := 80) dX12_tests_1 (by rw [c57]; decide) (by rw [c57]; decide) (by rw [c57]; rfl) (by decide) ?_
    refine sx_wk (sx_s1 sx_m0 (sx_s1 sx_m1 sx_s0)) ?_
    exact tB_X12_tests_80 hG hP  h
  have h := sx_neg c57 h
  by_cases c58 : l1 = 83
  · have h := sx_pos c58 h
    refine sx_tabI (pc := 1) (off := 79) (tgt := 80) dX12_tests_1 (by rw [c58]; decide) (by rw [c58]; decide) (by rw [c58]; rfl) (by decide) ?_
    refine sx_wk (sx_s1 sx_m0 (sx_s1 sx_m1 sx_s0)) ?_
    exact tB_X12_tests_80 hG hP  h
  have h := sx_neg c58 h
  by_cases c59 : l1 = 84
  · have h := sx_pos c59 h
    refine sx_tabI (pc := 1) (off := 79) (tgt := 80) dX12_tests_1 (by rw [c59]; decide) (by rw [c59]; decide) (by rw [c59]; rfl) (by decide) ?_
    refine sx_wk (sx_s1 sx_m0 (sx_s1 sx_m1 sx_s0)) ?_
    exact tB_X12_tests_80 hG hP  h
  have h := sx_neg c59 h
  by_cases c60 : l1 = 85
  · have h := sx_pos c60 h
    refine sx_tabI (pc := 1) (off := 79) (tgt := 80) dX12_tests_1 (by rw [c60]; decide) (by rw [c60]; decide) (by rw [c60]; rfl) (by decide) ?_
    refine sx_wk (sx_s1 sx_m0 (sx_s1 sx_m1 sx_s0)) ?_
    exact tB_X12_tests_80 hG hP  h
  have h := sx_neg c60 h
  by_cases c61 : l1 = 86
  · have h := sx_pos c61 h
    refine sx_tabI (pc := 1) (off := 255) (tgt := 256) dX12_tests_1 (by rw [c61]; decide) (by rw [c61]; decide) (by rw [c61]; rfl) (by decide) ?_
    refine sx_wk (sx_s1 sx_m0 (sx_s1 sx_m1 sx_s0)) ?_
    exact tB_X12_tests_256 hG hP  h
  have h := sx_neg c61 h
  by_cases c62 : l1 = 87
  · have h := sx_pos c62 h
    refine sx_tabI (pc := 1) (off := 255) (tgt := 256) dX12_tests_1 (by rw [c62]; decide) (by rw [c62]; decide) (by rw [c62]; rfl) (by decide) ?_
    refine sx_wk (sx_s1 sx_m0 (sx_s1 sx_m1 sx_s0)) ?_
    exact tB_X12_tests_256 hG hP  h
  have h := sx_neg c62 h
  by_cases c63 : l1 = 88
  · have h := sx_pos c63 h
    refine sx_tabI (pc := 1) (off := 307) (tgt := 308) dX12_tests_1 (by rw [c63]; decide) (by rw [c63]; decide) (by rw [c63]; rfl) (by decide) ?_
    refine sx_aload_n (pc := 308) dX12_tests_308 sx_m0 ?_
    refine sx_iconst (pc := 309) (v := 1) dX12_tests_309 (by decide) ?_
    obtain ⟨⟨x66, V64⟩, g65, h⟩ := sx_bnd h
    refine sv_cV (pc := 310) (y := qX12_has) (o := (some (.int x66))) (as := [.int (1 : Int32)]) (V1 := V64) hG dX12_tests_310 l_X12_576 y0X12_has yvX12_has rfl (Nat.le_of_ble_eq_true rfl) lay_146 kr_12 (by decide) (Nat.le_of_ble_eq_true rfl) rfl rfl rfl (t_X12_has hG ⟨rfl, rfl⟩ g65) ?_
    refine sx_if_eq (pc := 313) (tgt := 340) dX12_tests_313 (by decide) (fun c67 => ?_) (fun c67 => ?_)
    · have h := sx_pos c67 h
      exact sv_vret (pc := 340) dX12_tests_340 rfl h hP
    · have h := sx_neg c67 h
      refine sx_aload_n (pc := 316) dX12_tests_316 sx_m0 ?_
      obtain ⟨⟨x70, V68⟩, g69, h⟩ := sx_bnd h
      refine sv_cV (pc := 317) (y := qX12_pop) (o := (some (.int x70))) (as := []) (V1 := V68) hG dX12_tests_317 l_X12_579 y0X12_pop yvX12_pop rfl (Nat.le_of_ble_eq_true rfl) lay_146 kr_12 (by decide) (Nat.le_of_ble_eq_true rfl) rfl rfl rfl (t_X12_pop hG ⟨rfl, rfl⟩ g69) ?_
      refine sx_if_ne (pc := 320) (tgt := 340) dX12_tests_320 (by decide) (fun c71 => ?_) (fun c71 => ?_)
      · have h := sx_neg c71 h
        exact sv_vret (pc := 340) dX12_tests_340 rfl h hP
      · have h := sx_pos c71 h
        refine sx_aload_n (pc := 323) dX12_tests_323 sx_m0 ?_
        refine sx_aload_n (pc := 324) dX12_tests_324 sx_m0 ?_
        refine sx_aload_n (pc := 325) dX12_tests_325 sx_m0 ?_
        refine sv_getI (pc := 326) hG dX12_tests_326 f_12_496 lay_146 rfl ?_
        refine sx_bipush (pc := 329) (v := 27) dX12_tests_329 (by decide) ?_
        refine sx_bipush (pc := 331) (v := 89) dX12_tests_331 (by decide) ?_
        refine sx_iconst (pc := 333) (v := 1) dX12_tests_333 (by decide) ?_
        obtain ⟨⟨x74, V72⟩, g73, h⟩ := sx_bnd h
        refine sv_cV (pc := 334) (y := qX12_pass) (o := (some (.int x74))) (as := [.int (V68.1 146 93), .int (27 : Int32), .int (89 : Int32), .int (1 : Int32)]) (V1 := V72) hG dX12_tests_334 l_X12_598 y0X12_pass yvX12_pass rfl (Nat.le_of_ble_eq_true rfl) lay_146 kr_12 (by decide) (Nat.le_of_ble_eq_true rfl) rfl rfl rfl (t_X12_pass hG ⟨rfl, rfl⟩ g73) ?_
        obtain ⟨V75, hV75⟩ : ∃ z : sv_V, z = sv_I V72 146 93 x74 := ⟨_, rfl⟩
        have h := sx_letE hV75 h
        refine sv_putI (pc := 337) hG dX12_tests_337 f_12_496 lay_146 rfl hV75 ?_
        exact sv_vret (pc := 340) dX12_tests_340 rfl h hP
  have h := sx_neg c63 h
  by_cases c76 : l1 = 89
  · have h := sx_pos c76 h
    refine sx_tabI (pc := 1) (off := 340) (tgt := 341) dX12_tests_1 (by rw [c76]; decide) (by rw [c76]; decide) (by rw [c76]; rfl) (by decide) ?_
    exact sv_vret (pc := 341) dX12_tests_341 rfl h hP
  have h := sx_neg c76 h
  by_cases c77 : l1 = 90
  · have h := sx_pos c77 h
    refine sx_tabI (pc := 1) (off := 79) (tgt := 80) dX12_tests_1 (by rw [c77]; decide) (by rw [c77]; decide) (by rw [c77]; rfl) (by decide) ?_
    refine sx_wk (sx_s1 sx_m0 (sx_s1 sx_m1 sx_s0)) ?_
    exact tB_X12_tests_80 hG hP  h
  have h := sx_neg c77 h
  by_cases c78 : l1 = 91
  · have h := sx_pos c78 h
    refine sx_tabI (pc := 1) (off := 79) (tgt := 80) dX12_tests_1 (by rw [c78]; decide) (by rw [c78]; decide) (by rw [c78]; rfl) (by decide) ?_
    refine sx_wk (sx_s1 sx_m0 (sx_s1 sx_m1 sx_s0)) ?_
    exact tB_X12_tests_80 hG hP  h
  have h := sx_neg c78 h
  by_cases c79 : l1 = 92
  · have h := sx_pos c79 h
    refine sx_tabI (pc := 1) (off := 341) (tgt := 342) dX12_tests_1 (by rw [c79]; decide) (by rw [c79]; decide) (by rw [c79]; rfl) (by decide) ?_
    refine sx_aload_n (pc := 342) dX12_tests_342 sx_m0 ?_
    refine sx_iconst (pc := 343) (v := 1) dX12_tests_343 (by decide) ?_
    obtain ⟨⟨x82, V80⟩, g81, h⟩ := sx_bnd h
    refine sv_cV (pc := 344) (y := qX12_has) (o := (some (.int x82))) (as := [.int (1 : Int32)]) (V1 := V80) hG dX12_tests_344 l_X12_576 y0X12_has yvX12_has rfl (Nat.le_of_ble_eq_true rfl) lay_146 kr_12 (by decide) (Nat.le_of_ble_eq_true rfl) rfl rfl rfl (t_X12_has hG ⟨rfl, rfl⟩ g81) ?_
    refine sx_if_eq (pc := 347) (tgt := 370) dX12_tests_347 (by decide) (fun c83 => ?_) (fun c83 => ?_)
    · have h := sx_pos c83 h
      exact sv_vret (pc := 370) dX12_tests_370 rfl h hP
    · have h := sx_neg c83 h
      refine sx_aload_n (pc := 350) dX12_tests_350 sx_m0 ?_
      refine sx_aload_n (pc := 351) dX12_tests_351 sx_m0 ?_
      obtain ⟨⟨x86, V84⟩, g85, h⟩ := sx_bnd h
      refine sv_cV (pc := 352) (y := qX12_pop) (o := (some (.int x86))) (as := []) (V1 := V84) hG dX12_tests_352 l_X12_579 y0X12_pop yvX12_pop rfl (Nat.le_of_ble_eq_true rfl) lay_146 kr_12 (by decide) (Nat.le_of_ble_eq_true rfl) rfl rfl rfl (t_X12_pop hG ⟨rfl, rfl⟩ g85) ?_
      refine sx_if_ne (pc := 355) (tgt := 362) dX12_tests_355 (by decide) (fun c87 => ?_) (fun c87 => ?_)
      · have h := sx_neg c87 h
        refine sx_iconst (pc := 362) (v := 0) dX12_tests_362 (by decide) ?_
        refine sx_wk sx_s0 ?_
        exact tB_X12_tests_363 hG hP  h
      · have h := sx_pos c87 h
        refine sx_iconst (pc := 358) (v := 1) dX12_tests_358 (by decide) ?_
        refine sx_goto (pc := 359) (tgt := 363) dX12_tests_359 (by decide) ?_
        refine sx_wk sx_s0 ?_
        exact tB_X12_tests_363 hG hP  h
  have h := sx_neg c79 h
  by_cases c88 : l1 = 93
  · have h := sx_pos c88 h
    refine sx_tabI (pc := 1) (off := 370) (tgt := 371) dX12_tests_1 (by rw [c88]; decide) (by rw [c88]; decide) (by rw [c88]; rfl) (by decide) ?_
    refine sx_aload_n (pc := 371) dX12_tests_371 sx_m0 ?_
    refine sx_iconst (pc := 372) (v := 0) dX12_tests_372 (by decide) ?_
    refine sx_iconst (pc := 373) (v := 1) dX12_tests_373 (by decide) ?_
    obtain ⟨V89, g90, h⟩ := sx_bnd h
    refine sv_cV (pc := 374) (y := qX12_deltas) (o := none) (as := [.int (0 : Int32), .int (1 : Int32)]) (V1 := V89) hG dX12_tests_374 l_X12_696 y0X12_deltas yvX12_deltas rfl (Nat.le_of_ble_eq_true rfl) lay_146 kr_12 (by decide) (Nat.le_of_ble_eq_true rfl) rfl rfl rfl (t_X12_deltas hG ⟨rfl, rfl⟩ g90) ?_
    exact sv_vret (pc := 377) dX12_tests_377 rfl h hP
  have h := sx_neg c88 h
  by_cases c91 : l1 = 94
  · have h := sx_pos c91 h
    refine sx_tabI (pc := 1) (off := 377) (tgt := 378) dX12_tests_1 (by rw [c91]; decide) (by rw [c91]; decide) (by rw [c91]; rfl) (by decide) ?_
    refine sx_aload_n (pc := 378) dX12_tests_378 sx_m0 ?_
    refine sx_aload_n (pc := 379) dX12_tests_379 sx_m0 ?_
    refine sx_iconst (pc := 380) (v := 1) dX12_tests_380 (by decide) ?_
    obtain ⟨⟨x94, V92⟩, g93, h⟩ := sx_bnd h
    refine sv_cV (pc := 381) (y := qX12_has) (o := (some (.int x94))) (as := [.int (1 : Int32)]) (V1 := V92) hG dX12_tests_381 l_X12_576 y0X12_has yvX12_has rfl (Nat.le_of_ble_eq_true rfl) lay_146 kr_12 (by decide) (Nat.le_of_ble_eq_true rfl) rfl rfl rfl (t_X12_has hG ⟨rfl, rfl⟩ g93) ?_
    refine sx_if_eq (pc := 384) (tgt := 394) dX12_tests_384 (by decide) (fun c95 => ?_) (fun c95 => ?_)
    · have h := sx_pos c95 h
      refine sx_iconst (pc := 394) (v := 0) dX12_tests_394 (by decide) ?_
      obtain ⟨V96, hV96⟩ : ∃ z : sv_V, z = sv_I V92 146 85 (0 : Int32) := ⟨_, rfl⟩
      have h := sx_letE hV96 h
      refine sv_putI (pc := 395) hG dX12_tests_395 f_12_700 lay_146 rfl hV96 ?_
      exact sv_vret (pc := 398) dX12_tests_398 rfl h hP
    · have h := sx_neg c95 h
      refine sx_aload_n (pc := 387) dX12_tests_387 sx_m0 ?_
      obtain ⟨⟨x99, V97⟩, g98, h⟩ := sx_bnd h
      refine sv_cV (pc := 388) (y := qX12_pop) (o := (some (.int x99))) (as := []) (V1 := V97) hG dX12_tests_388 l_X12_579 y0X12_pop yvX12_pop rfl (Nat.le_of_ble_eq_true rfl) lay_146 kr_12 (by decide) (Nat.le_of_ble_eq_true rfl) rfl rfl rfl (t_X12_pop hG ⟨rfl, rfl⟩ g98) ?_
      refine sx_goto (pc := 391) (tgt := 395) dX12_tests_391 (by decide) ?_
      obtain ⟨V100, hV100⟩ : ∃ z : sv_V, z = sv_I V97 146 85 x99 := ⟨_, rfl⟩
      have h := sx_letE hV100 h
      refine sv_putI (pc := 395) hG dX12_tests_395 f_12_700 lay_146 rfl hV100 ?_
      exact sv_vret (pc := 398) dX12_tests_398 rfl h hP
  have h := sx_neg c91 h
  by_cases c101 : l1 = 95
  · have h := sx_pos c101 h
    refine sx_tabI (pc := 1) (off := 398) (tgt := 399) dX12_tests_1 (by rw [c101]; decide) (by rw [c101]; decide) (by rw [c101]; rfl) (by decide) ?_
    refine sx_aload_n (pc := 399) dX12_tests_399 sx_m0 ?_
    refine sx_iconst (pc := 400) (v := 1) dX12_tests_400 (by decide) ?_
    obtain ⟨⟨x104, V102⟩, g103, h⟩ := sx_bnd h
    refine sv_cV (pc := 401) (y := qX12_has) (o := (some (.int x104))) (as := [.int (1 : Int32)]) (V1 := V102) hG dX12_tests_401 l_X12_576 y0X12_has yvX12_has rfl (Nat.le_of_ble_eq_true rfl) lay_146 kr_12 (by decide) (Nat.le_of_ble_eq_true rfl) rfl rfl rfl (t_X12_has hG ⟨rfl, rfl⟩ g103) ?_
    refine sx_if_eq (pc := 404) (tgt := 435) dX12_tests_404 (by decide) (fun c105 => ?_) (fun c105 => ?_)
    · have h := sx_pos c105 h
      exact sv_vret (pc := 435) dX12_tests_435 rfl h hP
    · have h := sx_neg c105 h
      refine sx_aload_n (pc := 407) dX12_tests_407 sx_m0 ?_
      obtain ⟨⟨x108, V106⟩, g107, h⟩ := sx_bnd h
      refine sv_cV (pc := 408) (y := qX12_pop) (o := (some (.int x108))) (as := []) (V1 := V106) hG dX12_tests_408 l_X12_579 y0X12_pop yvX12_pop rfl (Nat.le_of_ble_eq_true rfl) lay_146 kr_12 (by decide) (Nat.le_of_ble_eq_true rfl) rfl rfl rfl (t_X12_pop hG ⟨rfl, rfl⟩ g107) ?_
      refine sx_istore_n (pc := 411) (lo' := [(2, .int x108), (0, .ref 146), (1, .int l1)]) dX12_tests_411 (by decide) rfl ?_
      refine sx_iload_n (pc := 412) dX12_tests_412 sx_m0 ?_
      refine sx_i2l (pc := 413) dX12_tests_413 ?_
      refine sx_lconst (pc := 414) (v := 0) dX12_tests_414 rfl ?_
      refine sx_ldc2 (pc := 415) dX12_tests_415 k_X12_382 ?_
      obtain ⟨⟨x111, V109⟩, g110, h⟩ := sx_bnd h
      refine sv_cS (pc := 418) (y := qX12_in) (o := (some (.int x111))) (as := [.long x108.toInt64, .long (0 : Int64), .long (6 : Int64)]) (V1 := V109) dX12_tests_418 l_X12_263 y0X12_in ysX12_in rfl (Nat.le_of_ble_eq_true rfl) (by decide) (Nat.le_of_ble_eq_true rfl) rfl rfl rfl (t_X12_in hG ⟨rfl, rfl⟩ g110) ?_
      refine sx_if_ne (pc := 421) (tgt := 430) dX12_tests_421 (by decide) (fun c112 => ?_) (fun c112 => ?_)
      · have h := sx_neg c112 h
        refine sx_aload_n (pc := 430) dX12_tests_430 sx_m1 ?_
        refine sx_iload_n (pc := 431) dX12_tests_431 sx_m0 ?_
        obtain ⟨V113, hV113⟩ : ∃ z : sv_V, z = sv_I V109 146 86 x108 := ⟨_, rfl⟩
        have h := sx_letE hV113 h
        refine sv_putI (pc := 432) hG dX12_tests_432 f_12_703 lay_146 rfl hV113 ?_
        exact sv_vret (pc := 435) dX12_tests_435 rfl h hP
      · have h := sx_pos c112 h
        refine sx_aload_n (pc := 424) dX12_tests_424 sx_m1 ?_
        refine sx_bipush (pc := 425) (v := 11) dX12_tests_425 (by decide) ?_
        obtain ⟨V114, g115, h⟩ := sx_bnd h
        refine sv_cV (pc := 427) (y := qX12_fail) (o := none) (as := [.int (11 : Int32)]) (V1 := V114) hG dX12_tests_427 l_X12_421 y0X12_fail yvX12_fail rfl (Nat.le_of_ble_eq_true rfl) lay_146 kr_12 (by decide) (Nat.le_of_ble_eq_true rfl) rfl rfl rfl (t_X12_fail hG ⟨rfl, rfl⟩ g115) ?_
        refine sx_aload_n (pc := 430) dX12_tests_430 sx_m1 ?_
        refine sx_iload_n (pc := 431) dX12_tests_431 sx_m0 ?_
        obtain ⟨V116, hV116⟩ : ∃ z : sv_V, z = sv_I V114 146 86 x108 := ⟨_, rfl⟩
        have h := sx_letE hV116 h
        refine sv_putI (pc := 432) hG dX12_tests_432 f_12_703 lay_146 rfl hV116 ?_
        exact sv_vret (pc := 435) dX12_tests_435 rfl h hP
  have h := sx_neg c101 h
  refine sx_tabO (pc := 1) (tgt := 436) dX12_tests_1 (by have ec55 := lv_neT (a := 80) c55 rfl; have ec56 := lv_neT (a := 81) c56 rfl; have ec57 := lv_neT (a := 82) c57 rfl; have ec58 := lv_neT (a := 83) c58 rfl; have ec59 := lv_neT (a := 84) c59 rfl; have ec60 := lv_neT (a := 85) c60 rfl; have ec61 := lv_neT (a := 86) c61 rfl; have ec62 := lv_neT (a := 87) c62 rfl; have ec63 := lv_neT (a := 88) c63 rfl; have ec76 := lv_neT (a := 89) c76 rfl; have ec77 := lv_neT (a := 90) c77 rfl; have ec78 := lv_neT (a := 91) c78 rfl; have ec79 := lv_neT (a := 92) c79 rfl; have ec88 := lv_neT (a := 93) c88 rfl; have ec91 := lv_neT (a := 94) c91 rfl; have ec101 := lv_neT (a := 95) c101 rfl; omega) (by decide) ?_
  refine sx_aload_n (pc := 436) dX12_tests_436 sx_m0 ?_
  refine sx_iload_n (pc := 437) dX12_tests_437 sx_m1 ?_
  obtain ⟨V117, g118, h⟩ := sx_bnd h
  refine sv_cV (pc := 438) (y := qX12_unknown) (o := none) (as := [.int l1]) (V1 := V117) hG dX12_tests_438 l_X12_650 y0X12_unknown yvX12_unknown rfl (Nat.le_of_ble_eq_true rfl) lay_146 kr_12 (by decide) (Nat.le_of_ble_eq_true rfl) rfl rfl rfl (t_X12_unknown hG ⟨rfl, rfl⟩ g118) ?_
  exact sv_vret (pc := 441) dX12_tests_441 rfl h hP
def ncX12_loops : Nat := 234380766620880301914536206729783115043866775818227834310310060232463801117890308677747014255278317617027424019061536509088312522729571872413253912030435118146287955644339303350128197248597156842888799031326279583075788527125580747063162500347974656276219235443873922158090360237669465051433571905501323543480429956967914955926255895936021163002581161144261185680558657477010346719335389659796501442147196025023320801282884706610994162481591116265245198909665769925129451133435179507059227842589883230053504320522985689594040038155741122110924255039146882944211754
theorem kcX12_loops : CK cX12_loops ncX12_loops 234 := ⟨by decide +kernel, by decide +kernel⟩
theorem dX12_loops_0 : decode cX12_loops 0 = .ok (.aload_n 0, 1) := dl_o42 kcX12_loops (by decide +kernel)
theorem dX12_loops_1 : decode cX12_loops 1 = .ok (.iload_n 1, 1) := dl_o27 kcX12_loops (by decide +kernel)
theorem dX12_loops_2 : decode cX12_loops 2 = .ok (.bipush 56, 2) := dl_o16 kcX12_loops 56 (by decide +kernel) (by decide +kernel)
theorem dX12_loops_4 : decode cX12_loops 4 = .ok (.if_icmp .ne 12, 3) := dl_o160 kcX12_loops 12 (by decide +kernel) (by decide +kernel)
theorem dX12_loops_7 : decode cX12_loops 7 = .ok (.aload_n 0, 1) := dl_o42 kcX12_loops (by decide +kernel)
theorem dX12_loops_8 : decode cX12_loops 8 = .ok (.getfield 469, 3) := dl_o180 kcX12_loops (by decide +kernel)
theorem dX12_loops_11 : decode cX12_loops 11 = .ok (.iconst 1, 1) := dl_o4 kcX12_loops (by decide +kernel)
theorem dX12_loops_12 : decode cX12_loops 12 = .ok (.iadd, 1) := dl_o96 kcX12_loops (by decide +kernel)
theorem dX12_loops_13 : decode cX12_loops 13 = .ok (.goto 7, 3) := dl_o167 kcX12_loops 7 (by decide +kernel) (by decide +kernel)
theorem dX12_loops_16 : decode cX12_loops 16 = .ok (.aload_n 0, 1) := dl_o42 kcX12_loops (by decide +kernel)
theorem dX12_loops_17 : decode cX12_loops 17 = .ok (.getfield 469, 3) := dl_o180 kcX12_loops (by decide +kernel)
theorem dX12_loops_20 : decode cX12_loops 20 = .ok (.invokevirtual 576, 3) := dl_o182 kcX12_loops (by decide +kernel)
theorem dX12_loops_23 : decode cX12_loops 23 = .ok (.ifCond .ne 4, 3) := dl_o154 kcX12_loops 4 (by decide +kernel) (by decide +kernel)
theorem dX12_loops_26 : decode cX12_loops 26 = .ok (.return_, 1) := dl_o177 kcX12_loops (by decide +kernel)
theorem dX12_loops_27 : decode cX12_loops 27 = .ok (.iload_n 1, 1) := dl_o27 kcX12_loops (by decide +kernel)
theorem dX12_loops_28 : decode cX12_loops 28 = .ok (.bipush 56, 2) := dl_o16 kcX12_loops 56 (by decide +kernel) (by decide +kernel)
theorem dX12_loops_30 : decode cX12_loops 30 = .ok (.if_icmp .ne 10, 3) := dl_o160 kcX12_loops 10 (by decide +kernel) (by decide +kernel)
theorem dX12_loops_33 : decode cX12_loops 33 = .ok (.aload_n 0, 1) := dl_o42 kcX12_loops (by decide +kernel)
theorem dX12_loops_34 : decode cX12_loops 34 = .ok (.invokevirtual 579, 3) := dl_o182 kcX12_loops (by decide +kernel)
theorem dX12_loops_37 : decode cX12_loops 37 = .ok (.goto 4, 3) := dl_o167 kcX12_loops 4 (by decide +kernel) (by decide +kernel)
theorem dX12_loops_40 : decode cX12_loops 40 = .ok (.iconst 0, 1) := dl_o3 kcX12_loops (by decide +kernel)
theorem dX12_loops_41 : decode cX12_loops 41 = .ok (.istore_n 2, 1) := dl_o61 kcX12_loops (by decide +kernel)
theorem dX12_loops_42 : decode cX12_loops 42 = .ok (.iconst 0, 1) := dl_o3 kcX12_loops (by decide +kernel)
theorem dX12_loops_43 : decode cX12_loops 43 = .ok (.istore_n 3, 1) := dl_o62 kcX12_loops (by decide +kernel)
theorem dX12_loops_44 : decode cX12_loops 44 = .ok (.iload_n 3, 1) := dl_o29 kcX12_loops (by decide +kernel)
theorem dX12_loops_45 : decode cX12_loops 45 = .ok (.aload_n 0, 1) := dl_o42 kcX12_loops (by decide +kernel)
theorem dX12_loops_46 : decode cX12_loops 46 = .ok (.getfield 469, 3) := dl_o180 kcX12_loops (by decide +kernel)
theorem dX12_loops_49 : decode cX12_loops 49 = .ok (.if_icmp .ge 179, 3) := dl_o162 kcX12_loops 179 (by decide +kernel) (by decide +kernel)
theorem dX12_loops_52 : decode cX12_loops 52 = .ok (.aload_n 0, 1) := dl_o42 kcX12_loops (by decide +kernel)
theorem dX12_loops_53 : decode cX12_loops 53 = .ok (.getfield 409, 3) := dl_o180 kcX12_loops (by decide +kernel)
theorem dX12_loops_56 : decode cX12_loops 56 = .ok (.ifCond .ne 172, 3) := dl_o154 kcX12_loops 172 (by decide +kernel) (by decide +kernel)
theorem dX12_loops_59 : decode cX12_loops 59 = .ok (.aload_n 0, 1) := dl_o42 kcX12_loops (by decide +kernel)
theorem dX12_loops_60 : decode cX12_loops 60 = .ok (.iload_n 1, 1) := dl_o27 kcX12_loops (by decide +kernel)
theorem dX12_loops_61 : decode cX12_loops 61 = .ok (.bipush 60, 2) := dl_o16 kcX12_loops 60 (by decide +kernel) (by decide +kernel)
theorem dX12_loops_63 : decode cX12_loops 63 = .ok (.if_icmp .ne 10, 3) := dl_o160 kcX12_loops 10 (by decide +kernel) (by decide +kernel)
theorem dX12_loops_66 : decode cX12_loops 66 = .ok (.aload_n 0, 1) := dl_o42 kcX12_loops (by decide +kernel)
theorem dX12_loops_67 : decode cX12_loops 67 = .ok (.getfield 463, 3) := dl_o180 kcX12_loops (by decide +kernel)
theorem dX12_loops_70 : decode cX12_loops 70 = .ok (.goto 7, 3) := dl_o167 kcX12_loops 7 (by decide +kernel) (by decide +kernel)
theorem dX12_loops_73 : decode cX12_loops 73 = .ok (.aload_n 0, 1) := dl_o42 kcX12_loops (by decide +kernel)
theorem dX12_loops_74 : decode cX12_loops 74 = .ok (.getfield 466, 3) := dl_o180 kcX12_loops (by decide +kernel)
theorem dX12_loops_77 : decode cX12_loops 77 = .ok (.aload_n 0, 1) := dl_o42 kcX12_loops (by decide +kernel)
theorem dX12_loops_78 : decode cX12_loops 78 = .ok (.invokevirtual 579, 3) := dl_o182 kcX12_loops (by decide +kernel)
theorem dX12_loops_81 : decode cX12_loops 81 = .ok (.invokevirtual 582, 3) := dl_o182 kcX12_loops (by decide +kernel)
theorem dX12_loops_84 : decode cX12_loops 84 = .ok (.istore 4, 2) := dl_o54 kcX12_loops (by decide +kernel)
theorem dX12_loops_86 : decode cX12_loops 86 = .ok (.aload_n 0, 1) := dl_o42 kcX12_loops (by decide +kernel)
theorem dX12_loops_87 : decode cX12_loops 87 = .ok (.getfield 409, 3) := dl_o180 kcX12_loops (by decide +kernel)
theorem dX12_loops_90 : decode cX12_loops 90 = .ok (.ifCond .ne 132, 3) := dl_o154 kcX12_loops 132 (by decide +kernel) (by decide +kernel)
theorem dX12_loops_93 : decode cX12_loops 93 = .ok (.iload_n 1, 1) := dl_o27 kcX12_loops (by decide +kernel)
theorem dX12_loops_94 : decode cX12_loops 94 = .ok (.bipush 56, 2) := dl_o16 kcX12_loops 56 (by decide +kernel) (by decide +kernel)
theorem dX12_loops_96 : decode cX12_loops 96 = .ok (.if_icmp .ne 74, 3) := dl_o160 kcX12_loops 74 (by decide +kernel) (by decide +kernel)
theorem dX12_loops_99 : decode cX12_loops 99 = .ok (.aload_n 0, 1) := dl_o42 kcX12_loops (by decide +kernel)
theorem dX12_loops_100 : decode cX12_loops 100 = .ok (.getfield 76, 3) := dl_o180 kcX12_loops (by decide +kernel)
theorem dX12_loops_103 : decode cX12_loops 103 = .ok (.iload 4, 2) := dl_o21 kcX12_loops (by decide +kernel)
theorem dX12_loops_105 : decode cX12_loops 105 = .ok (.aload_n 0, 1) := dl_o42 kcX12_loops (by decide +kernel)
theorem dX12_loops_106 : decode cX12_loops 106 = .ok (.getfield 76, 3) := dl_o180 kcX12_loops (by decide +kernel)
theorem dX12_loops_109 : decode cX12_loops 109 = .ok (.iload 4, 2) := dl_o21 kcX12_loops (by decide +kernel)
theorem dX12_loops_111 : decode cX12_loops 111 = .ok (.iaload, 1) := dl_o46 kcX12_loops (by decide +kernel)
theorem dX12_loops_112 : decode cX12_loops 112 = .ok (.i2l, 1) := dl_o133 kcX12_loops (by decide +kernel)
theorem dX12_loops_113 : decode cX12_loops 113 = .ok (.iload_n 2, 1) := dl_o28 kcX12_loops (by decide +kernel)
theorem dX12_loops_114 : decode cX12_loops 114 = .ok (.i2l, 1) := dl_o133 kcX12_loops (by decide +kernel)
theorem dX12_loops_115 : decode cX12_loops 115 = .ok (.aload_n 0, 1) := dl_o42 kcX12_loops (by decide +kernel)
theorem dX12_loops_116 : decode cX12_loops 116 = .ok (.getfield 433, 3) := dl_o180 kcX12_loops (by decide +kernel)
theorem dX12_loops_119 : decode cX12_loops 119 = .ok (.i2l, 1) := dl_o133 kcX12_loops (by decide +kernel)
theorem dX12_loops_120 : decode cX12_loops 120 = .ok (.lmul, 1) := dl_o105 kcX12_loops (by decide +kernel)
theorem dX12_loops_121 : decode cX12_loops 121 = .ok (.ldc2_w 310, 3) := dl_o20 kcX12_loops (by decide +kernel)
theorem dX12_loops_124 : decode cX12_loops 124 = .ok (.invokestatic 517, 3) := dl_o184 kcX12_loops (by decide +kernel)
theorem dX12_loops_127 : decode cX12_loops 127 = .ok (.ladd, 1) := dl_o97 kcX12_loops (by decide +kernel)
theorem dX12_loops_128 : decode cX12_loops 128 = .ok (.l2i, 1) := dl_o136 kcX12_loops (by decide +kernel)
theorem dX12_loops_129 : decode cX12_loops 129 = .ok (.iastore, 1) := dl_o79 kcX12_loops (by decide +kernel)
theorem dX12_loops_130 : decode cX12_loops 130 = .ok (.aload_n 0, 1) := dl_o42 kcX12_loops (by decide +kernel)
theorem dX12_loops_131 : decode cX12_loops 131 = .ok (.getfield 79, 3) := dl_o180 kcX12_loops (by decide +kernel)
theorem dX12_loops_134 : decode cX12_loops 134 = .ok (.iload 4, 2) := dl_o21 kcX12_loops (by decide +kernel)
theorem dX12_loops_136 : decode cX12_loops 136 = .ok (.aload_n 0, 1) := dl_o42 kcX12_loops (by decide +kernel)
theorem dX12_loops_137 : decode cX12_loops 137 = .ok (.getfield 79, 3) := dl_o180 kcX12_loops (by decide +kernel)
theorem dX12_loops_140 : decode cX12_loops 140 = .ok (.iload 4, 2) := dl_o21 kcX12_loops (by decide +kernel)
theorem dX12_loops_142 : decode cX12_loops 142 = .ok (.iaload, 1) := dl_o46 kcX12_loops (by decide +kernel)
theorem dX12_loops_143 : decode cX12_loops 143 = .ok (.i2l, 1) := dl_o133 kcX12_loops (by decide +kernel)
theorem dX12_loops_144 : decode cX12_loops 144 = .ok (.iload_n 2, 1) := dl_o28 kcX12_loops (by decide +kernel)
theorem dX12_loops_145 : decode cX12_loops 145 = .ok (.i2l, 1) := dl_o133 kcX12_loops (by decide +kernel)
theorem dX12_loops_146 : decode cX12_loops 146 = .ok (.aload_n 0, 1) := dl_o42 kcX12_loops (by decide +kernel)
theorem dX12_loops_147 : decode cX12_loops 147 = .ok (.getfield 436, 3) := dl_o180 kcX12_loops (by decide +kernel)
theorem dX12_loops_150 : decode cX12_loops 150 = .ok (.i2l, 1) := dl_o133 kcX12_loops (by decide +kernel)
theorem dX12_loops_151 : decode cX12_loops 151 = .ok (.lmul, 1) := dl_o105 kcX12_loops (by decide +kernel)
theorem dX12_loops_152 : decode cX12_loops 152 = .ok (.ldc2_w 310, 3) := dl_o20 kcX12_loops (by decide +kernel)
theorem dX12_loops_155 : decode cX12_loops 155 = .ok (.invokestatic 517, 3) := dl_o184 kcX12_loops (by decide +kernel)
theorem dX12_loops_158 : decode cX12_loops 158 = .ok (.ladd, 1) := dl_o97 kcX12_loops (by decide +kernel)
theorem dX12_loops_159 : decode cX12_loops 159 = .ok (.l2i, 1) := dl_o136 kcX12_loops (by decide +kernel)
theorem dX12_loops_160 : decode cX12_loops 160 = .ok (.iastore, 1) := dl_o79 kcX12_loops (by decide +kernel)
theorem dX12_loops_161 : decode cX12_loops 161 = .ok (.aload_n 0, 1) := dl_o42 kcX12_loops (by decide +kernel)
theorem dX12_loops_162 : decode cX12_loops 162 = .ok (.iload 4, 2) := dl_o21 kcX12_loops (by decide +kernel)
theorem dX12_loops_164 : decode cX12_loops 164 = .ok (.invokevirtual 526, 3) := dl_o182 kcX12_loops (by decide +kernel)
theorem dX12_loops_167 : decode cX12_loops 167 = .ok (.goto 55, 3) := dl_o167 kcX12_loops 55 (by decide +kernel) (by decide +kernel)
theorem dX12_loops_170 : decode cX12_loops 170 = .ok (.iload_n 1, 1) := dl_o27 kcX12_loops (by decide +kernel)
theorem dX12_loops_171 : decode cX12_loops 171 = .ok (.bipush 60, 2) := dl_o16 kcX12_loops 60 (by decide +kernel) (by decide +kernel)
theorem dX12_loops_173 : decode cX12_loops 173 = .ok (.if_icmp .ne 43, 3) := dl_o160 kcX12_loops 43 (by decide +kernel) (by decide +kernel)
theorem dX12_loops_176 : decode cX12_loops 176 = .ok (.aload_n 0, 1) := dl_o42 kcX12_loops (by decide +kernel)
theorem dX12_loops_177 : decode cX12_loops 177 = .ok (.aload_n 0, 1) := dl_o42 kcX12_loops (by decide +kernel)
theorem dX12_loops_178 : decode cX12_loops 178 = .ok (.getfield 460, 3) := dl_o180 kcX12_loops (by decide +kernel)
theorem dX12_loops_181 : decode cX12_loops 181 = .ok (.aload_n 0, 1) := dl_o42 kcX12_loops (by decide +kernel)
theorem dX12_loops_182 : decode cX12_loops 182 = .ok (.getfield 451, 3) := dl_o180 kcX12_loops (by decide +kernel)
theorem dX12_loops_185 : decode cX12_loops 185 = .ok (.invokevirtual 582, 3) := dl_o182 kcX12_loops (by decide +kernel)
theorem dX12_loops_188 : decode cX12_loops 188 = .ok (.istore 5, 2) := dl_o54 kcX12_loops (by decide +kernel)
theorem dX12_loops_190 : decode cX12_loops 190 = .ok (.aload_n 0, 1) := dl_o42 kcX12_loops (by decide +kernel)
theorem dX12_loops_191 : decode cX12_loops 191 = .ok (.getfield 409, 3) := dl_o180 kcX12_loops (by decide +kernel)
theorem dX12_loops_194 : decode cX12_loops 194 = .ok (.ifCond .ne 19, 3) := dl_o154 kcX12_loops 19 (by decide +kernel) (by decide +kernel)
theorem dX12_loops_197 : decode cX12_loops 197 = .ok (.aload_n 0, 1) := dl_o42 kcX12_loops (by decide +kernel)
theorem dX12_loops_198 : decode cX12_loops 198 = .ok (.iload 4, 2) := dl_o21 kcX12_loops (by decide +kernel)
theorem dX12_loops_200 : decode cX12_loops 200 = .ok (.aload_n 0, 1) := dl_o42 kcX12_loops (by decide +kernel)
theorem dX12_loops_201 : decode cX12_loops 201 = .ok (.iload 4, 2) := dl_o21 kcX12_loops (by decide +kernel)
theorem dX12_loops_203 : decode cX12_loops 203 = .ok (.iload 5, 2) := dl_o21 kcX12_loops (by decide +kernel)
theorem dX12_loops_205 : decode cX12_loops 205 = .ok (.invokevirtual 627, 3) := dl_o182 kcX12_loops (by decide +kernel)
theorem dX12_loops_208 : decode cX12_loops 208 = .ok (.i2l, 1) := dl_o133 kcX12_loops (by decide +kernel)
theorem dX12_loops_209 : decode cX12_loops 209 = .ok (.lneg, 1) := dl_o117 kcX12_loops (by decide +kernel)
theorem dX12_loops_210 : decode cX12_loops 210 = .ok (.invokevirtual 630, 3) := dl_o182 kcX12_loops (by decide +kernel)
theorem dX12_loops_213 : decode cX12_loops 213 = .ok (.goto 9, 3) := dl_o167 kcX12_loops 9 (by decide +kernel) (by decide +kernel)
theorem dX12_loops_216 : decode cX12_loops 216 = .ok (.aload_n 0, 1) := dl_o42 kcX12_loops (by decide +kernel)
theorem dX12_loops_217 : decode cX12_loops 217 = .ok (.iload 4, 2) := dl_o21 kcX12_loops (by decide +kernel)
theorem dX12_loops_219 : decode cX12_loops 219 = .ok (.invokevirtual 713, 3) := dl_o182 kcX12_loops (by decide +kernel)
theorem dX12_loops_222 : decode cX12_loops 222 = .ok (.iinc 3 1, 3) := by decide +kernel
theorem dX12_loops_225 : decode cX12_loops 225 = .ok (.goto (-181), 3) := dl_o167 kcX12_loops 65355 (by decide +kernel) (by decide +kernel)
theorem dX12_loops_228 : decode cX12_loops 228 = .ok (.aload_n 0, 1) := dl_o42 kcX12_loops (by decide +kernel)
theorem dX12_loops_229 : decode cX12_loops 229 = .ok (.iconst 1, 1) := dl_o4 kcX12_loops (by decide +kernel)
theorem dX12_loops_230 : decode cX12_loops 230 = .ok (.putfield 469, 3) := dl_o181 kcX12_loops (by decide +kernel)
theorem dX12_loops_233 : decode cX12_loops 233 = .ok (.return_, 1) := dl_o177 kcX12_loops (by decide +kernel)
def B_X12_loops_222 (N : Nat) (k44 : Int32 → Int32 → Int32 → sv_V → Option sv_V) (l1 : Int32) (l2 : Int32) (l3 : Int32) (V : sv_V) : Option sv_V := sx_let (l3 + 1) (fun x1 => k44 l1 l2 x1 V)
set_option maxRecDepth 20000 in
theorem tB_X12_loops_222 {g : sx_G} (hG : sx_Go g) {P : Option Value → sv_V → Prop} {Vr : sv_V} (hP : P none Vr) {N : Nat} {k44 : Int32 → Int32 → Int32 → sv_V → Option sv_V} (hk44 : ∀ (l1 : Int32) (l2 : Int32) (l3 : Int32) (V : sv_V), k44 l1 l2 l3 V = some Vr → sv_N g qX12_loops 6 44 [(0, .ref 146), (1, .int l1), (2, .int l2), (3, .int l3)] [] V P) {l1 : Int32} {l2 : Int32} {l3 : Int32} {V : sv_V} (h : B_X12_loops_222 N k44 l1 l2 l3 V = some Vr) : sv_N g qX12_loops 6 222 [(0, .ref 146), (1, .int l1), (2, .int l2), (3, .int l3)] [] V P := by
  unfold B_X12_loops_222 at h
  obtain ⟨x1, hx1⟩ : ∃ z : Int32, z = l3 + 1 := ⟨_, rfl⟩
  have h := sx_letE hx1 h
  refine sx_iinc (pc := 222) (v := x1) (lo' := [(3, .int x1), (0, .ref 146), (1, .int l1), (2, .int l2)]) dX12_loops_222 sx_m3 (by rw [hx1]; rfl) (by decide) rfl ?_
  refine sx_goto (pc := 225) (tgt := 44) dX12_loops_225 (by decide) ?_
  refine sx_wk (sx_s1 sx_m1 (sx_s1 sx_m2 (sx_s1 sx_m3 (sx_s1 sx_m0 sx_s0)))) ?_
  exact hk44 _ _ _ _ h
def B_X12_loops_213 (N : Nat) (k44 : Int32 → Int32 → Int32 → sv_V → Option sv_V) (l1 : Int32) (l2 : Int32) (l3 : Int32) (V : sv_V) : Option sv_V := B_X12_loops_222 N k44 l1 l2 l3 V
set_option maxRecDepth 20000 in
theorem tB_X12_loops_213 {g : sx_G} (hG : sx_Go g) {P : Option Value → sv_V → Prop} {Vr : sv_V} (hP : P none Vr) {N : Nat} {k44 : Int32 → Int32 → Int32 → sv_V → Option sv_V} (hk44 : ∀ (l1 : Int32) (l2 : Int32) (l3 : Int32) (V : sv_V), k44 l1 l2 l3 V = some Vr → sv_N g qX12_loops 6 44 [(0, .ref 146), (1, .int l1), (2, .int l2), (3, .int l3)] [] V P) {l1 : Int32} {l2 : Int32} {l3 : Int32} {V : sv_V} (h : B_X12_loops_213 N k44 l1 l2 l3 V = some Vr) : sv_N g qX12_loops 6 213 [(0, .ref 146), (1, .int l1), (2, .int l2), (3, .int l3)] [] V P := by
  unfold B_X12_loops_213 at h
  refine sx_goto (pc := 213) (tgt := 222) dX12_loops_213 (by decide) ?_
  refine sx_wk (sx_s1 sx_m0 (sx_s1 sx_m1 (sx_s1 sx_m2 (sx_s1 sx_m3 sx_s0)))) ?_
  exact tB_X12_loops_222 hG hP hk44 h
def B_X12_loops_77 (N : Nat) (k44 : Int32 → Int32 → Int32 → sv_V → Option sv_V) (l1 : Int32) (l2 : Int32) (l3 : Int32) (s1 : Int32) (V : sv_V) : Option sv_V := (F_X12_pop  V).bind (fun (x4, V2) => (F_X12_pointOf s1 x4 V2).bind (fun (x7, V5) => if (V5.1 146 59) = 0 then (if l1 = (56 : Int32) then (if sx_in x7 204 = true then (F_X12_over (l2.toInt64 * ((V5.1 146 63).toInt64)) (16384 : Int64) V5).bind (fun (x25, V23) => if sx_in x7 204 = true then sx_let (sv_I V23 168 x7.toNatClampNeg ((((V5.1 168 x7.toNatClampNeg).toInt64) + x25).toInt32)) (fun V27 => if sx_in x7 204 = true then (F_X12_over (l2.toInt64 * ((V27.1 146 64).toInt64)) (16384 : Int64) V27).bind (fun (x31, V29) => if sx_in x7 204 = true then sx_let (sv_I V29 169 x7.toNatClampNeg ((((V27.1 169 x7.toNatClampNeg).toInt64) + x31).toInt32)) (fun V33 => (F_X12_touch x7 V33).bind (fun V34 => B_X12_loops_222 N k44 l1 l2 l3 V34)) else none) else none) else none) else none) else (if l1 = (60 : Int32) then ((F_X12_pointOf (V5.1 146 72) (V5.1 146 69) V5).bind (fun (x15, V13) => if (V13.1 146 59) = 0 then ((F_X12_between x7 x15 V13).bind (fun (x19, V17) => (F_X12_move x7 (-x19.toInt64) V17).bind (fun V20 => B_X12_loops_213 N k44 l1 l2 l3 V20))) else (B_X12_loops_213 N k44 l1 l2 l3 V13))) else ((F_X12_inBetween x7 V5).bind (fun V11 => B_X12_loops_222 N k44 l1 l2 l3 V11)))) else (B_X12_loops_222 N k44 l1 l2 l3 V5)))
set_option maxRecDepth 20000 in
theorem tB_X12_loops_77 {g : sx_G} (hG : sx_Go g) {P : Option Value → sv_V → Prop} {Vr : sv_V} (hP : P none Vr) {N : Nat} {k44 : Int32 → Int32 → Int32 → sv_V → Option sv_V} (hk44 : ∀ (l1 : Int32) (l2 : Int32) (l3 : Int32) (V : sv_V), k44 l1 l2 l3 V = some Vr → sv_N g qX12_loops 6 44 [(0, .ref 146), (1, .int l1), (2, .int l2), (3, .int l3)] [] V P) {l1 : Int32} {l2 : Int32} {l3 : Int32} {s1 : Int32} {V : sv_V} (h : B_X12_loops_77 N k44 l1 l2 l3 s1 V = some Vr) : sv_N g qX12_loops 6 77 [(0, .ref 146), (1, .int l1), (2, .int l2), (3, .int l3)] [.int s1, .ref 146] V P := by
  unfold B_X12_loops_77 at h
  refine sx_aload_n (pc := 77) dX12_loops_77 sx_m0 ?_
  obtain ⟨⟨x4, V2⟩, g3, h⟩ := sx_bnd h
  refine sv_cV (pc := 78) (y := qX12_pop) (o := (some (.int x4))) (as := []) (V1 := V2) hG dX12_loops_78 l_X12_579 y0X12_pop yvX12_pop rfl (Nat.le_of_ble_eq_true rfl) lay_146 kr_12 (by decide) (Nat.le_of_ble_eq_true rfl) rfl rfl rfl (t_X12_pop hG ⟨rfl, rfl⟩ g3) ?_
  obtain ⟨⟨x7, V5⟩, g6, h⟩ := sx_bnd h
  refine sv_cV (pc := 81) (y := qX12_pointOf) (o := (some (.int x7))) (as := [.int s1, .int x4]) (V1 := V5) hG dX12_loops_81 l_X12_582 y0X12_pointOf yvX12_pointOf rfl (Nat.le_of_ble_eq_true rfl) lay_146 kr_12 (by decide) (Nat.le_of_ble_eq_true rfl) rfl rfl rfl (t_X12_pointOf hG ⟨rfl, rfl⟩ g6) ?_
  refine sx_istore (pc := 84) (lo' := [(4, .int x7), (0, .ref 146), (1, .int l1), (2, .int l2), (3, .int l3)]) dX12_loops_84 (by decide) rfl ?_
  refine sx_aload_n (pc := 86) dX12_loops_86 sx_m1 ?_
  refine sv_getI (pc := 87) hG dX12_loops_87 f_12_409 lay_146 rfl ?_
  refine sx_if_ne (pc := 90) (tgt := 222) dX12_loops_90 (by decide) (fun c8 => ?_) (fun c8 => ?_)
  · have h := sx_neg c8 h
    refine sx_wk (sx_s1 sx_m1 (sx_s1 sx_m2 (sx_s1 sx_m3 (sx_s1 sx_m4 sx_s0)))) ?_
    exact tB_X12_loops_222 hG hP hk44 h
  · have h := sx_pos c8 h
    refine sx_iload_n (pc := 93) dX12_loops_93 sx_m2 ?_
    refine sx_bipush (pc := 94) (v := 56) dX12_loops_94 (by decide) ?_
    refine sx_icmp_ne (pc := 96) (tgt := 170) dX12_loops_96 (by decide) (fun c9 => ?_) (fun c9 => ?_)
    · have h := sx_neg c9 h
      refine sx_iload_n (pc := 170) dX12_loops_170 sx_m2 ?_
      refine sx_bipush (pc := 171) (v := 60) dX12_loops_171 (by decide) ?_
      refine sx_icmp_ne (pc := 173) (tgt := 216) dX12_loops_173 (by decide) (fun c10 => ?_) (fun c10 => ?_)
      · have h := sx_neg c10 h
        refine sx_aload_n (pc := 216) dX12_loops_216 sx_m1 ?_
        refine sx_iload (pc := 217) dX12_loops_217 sx_m0 ?_
        obtain ⟨V11, g12, h⟩ := sx_bnd h
        refine sv_cV (pc := 219) (y := qX12_inBetween) (o := none) (as := [.int x7]) (V1 := V11) hG dX12_loops_219 l_X12_713 y0X12_inBetween yvX12_inBetween rfl (Nat.le_of_ble_eq_true rfl) lay_146 kr_12 (by decide) (Nat.le_of_ble_eq_true rfl) rfl rfl rfl (t_X12_inBetween hG ⟨rfl, rfl⟩ g12) ?_
        refine sx_wk (sx_s1 sx_m1 (sx_s1 sx_m2 (sx_s1 sx_m3 (sx_s1 sx_m4 sx_s0)))) ?_
        exact tB_X12_loops_222 hG hP hk44 h
      · have h := sx_pos c10 h
        refine sx_aload_n (pc := 176) dX12_loops_176 sx_m1 ?_
        refine sx_aload_n (pc := 177) dX12_loops_177 sx_m1 ?_
        refine sv_getI (pc := 178) hG dX12_loops_178 f_12_460 lay_146 rfl ?_
        refine sx_aload_n (pc := 181) dX12_loops_181 sx_m1 ?_
        refine sv_getI (pc := 182) hG dX12_loops_182 f_12_451 lay_146 rfl ?_
        obtain ⟨⟨x15, V13⟩, g14, h⟩ := sx_bnd h
        refine sv_cV (pc := 185) (y := qX12_pointOf) (o := (some (.int x15))) (as := [.int (V5.1 146 72), .int (V5.1 146 69)]) (V1 := V13) hG dX12_loops_185 l_X12_582 y0X12_pointOf yvX12_pointOf rfl (Nat.le_of_ble_eq_true rfl) lay_146 kr_12 (by decide) (Nat.le_of_ble_eq_true rfl) rfl rfl rfl (t_X12_pointOf hG ⟨rfl, rfl⟩ g14) ?_
        refine sx_istore (pc := 188) (lo' := [(5, .int x15), (4, .int x7), (0, .ref 146), (1, .int l1), (2, .int l2), (3, .int l3)]) dX12_loops_188 (by decide) rfl ?_
        refine sx_aload_n (pc := 190) dX12_loops_190 sx_m2 ?_
        refine sv_getI (pc := 191) hG dX12_loops_191 f_12_409 lay_146 rfl ?_
        refine sx_if_ne (pc := 194) (tgt := 213) dX12_loops_194 (by decide) (fun c16 => ?_) (fun c16 => ?_)
        · have h := sx_neg c16 h
          refine sx_wk (sx_s1 sx_m2 (sx_s1 sx_m3 (sx_s1 sx_m4 (sx_s1 sx_m5 sx_s0)))) ?_
          exact tB_X12_loops_213 hG hP hk44 h
        · have h := sx_pos c16 h
          refine sx_aload_n (pc := 197) dX12_loops_197 sx_m2 ?_
          refine sx_iload (pc := 198) dX12_loops_198 sx_m1 ?_
          refine sx_aload_n (pc := 200) dX12_loops_200 sx_m2 ?_
          refine sx_iload (pc := 201) dX12_loops_201 sx_m1 ?_
          refine sx_iload (pc := 203) dX12_loops_203 sx_m0 ?_
          obtain ⟨⟨x19, V17⟩, g18, h⟩ := sx_bnd h
          refine sv_cV (pc := 205) (y := qX12_between) (o := (some (.int x19))) (as := [.int x7, .int x15]) (V1 := V17) hG dX12_loops_205 l_X12_627 y0X12_between yvX12_between rfl (Nat.le_of_ble_eq_true rfl) lay_146 kr_12 (by decide) (Nat.le_of_ble_eq_true rfl) rfl rfl rfl (t_X12_between hG ⟨rfl, rfl⟩ g18) ?_
          refine sx_i2l (pc := 208) dX12_loops_208 ?_
          refine sx_lneg (pc := 209) dX12_loops_209 ?_
          obtain ⟨V20, g21, h⟩ := sx_bnd h
          refine sv_cV (pc := 210) (y := qX12_move) (o := none) (as := [.int x7, .long (-x19.toInt64)]) (V1 := V20) hG dX12_loops_210 l_X12_630 y0X12_move yvX12_move rfl (Nat.le_of_ble_eq_true rfl) lay_146 kr_12 (by decide) (Nat.le_of_ble_eq_true rfl) rfl rfl rfl (t_X12_move hG ⟨rfl, rfl⟩ g21) ?_
          refine sx_wk (sx_s1 sx_m2 (sx_s1 sx_m3 (sx_s1 sx_m4 (sx_s1 sx_m5 sx_s0)))) ?_
          exact tB_X12_loops_213 hG hP hk44 h
    · have h := sx_pos c9 h
      refine sx_aload_n (pc := 99) dX12_loops_99 sx_m1 ?_
      refine sv_getA (pc := 100) hG dX12_loops_100 f_12_76 lay_146 rfl cr_146_48 ?_
      refine sx_iload (pc := 103) dX12_loops_103 sx_m0 ?_
      refine sx_aload_n (pc := 105) dX12_loops_105 sx_m1 ?_
      refine sv_getA (pc := 106) hG dX12_loops_106 f_12_76 lay_146 rfl cr_146_48 ?_
      refine sx_iload (pc := 109) dX12_loops_109 sx_m0 ?_
      obtain ⟨g22, h⟩ := sx_grd h
      refine sv_iald (pc := 111) hG dX12_loops_111 lay_168 g22 ?_
      refine sx_i2l (pc := 112) dX12_loops_112 ?_
      refine sx_iload_n (pc := 113) dX12_loops_113 sx_m3 ?_
      refine sx_i2l (pc := 114) dX12_loops_114 ?_
      refine sx_aload_n (pc := 115) dX12_loops_115 sx_m1 ?_
      refine sv_getI (pc := 116) hG dX12_loops_116 f_12_433 lay_146 rfl ?_
      refine sx_i2l (pc := 119) dX12_loops_119 ?_
      refine sx_lmul (pc := 120) dX12_loops_120 ?_
      refine sx_ldc2 (pc := 121) dX12_loops_121 k_X12_310 ?_
      obtain ⟨⟨x25, V23⟩, g24, h⟩ := sx_bnd h
      refine sv_cS (pc := 124) (y := qX12_over) (o := (some (.long x25))) (as := [.long (l2.toInt64 * ((V5.1 146 63).toInt64)), .long (16384 : Int64)]) (V1 := V23) dX12_loops_124 l_X12_517 y0X12_over ysX12_over rfl (Nat.le_of_ble_eq_true rfl) (by decide) (Nat.le_of_ble_eq_true rfl) rfl rfl rfl (t_X12_over hG ⟨rfl, rfl⟩ g24) ?_
      refine sx_ladd (pc := 127) dX12_loops_127 ?_
      refine sx_l2i (pc := 128) dX12_loops_128 ?_
      obtain ⟨g26, h⟩ := sx_grd h
      obtain ⟨V27, hV27⟩ : ∃ z : sv_V, z = sv_I V23 168 x7.toNatClampNeg ((((V5.1 168 x7.toNatClampNeg).toInt64) + x25).toInt32) := ⟨_, rfl⟩
      have h := sx_letE hV27 h
      refine sv_iast (pc := 129) hG dX12_loops_129 lay_168 g26 hV27 ?_
      refine sx_aload_n (pc := 130) dX12_loops_130 sx_m1 ?_
      refine sv_getA (pc := 131) hG dX12_loops_131 f_12_79 lay_146 rfl cr_146_49 ?_
      refine sx_iload (pc := 134) dX12_loops_134 sx_m0 ?_
      refine sx_aload_n (pc := 136) dX12_loops_136 sx_m1 ?_
      refine sv_getA (pc := 137) hG dX12_loops_137 f_12_79 lay_146 rfl cr_146_49 ?_
      refine sx_iload (pc := 140) dX12_loops_140 sx_m0 ?_
      obtain ⟨g28, h⟩ := sx_grd h
      refine sv_iald (pc := 142) hG dX12_loops_142 lay_169 g28 ?_
      refine sx_i2l (pc := 143) dX12_loops_143 ?_
      refine sx_iload_n (pc := 144) dX12_loops_144 sx_m3 ?_
      refine sx_i2l (pc := 145) dX12_loops_145 ?_
      refine sx_aload_n (pc := 146) dX12_loops_146 sx_m1 ?_
      refine sv_getI (pc := 147) hG dX12_loops_147 f_12_436 lay_146 rfl ?_
      refine sx_i2l (pc := 150) dX12_loops_150 ?_
      refine sx_lmul (pc := 151) dX12_loops_151 ?_
      refine sx_ldc2 (pc := 152) dX12_loops_152 k_X12_310 ?_
      obtain ⟨⟨x31, V29⟩, g30, h⟩ := sx_bnd h
      refine sv_cS (pc := 155) (y := qX12_over) (o := (some (.long x31))) (as := [.long (l2.toInt64 * ((V27.1 146 64).toInt64)), .long (16384 : Int64)]) (V1 := V29) dX12_loops_155 l_X12_517 y0X12_over ysX12_over rfl (Nat.le_of_ble_eq_true rfl) (by decide) (Nat.le_of_ble_eq_true rfl) rfl rfl rfl (t_X12_over hG ⟨rfl, rfl⟩ g30) ?_
      refine sx_ladd (pc := 158) dX12_loops_158 ?_
      refine sx_l2i (pc := 159) dX12_loops_159 ?_
      obtain ⟨g32, h⟩ := sx_grd h
      obtain ⟨V33, hV33⟩ : ∃ z : sv_V, z = sv_I V29 169 x7.toNatClampNeg ((((V27.1 169 x7.toNatClampNeg).toInt64) + x31).toInt32) := ⟨_, rfl⟩
      have h := sx_letE hV33 h
      refine sv_iast (pc := 160) hG dX12_loops_160 lay_169 g32 hV33 ?_
      refine sx_aload_n (pc := 161) dX12_loops_161 sx_m1 ?_
      refine sx_iload (pc := 162) dX12_loops_162 sx_m0 ?_
      obtain ⟨V34, g35, h⟩ := sx_bnd h
      refine sv_cV (pc := 164) (y := qX12_touch) (o := none) (as := [.int x7]) (V1 := V34) hG dX12_loops_164 l_X12_526 y0X12_touch yvX12_touch rfl (Nat.le_of_ble_eq_true rfl) lay_146 kr_12 (by decide) (Nat.le_of_ble_eq_true rfl) rfl rfl rfl (t_X12_touch hG ⟨rfl, rfl⟩ g35) ?_
      refine sx_goto (pc := 167) (tgt := 222) dX12_loops_167 (by decide) ?_
      refine sx_wk (sx_s1 sx_m1 (sx_s1 sx_m2 (sx_s1 sx_m3 (sx_s1 sx_m4 sx_s0)))) ?_
      exact tB_X12_loops_222 hG hP hk44 h
def B_X12_loops_44 (N : Nat) (k44 : Int32 → Int32 → Int32 → sv_V → Option sv_V) (l1 : Int32) (l2 : Int32) (l3 : Int32) (V : sv_V) : Option sv_V := if (V.1 146 75) ≤ l3 then (sx_let (sv_I V 146 75 (1 : Int32)) (fun V37 => some V37)) else (if (V.1 146 59) = 0 then (if l1 = (60 : Int32) then (B_X12_loops_77 N k44 l1 l2 l3 (V.1 146 73) V) else (B_X12_loops_77 N k44 l1 l2 l3 (V.1 146 74) V)) else (sx_let (sv_I V 146 75 (1 : Int32)) (fun V39 => some V39)))
set_option maxRecDepth 20000 in
theorem tB_X12_loops_44 {g : sx_G} (hG : sx_Go g) {P : Option Value → sv_V → Prop} {Vr : sv_V} (hP : P none Vr) {N : Nat} {k44 : Int32 → Int32 → Int32 → sv_V → Option sv_V} (hk44 : ∀ (l1 : Int32) (l2 : Int32) (l3 : Int32) (V : sv_V), k44 l1 l2 l3 V = some Vr → sv_N g qX12_loops 6 44 [(0, .ref 146), (1, .int l1), (2, .int l2), (3, .int l3)] [] V P) {l1 : Int32} {l2 : Int32} {l3 : Int32} {V : sv_V} (h : B_X12_loops_44 N k44 l1 l2 l3 V = some Vr) : sv_N g qX12_loops 6 44 [(0, .ref 146), (1, .int l1), (2, .int l2), (3, .int l3)] [] V P := by
  unfold B_X12_loops_44 at h
  refine sx_iload_n (pc := 44) dX12_loops_44 sx_m3 ?_
  refine sx_aload_n (pc := 45) dX12_loops_45 sx_m0 ?_
  refine sv_getI (pc := 46) hG dX12_loops_46 f_12_469 lay_146 rfl ?_
  refine sx_icmp_ge (pc := 49) (tgt := 228) dX12_loops_49 (by decide) (fun c36 => ?_) (fun c36 => ?_)
  · have h := sx_pos c36 h
    refine sx_aload_n (pc := 228) dX12_loops_228 sx_m0 ?_
    refine sx_iconst (pc := 229) (v := 1) dX12_loops_229 (by decide) ?_
    obtain ⟨V37, hV37⟩ : ∃ z : sv_V, z = sv_I V 146 75 (1 : Int32) := ⟨_, rfl⟩
    have h := sx_letE hV37 h
    refine sv_putI (pc := 230) hG dX12_loops_230 f_12_469 lay_146 rfl hV37 ?_
    exact sv_vret (pc := 233) dX12_loops_233 rfl h hP
  · have h := sx_neg c36 h
    refine sx_aload_n (pc := 52) dX12_loops_52 sx_m0 ?_
    refine sv_getI (pc := 53) hG dX12_loops_53 f_12_409 lay_146 rfl ?_
    refine sx_if_ne (pc := 56) (tgt := 228) dX12_loops_56 (by decide) (fun c38 => ?_) (fun c38 => ?_)
    · have h := sx_neg c38 h
      refine sx_aload_n (pc := 228) dX12_loops_228 sx_m0 ?_
      refine sx_iconst (pc := 229) (v := 1) dX12_loops_229 (by decide) ?_
      obtain ⟨V39, hV39⟩ : ∃ z : sv_V, z = sv_I V 146 75 (1 : Int32) := ⟨_, rfl⟩
      have h := sx_letE hV39 h
      refine sv_putI (pc := 230) hG dX12_loops_230 f_12_469 lay_146 rfl hV39 ?_
      exact sv_vret (pc := 233) dX12_loops_233 rfl h hP
    · have h := sx_pos c38 h
      refine sx_aload_n (pc := 59) dX12_loops_59 sx_m0 ?_
      refine sx_iload_n (pc := 60) dX12_loops_60 sx_m1 ?_
      refine sx_bipush (pc := 61) (v := 60) dX12_loops_61 (by decide) ?_
      refine sx_icmp_ne (pc := 63) (tgt := 73) dX12_loops_63 (by decide) (fun c40 => ?_) (fun c40 => ?_)
      · have h := sx_neg c40 h
        refine sx_aload_n (pc := 73) dX12_loops_73 sx_m0 ?_
        refine sv_getI (pc := 74) hG dX12_loops_74 f_12_466 lay_146 rfl ?_
        refine sx_wk (sx_s1 sx_m0 (sx_s1 sx_m1 (sx_s1 sx_m2 (sx_s1 sx_m3 sx_s0)))) ?_
        exact tB_X12_loops_77 hG hP hk44 h
      · have h := sx_pos c40 h
        refine sx_aload_n (pc := 66) dX12_loops_66 sx_m0 ?_
        refine sv_getI (pc := 67) hG dX12_loops_67 f_12_463 lay_146 rfl ?_
        refine sx_goto (pc := 70) (tgt := 77) dX12_loops_70 (by decide) ?_
        refine sx_wk (sx_s1 sx_m0 (sx_s1 sx_m1 (sx_s1 sx_m2 (sx_s1 sx_m3 sx_s0)))) ?_
        exact tB_X12_loops_77 hG hP hk44 h
theorem tL_X12_loops_44 {g : sx_G} (hG : sx_Go g) {P : Option Value → sv_V → Prop} {Vr : sv_V} (hP : P none Vr) {N : Nat}   : ∀ (n : Nat) (l1 : Int32) (l2 : Int32) (l3 : Int32) (V : sv_V), sx_lp4 (B_X12_loops_44 N ) n l1 l2 l3 V = some Vr → sv_N g qX12_loops 6 44 [(0, .ref 146), (1, .int l1), (2, .int l2), (3, .int l3)] [] V P :=
  sx_lp4_ind (fun k0 ih _ _ _ V h => tB_X12_loops_44 hG hP ih h)
def B_X12_loops_41 (N : Nat)  (l1 : Int32) (s0 : Int32) (V : sv_V) : Option sv_V := sx_lp4 (B_X12_loops_44 N ) N l1 s0 (0 : Int32) V
set_option maxRecDepth 20000 in
theorem tB_X12_loops_41 {g : sx_G} (hG : sx_Go g) {P : Option Value → sv_V → Prop} {Vr : sv_V} (hP : P none Vr) {N : Nat}   {l1 : Int32} {s0 : Int32} {V : sv_V} (h : B_X12_loops_41 N  l1 s0 V = some Vr) : sv_N g qX12_loops 6 41 [(0, .ref 146), (1, .int l1)] [.int s0] V P := by
  unfold B_X12_loops_41 at h
  refine sx_istore_n (pc := 41) (lo' := [(2, .int s0), (0, .ref 146), (1, .int l1)]) dX12_loops_41 (by decide) rfl ?_
  refine sx_iconst (pc := 42) (v := 0) dX12_loops_42 (by decide) ?_
  refine sx_istore_n (pc := 43) (lo' := [(3, .int (0 : Int32)), (2, .int s0), (0, .ref 146), (1, .int l1)]) dX12_loops_43 (by decide) rfl ?_
  refine sx_wk (sx_s1 sx_m2 (sx_s1 sx_m3 (sx_s1 sx_m1 (sx_s1 sx_m0 sx_s0)))) ?_
  exact tL_X12_loops_44 hG hP  N _ _ _ _ h
def B_X12_loops_20 (N : Nat)  (l1 : Int32) (s1 : Int32) (V : sv_V) : Option sv_V := (F_X12_has s1 V).bind (fun (x43, V41) => if x43 = 0 then (some V41) else (if l1 = (56 : Int32) then ((F_X12_pop  V41).bind (fun (x48, V46) => B_X12_loops_41 N  l1 x48 V46)) else (B_X12_loops_41 N  l1 (0 : Int32) V41)))
set_option maxRecDepth 20000 in
theorem tB_X12_loops_20 {g : sx_G} (hG : sx_Go g) {P : Option Value → sv_V → Prop} {Vr : sv_V} (hP : P none Vr) {N : Nat}   {l1 : Int32} {s1 : Int32} {V : sv_V} (h : B_X12_loops_20 N  l1 s1 V = some Vr) : sv_N g qX12_loops 6 20 [(0, .ref 146), (1, .int l1)] [.int s1, .ref 146] V P := by
  unfold B_X12_loops_20 at h
  obtain ⟨⟨x43, V41⟩, g42, h⟩ := sx_bnd h
  refine sv_cV (pc := 20) (y := qX12_has) (o := (some (.int x43))) (as := [.int s1]) (V1 := V41) hG dX12_loops_20 l_X12_576 y0X12_has yvX12_has rfl (Nat.le_of_ble_eq_true rfl) lay_146 kr_12 (by decide) (Nat.le_of_ble_eq_true rfl) rfl rfl rfl (t_X12_has hG ⟨rfl, rfl⟩ g42) ?_
  refine sx_if_ne (pc := 23) (tgt := 27) dX12_loops_23 (by decide) (fun c44 => ?_) (fun c44 => ?_)
  · have h := sx_neg c44 h
    refine sx_iload_n (pc := 27) dX12_loops_27 sx_m1 ?_
    refine sx_bipush (pc := 28) (v := 56) dX12_loops_28 (by decide) ?_
    refine sx_icmp_ne (pc := 30) (tgt := 40) dX12_loops_30 (by decide) (fun c45 => ?_) (fun c45 => ?_)
    · have h := sx_neg c45 h
      refine sx_iconst (pc := 40) (v := 0) dX12_loops_40 (by decide) ?_
      refine sx_wk (sx_s1 sx_m0 (sx_s1 sx_m1 sx_s0)) ?_
      exact tB_X12_loops_41 hG hP  h
    · have h := sx_pos c45 h
      refine sx_aload_n (pc := 33) dX12_loops_33 sx_m0 ?_
      obtain ⟨⟨x48, V46⟩, g47, h⟩ := sx_bnd h
      refine sv_cV (pc := 34) (y := qX12_pop) (o := (some (.int x48))) (as := []) (V1 := V46) hG dX12_loops_34 l_X12_579 y0X12_pop yvX12_pop rfl (Nat.le_of_ble_eq_true rfl) lay_146 kr_12 (by decide) (Nat.le_of_ble_eq_true rfl) rfl rfl rfl (t_X12_pop hG ⟨rfl, rfl⟩ g47) ?_
      refine sx_goto (pc := 37) (tgt := 41) dX12_loops_37 (by decide) ?_
      refine sx_wk (sx_s1 sx_m0 (sx_s1 sx_m1 sx_s0)) ?_
      exact tB_X12_loops_41 hG hP  h
  · have h := sx_pos c44 h
    exact sv_vret (pc := 26) dX12_loops_26 rfl h hP
def F_X12_loops (N : Nat) (l1 : Int32) (V : sv_V) : Option sv_V := if l1 = (56 : Int32) then (B_X12_loops_20 N  l1 ((V.1 146 75) + (1 : Int32)) V) else (B_X12_loops_20 N  l1 (V.1 146 75) V)
set_option maxRecDepth 20000 in
theorem t_X12_loops {g : sx_G} (hG : sx_Go g) {P : Option Value → sv_V → Prop} {Vr : sv_V} (hP : P none Vr) {N : Nat} {l1 : Int32} {V : sv_V} (h : F_X12_loops N l1 V = some Vr) : sv_N g qX12_loops 6 0 [(0, .ref 146), (1, .int l1)] [] V P := by
  unfold F_X12_loops at h
  refine sx_aload_n (pc := 0) dX12_loops_0 sx_m0 ?_
  refine sx_iload_n (pc := 1) dX12_loops_1 sx_m1 ?_
  refine sx_bipush (pc := 2) (v := 56) dX12_loops_2 (by decide) ?_
  refine sx_icmp_ne (pc := 4) (tgt := 16) dX12_loops_4 (by decide) (fun c49 => ?_) (fun c49 => ?_)
  · have h := sx_neg c49 h
    refine sx_aload_n (pc := 16) dX12_loops_16 sx_m0 ?_
    refine sv_getI (pc := 17) hG dX12_loops_17 f_12_469 lay_146 rfl ?_
    refine sx_wk (sx_s1 sx_m0 (sx_s1 sx_m1 sx_s0)) ?_
    exact tB_X12_loops_20 hG hP  h
  · have h := sx_pos c49 h
    refine sx_aload_n (pc := 7) dX12_loops_7 sx_m0 ?_
    refine sv_getI (pc := 8) hG dX12_loops_8 f_12_469 lay_146 rfl ?_
    refine sx_iconst (pc := 11) (v := 1) dX12_loops_11 (by decide) ?_
    refine sx_iadd (pc := 12) dX12_loops_12 ?_
    refine sx_goto (pc := 13) (tgt := 20) dX12_loops_13 (by decide) ?_
    refine sx_wk (sx_s1 sx_m0 (sx_s1 sx_m1 sx_s0)) ?_
    exact tB_X12_loops_20 hG hP  h
def ncX5_run : Nat := 968464705517409323112691748283794376685998734247500081230559183738210467241402317778881373757329369097666864379424546211869718288322588143553738630238794813682344626666096519958483921378083139406501728619883232837796071993561395162775314540778906976938319223994138304315398376828722066913084358785874729718688517817562274550630192420197923950483861944810511268091028493719897874833163862911931735213799431957970949984597237751357303027470567011358701033494038541406228329671543380317694959325560576643662096693699140934958582440587250329971897787739229072739287342202393669376701043972575343837118753158207293274901195086554814729702810271153273414577809083101422418758963868070525900952034716020670996243175266194010786153833799080574768650538
theorem kcX5_run : CK cX5_run ncX5_run 309 := ⟨by decide +kernel, by decide +kernel⟩
theorem dX5_run_0 : decode cX5_run 0 = .ok (.aload_n 0, 1) := dl_o42 kcX5_run (by decide +kernel)
theorem dX5_run_1 : decode cX5_run 1 = .ok (.aload 4, 2) := dl_o25 kcX5_run (by decide +kernel)
theorem dX5_run_3 : decode cX5_run 3 = .ok (.aload_n 0, 1) := dl_o42 kcX5_run (by decide +kernel)
theorem dX5_run_4 : decode cX5_run 4 = .ok (.getfield 30, 3) := dl_o180 kcX5_run (by decide +kernel)
theorem dX5_run_7 : decode cX5_run 7 = .ok (.if_acmp .ne 7, 3) := by decide +kernel
theorem dX5_run_10 : decode cX5_run 10 = .ok (.iconst 1, 1) := dl_o4 kcX5_run (by decide +kernel)
theorem dX5_run_11 : decode cX5_run 11 = .ok (.goto 4, 3) := dl_o167 kcX5_run 4 (by decide +kernel) (by decide +kernel)
theorem dX5_run_14 : decode cX5_run 14 = .ok (.iconst 0, 1) := dl_o3 kcX5_run (by decide +kernel)
theorem dX5_run_15 : decode cX5_run 15 = .ok (.putfield 83, 3) := dl_o181 kcX5_run (by decide +kernel)
theorem dX5_run_18 : decode cX5_run 18 = .ok (.aload_n 0, 1) := dl_o42 kcX5_run (by decide +kernel)
theorem dX5_run_19 : decode cX5_run 19 = .ok (.aload_n 3, 1) := dl_o45 kcX5_run (by decide +kernel)
theorem dX5_run_20 : decode cX5_run 20 = .ok (.putfield 49, 3) := dl_o181 kcX5_run (by decide +kernel)
theorem dX5_run_23 : decode cX5_run 23 = .ok (.aload_n 0, 1) := dl_o42 kcX5_run (by decide +kernel)
theorem dX5_run_24 : decode cX5_run 24 = .ok (.aload 4, 2) := dl_o25 kcX5_run (by decide +kernel)
theorem dX5_run_26 : decode cX5_run 26 = .ok (.putfield 38, 3) := dl_o181 kcX5_run (by decide +kernel)
theorem dX5_run_29 : decode cX5_run 29 = .ok (.aload_n 0, 1) := dl_o42 kcX5_run (by decide +kernel)
theorem dX5_run_30 : decode cX5_run 30 = .ok (.iload_n 1, 1) := dl_o27 kcX5_run (by decide +kernel)
theorem dX5_run_31 : decode cX5_run 31 = .ok (.putfield 87, 3) := dl_o181 kcX5_run (by decide +kernel)
theorem dX5_run_34 : decode cX5_run 34 = .ok (.aload_n 0, 1) := dl_o42 kcX5_run (by decide +kernel)
theorem dX5_run_35 : decode cX5_run 35 = .ok (.iload_n 1, 1) := dl_o27 kcX5_run (by decide +kernel)
theorem dX5_run_36 : decode cX5_run 36 = .ok (.iload_n 2, 1) := dl_o28 kcX5_run (by decide +kernel)
theorem dX5_run_37 : decode cX5_run 37 = .ok (.iadd, 1) := dl_o96 kcX5_run (by decide +kernel)
theorem dX5_run_38 : decode cX5_run 38 = .ok (.putfield 90, 3) := dl_o181 kcX5_run (by decide +kernel)
theorem dX5_run_41 : decode cX5_run 41 = .ok (.aload_n 0, 1) := dl_o42 kcX5_run (by decide +kernel)
theorem dX5_run_42 : decode cX5_run 42 = .ok (.iload_n 1, 1) := dl_o27 kcX5_run (by decide +kernel)
theorem dX5_run_43 : decode cX5_run 43 = .ok (.putfield 93, 3) := dl_o181 kcX5_run (by decide +kernel)
theorem dX5_run_46 : decode cX5_run 46 = .ok (.aload_n 0, 1) := dl_o42 kcX5_run (by decide +kernel)
theorem dX5_run_47 : decode cX5_run 47 = .ok (.iconst 0, 1) := dl_o3 kcX5_run (by decide +kernel)
theorem dX5_run_48 : decode cX5_run 48 = .ok (.putfield 96, 3) := dl_o181 kcX5_run (by decide +kernel)
theorem dX5_run_51 : decode cX5_run 51 = .ok (.aload_n 0, 1) := dl_o42 kcX5_run (by decide +kernel)
theorem dX5_run_52 : decode cX5_run 52 = .ok (.getfield 21, 3) := dl_o180 kcX5_run (by decide +kernel)
theorem dX5_run_55 : decode cX5_run 55 = .ok (.iconst 0, 1) := dl_o3 kcX5_run (by decide +kernel)
theorem dX5_run_56 : decode cX5_run 56 = .ok (.putfield 99, 3) := dl_o181 kcX5_run (by decide +kernel)
theorem dX5_run_59 : decode cX5_run 59 = .ok (.aload_n 0, 1) := dl_o42 kcX5_run (by decide +kernel)
theorem dX5_run_60 : decode cX5_run 60 = .ok (.getfield 12, 3) := dl_o180 kcX5_run (by decide +kernel)
theorem dX5_run_63 : decode cX5_run 63 = .ok (.invokevirtual 102, 3) := dl_o182 kcX5_run (by decide +kernel)
theorem dX5_run_66 : decode cX5_run 66 = .ok (.iconst 0, 1) := dl_o3 kcX5_run (by decide +kernel)
theorem dX5_run_67 : decode cX5_run 67 = .ok (.istore 5, 2) := dl_o54 kcX5_run (by decide +kernel)
theorem dX5_run_69 : decode cX5_run 69 = .ok (.iload 5, 2) := dl_o21 kcX5_run (by decide +kernel)
theorem dX5_run_71 : decode cX5_run 71 = .ok (.sipush 20000, 3) := dl_o17 kcX5_run 20000 (by decide +kernel) (by decide +kernel)
theorem dX5_run_74 : decode cX5_run 74 = .ok (.if_icmp .gt 234, 3) := dl_o163 kcX5_run 234 (by decide +kernel) (by decide +kernel)
theorem dX5_run_77 : decode cX5_run 77 = .ok (.aload_n 0, 1) := dl_o42 kcX5_run (by decide +kernel)
theorem dX5_run_78 : decode cX5_run 78 = .ok (.getfield 56, 3) := dl_o180 kcX5_run (by decide +kernel)
theorem dX5_run_81 : decode cX5_run 81 = .ok (.ifCond .ne 227, 3) := dl_o154 kcX5_run 227 (by decide +kernel) (by decide +kernel)
theorem dX5_run_84 : decode cX5_run 84 = .ok (.aload_n 0, 1) := dl_o42 kcX5_run (by decide +kernel)
theorem dX5_run_85 : decode cX5_run 85 = .ok (.invokevirtual 105, 3) := dl_o182 kcX5_run (by decide +kernel)
theorem dX5_run_88 : decode cX5_run 88 = .ok (.ifCond .ne 220, 3) := dl_o154 kcX5_run 220 (by decide +kernel) (by decide +kernel)
theorem dX5_run_91 : decode cX5_run 91 = .ok (.aload_n 0, 1) := dl_o42 kcX5_run (by decide +kernel)
theorem dX5_run_92 : decode cX5_run 92 = .ok (.aload_n 0, 1) := dl_o42 kcX5_run (by decide +kernel)
theorem dX5_run_93 : decode cX5_run 93 = .ok (.getfield 93, 3) := dl_o180 kcX5_run (by decide +kernel)
theorem dX5_run_96 : decode cX5_run 96 = .ok (.aload_n 0, 1) := dl_o42 kcX5_run (by decide +kernel)
theorem dX5_run_97 : decode cX5_run 97 = .ok (.getfield 87, 3) := dl_o180 kcX5_run (by decide +kernel)
theorem dX5_run_100 : decode cX5_run 100 = .ok (.isub, 1) := dl_o100 kcX5_run (by decide +kernel)
theorem dX5_run_101 : decode cX5_run 101 = .ok (.putfield 41, 3) := dl_o181 kcX5_run (by decide +kernel)
theorem dX5_run_104 : decode cX5_run 104 = .ok (.aload_n 0, 1) := dl_o42 kcX5_run (by decide +kernel)
theorem dX5_run_105 : decode cX5_run 105 = .ok (.invokevirtual 109, 3) := dl_o182 kcX5_run (by decide +kernel)
theorem dX5_run_108 : decode cX5_run 108 = .ok (.istore 6, 2) := dl_o54 kcX5_run (by decide +kernel)
theorem dX5_run_110 : decode cX5_run 110 = .ok (.aload_n 0, 1) := dl_o42 kcX5_run (by decide +kernel)
theorem dX5_run_111 : decode cX5_run 111 = .ok (.getfield 56, 3) := dl_o180 kcX5_run (by decide +kernel)
theorem dX5_run_114 : decode cX5_run 114 = .ok (.ifCond .eq 4, 3) := dl_o153 kcX5_run 4 (by decide +kernel) (by decide +kernel)
theorem dX5_run_117 : decode cX5_run 117 = .ok (.return_, 1) := dl_o177 kcX5_run (by decide +kernel)
theorem dX5_run_118 : decode cX5_run 118 = .ok (.getstatic 113, 3) := dl_o178 kcX5_run (by decide +kernel)
theorem dX5_run_121 : decode cX5_run 121 = .ok (.iload 6, 2) := dl_o21 kcX5_run (by decide +kernel)
theorem dX5_run_123 : decode cX5_run 123 = .ok (.iaload, 1) := dl_o46 kcX5_run (by decide +kernel)
theorem dX5_run_124 : decode cX5_run 124 = .ok (.tableswitch 172 1 12 #[64, 73, 82, 91, 100, 109, 118, 127, 136, 145, 154, 163], 64) := by decide +kernel
theorem dX5_run_188 : decode cX5_run 188 = .ok (.aload_n 0, 1) := dl_o42 kcX5_run (by decide +kernel)
theorem dX5_run_189 : decode cX5_run 189 = .ok (.iload 6, 2) := dl_o21 kcX5_run (by decide +kernel)
theorem dX5_run_191 : decode cX5_run 191 = .ok (.invokevirtual 116, 3) := dl_o182 kcX5_run (by decide +kernel)
theorem dX5_run_194 : decode cX5_run 194 = .ok (.goto 108, 3) := dl_o167 kcX5_run 108 (by decide +kernel) (by decide +kernel)
theorem dX5_run_197 : decode cX5_run 197 = .ok (.aload_n 0, 1) := dl_o42 kcX5_run (by decide +kernel)
theorem dX5_run_198 : decode cX5_run 198 = .ok (.iload 6, 2) := dl_o21 kcX5_run (by decide +kernel)
theorem dX5_run_200 : decode cX5_run 200 = .ok (.invokevirtual 120, 3) := dl_o182 kcX5_run (by decide +kernel)
theorem dX5_run_203 : decode cX5_run 203 = .ok (.goto 99, 3) := dl_o167 kcX5_run 99 (by decide +kernel) (by decide +kernel)
theorem dX5_run_206 : decode cX5_run 206 = .ok (.aload_n 0, 1) := dl_o42 kcX5_run (by decide +kernel)
theorem dX5_run_207 : decode cX5_run 207 = .ok (.iload 6, 2) := dl_o21 kcX5_run (by decide +kernel)
theorem dX5_run_209 : decode cX5_run 209 = .ok (.invokevirtual 123, 3) := dl_o182 kcX5_run (by decide +kernel)
theorem dX5_run_212 : decode cX5_run 212 = .ok (.goto 90, 3) := dl_o167 kcX5_run 90 (by decide +kernel) (by decide +kernel)
theorem dX5_run_215 : decode cX5_run 215 = .ok (.aload_n 0, 1) := dl_o42 kcX5_run (by decide +kernel)
theorem dX5_run_216 : decode cX5_run 216 = .ok (.iload 6, 2) := dl_o21 kcX5_run (by decide +kernel)
theorem dX5_run_218 : decode cX5_run 218 = .ok (.invokevirtual 126, 3) := dl_o182 kcX5_run (by decide +kernel)
theorem dX5_run_221 : decode cX5_run 221 = .ok (.goto 81, 3) := dl_o167 kcX5_run 81 (by decide +kernel) (by decide +kernel)
theorem dX5_run_224 : decode cX5_run 224 = .ok (.aload_n 0, 1) := dl_o42 kcX5_run (by decide +kernel)
theorem dX5_run_225 : decode cX5_run 225 = .ok (.iload 6, 2) := dl_o21 kcX5_run (by decide +kernel)
theorem dX5_run_227 : decode cX5_run 227 = .ok (.invokevirtual 129, 3) := dl_o182 kcX5_run (by decide +kernel)
theorem dX5_run_230 : decode cX5_run 230 = .ok (.goto 72, 3) := dl_o167 kcX5_run 72 (by decide +kernel) (by decide +kernel)
theorem dX5_run_233 : decode cX5_run 233 = .ok (.aload_n 0, 1) := dl_o42 kcX5_run (by decide +kernel)
theorem dX5_run_234 : decode cX5_run 234 = .ok (.iload 6, 2) := dl_o21 kcX5_run (by decide +kernel)
theorem dX5_run_236 : decode cX5_run 236 = .ok (.invokevirtual 132, 3) := dl_o182 kcX5_run (by decide +kernel)
theorem dX5_run_239 : decode cX5_run 239 = .ok (.goto 63, 3) := dl_o167 kcX5_run 63 (by decide +kernel) (by decide +kernel)
theorem dX5_run_242 : decode cX5_run 242 = .ok (.aload_n 0, 1) := dl_o42 kcX5_run (by decide +kernel)
theorem dX5_run_243 : decode cX5_run 243 = .ok (.iload 6, 2) := dl_o21 kcX5_run (by decide +kernel)
theorem dX5_run_245 : decode cX5_run 245 = .ok (.invokevirtual 135, 3) := dl_o182 kcX5_run (by decide +kernel)
theorem dX5_run_248 : decode cX5_run 248 = .ok (.goto 54, 3) := dl_o167 kcX5_run 54 (by decide +kernel) (by decide +kernel)
theorem dX5_run_251 : decode cX5_run 251 = .ok (.aload_n 0, 1) := dl_o42 kcX5_run (by decide +kernel)
theorem dX5_run_252 : decode cX5_run 252 = .ok (.iload 6, 2) := dl_o21 kcX5_run (by decide +kernel)
theorem dX5_run_254 : decode cX5_run 254 = .ok (.invokevirtual 138, 3) := dl_o182 kcX5_run (by decide +kernel)
theorem dX5_run_257 : decode cX5_run 257 = .ok (.goto 45, 3) := dl_o167 kcX5_run 45 (by decide +kernel) (by decide +kernel)
theorem dX5_run_260 : decode cX5_run 260 = .ok (.aload_n 0, 1) := dl_o42 kcX5_run (by decide +kernel)
theorem dX5_run_261 : decode cX5_run 261 = .ok (.iload 6, 2) := dl_o21 kcX5_run (by decide +kernel)
theorem dX5_run_263 : decode cX5_run 263 = .ok (.invokevirtual 141, 3) := dl_o182 kcX5_run (by decide +kernel)
theorem dX5_run_266 : decode cX5_run 266 = .ok (.goto 36, 3) := dl_o167 kcX5_run 36 (by decide +kernel) (by decide +kernel)
theorem dX5_run_269 : decode cX5_run 269 = .ok (.aload_n 0, 1) := dl_o42 kcX5_run (by decide +kernel)
theorem dX5_run_270 : decode cX5_run 270 = .ok (.iload 6, 2) := dl_o21 kcX5_run (by decide +kernel)
theorem dX5_run_272 : decode cX5_run 272 = .ok (.invokevirtual 144, 3) := dl_o182 kcX5_run (by decide +kernel)
theorem dX5_run_275 : decode cX5_run 275 = .ok (.goto 27, 3) := dl_o167 kcX5_run 27 (by decide +kernel) (by decide +kernel)
theorem dX5_run_278 : decode cX5_run 278 = .ok (.aload_n 0, 1) := dl_o42 kcX5_run (by decide +kernel)
theorem dX5_run_279 : decode cX5_run 279 = .ok (.iload 6, 2) := dl_o21 kcX5_run (by decide +kernel)
theorem dX5_run_281 : decode cX5_run 281 = .ok (.invokevirtual 147, 3) := dl_o182 kcX5_run (by decide +kernel)
theorem dX5_run_284 : decode cX5_run 284 = .ok (.goto 18, 3) := dl_o167 kcX5_run 18 (by decide +kernel) (by decide +kernel)
theorem dX5_run_287 : decode cX5_run 287 = .ok (.aload_n 0, 1) := dl_o42 kcX5_run (by decide +kernel)
theorem dX5_run_288 : decode cX5_run 288 = .ok (.iload 6, 2) := dl_o21 kcX5_run (by decide +kernel)
theorem dX5_run_290 : decode cX5_run 290 = .ok (.invokevirtual 150, 3) := dl_o182 kcX5_run (by decide +kernel)
theorem dX5_run_293 : decode cX5_run 293 = .ok (.goto 9, 3) := dl_o167 kcX5_run 9 (by decide +kernel) (by decide +kernel)
theorem dX5_run_296 : decode cX5_run 296 = .ok (.aload_n 0, 1) := dl_o42 kcX5_run (by decide +kernel)
theorem dX5_run_297 : decode cX5_run 297 = .ok (.iload 6, 2) := dl_o21 kcX5_run (by decide +kernel)
theorem dX5_run_299 : decode cX5_run 299 = .ok (.invokevirtual 153, 3) := dl_o182 kcX5_run (by decide +kernel)
theorem dX5_run_302 : decode cX5_run 302 = .ok (.iinc 5 1, 3) := by decide +kernel
theorem dX5_run_305 : decode cX5_run 305 = .ok (.goto (-236), 3) := dl_o167 kcX5_run 65300 (by decide +kernel) (by decide +kernel)
theorem dX5_run_308 : decode cX5_run 308 = .ok (.return_, 1) := dl_o177 kcX5_run (by decide +kernel)
def B_X5_run_302 (N : Nat) (k69 : Int32 → sv_V → Option sv_V) (l5 : Int32) (V : sv_V) : Option sv_V := sx_let (l5 + 1) (fun x1 => k69 x1 V)
set_option maxRecDepth 20000 in
theorem tB_X5_run_302 {g : sx_G} (hG : sx_Go g) {P : Option Value → sv_V → Prop} {Vr : sv_V} (hP : P none Vr) {N : Nat} {k69 : Int32 → sv_V → Option sv_V} (hk69 : ∀ (l5 : Int32) (V : sv_V), k69 l5 V = some Vr → sv_N g qX5_run 4 69 [(0, .ref 69), (5, .int l5)] [] V P) {l5 : Int32} {V : sv_V} (h : B_X5_run_302 N k69 l5 V = some Vr) : sv_N g qX5_run 4 302 [(0, .ref 69), (5, .int l5)] [] V P := by
  unfold B_X5_run_302 at h
  obtain ⟨x1, hx1⟩ : ∃ z : Int32, z = l5 + 1 := ⟨_, rfl⟩
  have h := sx_letE hx1 h
  refine sx_iinc (pc := 302) (v := x1) (lo' := [(5, .int x1), (0, .ref 69)]) dX5_run_302 sx_m1 (by rw [hx1]; rfl) (by decide) rfl ?_
  refine sx_goto (pc := 305) (tgt := 69) dX5_run_305 (by decide) ?_
  refine sx_wk (sx_s1 sx_m1 (sx_s1 sx_m0 sx_s0)) ?_
  exact hk69 _ _ h
def B_X5_run_69 (N : Nat) (k69 : Int32 → sv_V → Option sv_V) (l5 : Int32) (V : sv_V) : Option sv_V := if (20000 : Int32) < l5 then (some V) else (if (V.1 69 14) = 0 then ((F_X5_isAtEnd  V).bind (fun (x6, V4) => if x6 = 0 then (sx_let (sv_I V4 69 15 ((V4.1 69 11) - (V4.1 69 9))) (fun V8 => (F_X5_beginStep  V8).bind (fun (x11, V9) => if (V9.1 69 14) = 0 then (if sx_in x11 256 = true then sx_let (V9.1 1007 x11.toNatClampNeg) (fun x14 => if x14 = 1 then ((F_X5_vectorCodes N x11 V9).bind (fun V16 => B_X5_run_302 N k69 l5 V16)) else (if x14 = 2 then ((F_X5_settingCodes N x11 V9).bind (fun V19 => B_X5_run_302 N k69 l5 V19)) else (if x14 = 3 then ((F_X5_flowCodes N x11 V9).bind (fun V22 => B_X5_run_302 N k69 l5 V22)) else (if x14 = 4 then ((F_X5_stackCodes N x11 V9).bind (fun V25 => B_X5_run_302 N k69 l5 V25)) else (if x14 = 5 then ((F_X5_memoryCodes x11 V9).bind (fun V28 => B_X5_run_302 N k69 l5 V28)) else (if x14 = 6 then ((F_X5_comparingCodes x11 V9).bind (fun V31 => B_X5_run_302 N k69 l5 V31)) else (if x14 = 7 then ((F_X5_reckoningCodes x11 V9).bind (fun V34 => B_X5_run_302 N k69 l5 V34)) else (if x14 = 8 then ((F_X5_singlePointCodes N x11 V9).bind (fun V37 => B_X5_run_302 N k69 l5 V37)) else (if x14 = 9 then ((F_X5_manyPointCodes N x11 V9).bind (fun V40 => B_X5_run_302 N k69 l5 V40)) else (if x14 = 10 then ((F_X5_measuredCodes x11 V9).bind (fun V43 => B_X5_run_302 N k69 l5 V43)) else (if x14 = 11 then ((F_X5_deltaCodes N x11 V9).bind (fun V46 => B_X5_run_302 N k69 l5 V46)) else (if x14 = 12 then ((F_X5_shiftByReference N x11 V9).bind (fun V49 => B_X5_run_302 N k69 l5 V49)) else ((F_X5_callOwnCode x11 V9).bind (fun V51 => B_X5_run_302 N k69 l5 V51)))))))))))))) else none) else (some V9)))) else (some V4))) else (some V))
set_option maxRecDepth 20000 in
theorem tB_X5_run_69 {g : sx_G} (hG : sx_Go g) {P : Option Value → sv_V → Prop} {Vr : sv_V} (hP : P none Vr) {N : Nat} {k69 : Int32 → sv_V → Option sv_V} (hk69 : ∀ (l5 : Int32) (V : sv_V), k69 l5 V = some Vr → sv_N g qX5_run 4 69 [(0, .ref 69), (5, .int l5)] [] V P) {l5 : Int32} {V : sv_V} (h : B_X5_run_69 N k69 l5 V = some Vr) : sv_N g qX5_run 4 69 [(0, .ref 69), (5, .int l5)] [] V P := by
  unfold B_X5_run_69 at h
  refine sx_iload (pc := 69) dX5_run_69 sx_m1 ?_
  refine sx_sipush (pc := 71) (v := 20000) dX5_run_71 (by decide) ?_
  refine sx_icmp_gt (pc := 74) (tgt := 308) dX5_run_74 (by decide) (fun c2 => ?_) (fun c2 => ?_)
  · have h := sx_pos c2 h
    exact sv_vret (pc := 308) dX5_run_308 rfl h hP
  · have h := sx_neg c2 h
    refine sx_aload_n (pc := 77) dX5_run_77 sx_m0 ?_
    refine sv_getI (pc := 78) hG dX5_run_78 f_5_56 lay_69 rfl ?_
    refine sx_if_ne (pc := 81) (tgt := 308) dX5_run_81 (by decide) (fun c3 => ?_) (fun c3 => ?_)
    · have h := sx_neg c3 h
      exact sv_vret (pc := 308) dX5_run_308 rfl h hP
    · have h := sx_pos c3 h
      refine sx_aload_n (pc := 84) dX5_run_84 sx_m0 ?_
      obtain ⟨⟨x6, V4⟩, g5, h⟩ := sx_bnd h
      refine sv_cV (pc := 85) (y := qX5_isAtEnd) (o := (some (.int x6))) (as := []) (V1 := V4) hG dX5_run_85 l_X5_105 y0X5_isAtEnd yvX5_isAtEnd rfl (Nat.le_of_ble_eq_true rfl) lay_69 kr_5 (by decide) (Nat.le_of_ble_eq_true rfl) rfl rfl rfl (t_X5_isAtEnd hG ⟨rfl, rfl⟩ g5) ?_
      refine sx_if_ne (pc := 88) (tgt := 308) dX5_run_88 (by decide) (fun c7 => ?_) (fun c7 => ?_)
      · have h := sx_neg c7 h
        exact sv_vret (pc := 308) dX5_run_308 rfl h hP
      · have h := sx_pos c7 h
        refine sx_aload_n (pc := 91) dX5_run_91 sx_m0 ?_
        refine sx_aload_n (pc := 92) dX5_run_92 sx_m0 ?_
        refine sv_getI (pc := 93) hG dX5_run_93 f_5_93 lay_69 rfl ?_
        refine sx_aload_n (pc := 96) dX5_run_96 sx_m0 ?_
        refine sv_getI (pc := 97) hG dX5_run_97 f_5_87 lay_69 rfl ?_
        refine sx_isub (pc := 100) dX5_run_100 ?_
        obtain ⟨V8, hV8⟩ : ∃ z : sv_V, z = sv_I V4 69 15 ((V4.1 69 11) - (V4.1 69 9)) := ⟨_, rfl⟩
        have h := sx_letE hV8 h
        refine sv_putI (pc := 101) hG dX5_run_101 f_5_41 lay_69 rfl hV8 ?_
        refine sx_aload_n (pc := 104) dX5_run_104 sx_m0 ?_
        obtain ⟨⟨x11, V9⟩, g10, h⟩ := sx_bnd h
        refine sv_cV (pc := 105) (y := qX5_beginStep) (o := (some (.int x11))) (as := []) (V1 := V9) hG dX5_run_105 l_X5_109 y0X5_beginStep yvX5_beginStep rfl (Nat.le_of_ble_eq_true rfl) lay_69 kr_5 (by decide) (Nat.le_of_ble_eq_true rfl) rfl rfl rfl (t_X5_beginStep hG ⟨rfl, rfl⟩ g10) ?_
        refine sx_istore (pc := 108) (lo' := [(6, .int x11), (0, .ref 69), (5, .int l5)]) dX5_run_108 (by decide) rfl ?_
        refine sx_aload_n (pc := 110) dX5_run_110 sx_m1 ?_
        refine sv_getI (pc := 111) hG dX5_run_111 f_5_56 lay_69 rfl ?_
        refine sx_if_eq (pc := 114) (tgt := 118) dX5_run_114 (by decide) (fun c12 => ?_) (fun c12 => ?_)
        · have h := sx_pos c12 h
          refine sv_getS (pc := 118) (j := 6) dX5_run_118 rfl n_X5_113 ?_
          refine sx_iload (pc := 121) dX5_run_121 sx_m0 ?_
          obtain ⟨g13, h⟩ := sx_grd h
          refine sv_xld (pc := 123) hG dX5_run_123 lay_1007 g13 ?_
          refine sv_tI (fun x14 hx14 => ?_)
          have h := sx_letE hx14 h
          by_cases c15 : x14 = 1
          · have h := sx_pos c15 h
            refine sx_tabI (pc := 124) (off := 64) (tgt := 188) dX5_run_124 (by rw [c15]; decide) (by rw [c15]; decide) (by rw [c15]; rfl) (by decide) ?_
            refine sx_aload_n (pc := 188) dX5_run_188 sx_m1 ?_
            refine sx_iload (pc := 189) dX5_run_189 sx_m0 ?_
            obtain ⟨V16, g17, h⟩ := sx_bnd h
            refine sv_cV (pc := 191) (y := qX5_vectorCodes) (o := none) (as := [.int x11]) (V1 := V16) hG dX5_run_191 l_X5_116 y0X5_vectorCodes yvX5_vectorCodes rfl (Nat.le_of_ble_eq_true rfl) lay_69 kr_5 (by decide) (Nat.le_of_ble_eq_true rfl) rfl rfl rfl (t_X5_vectorCodes hG ⟨rfl, rfl⟩ g17) ?_
            refine sx_goto (pc := 194) (tgt := 302) dX5_run_194 (by decide) ?_
            refine sx_wk (sx_s1 sx_m1 (sx_s1 sx_m2 sx_s0)) ?_
            exact tB_X5_run_302 hG hP hk69 h
          have h := sx_neg c15 h
          by_cases c18 : x14 = 2
          · have h := sx_pos c18 h
            refine sx_tabI (pc := 124) (off := 73) (tgt := 197) dX5_run_124 (by rw [c18]; decide) (by rw [c18]; decide) (by rw [c18]; rfl) (by decide) ?_
            refine sx_aload_n (pc := 197) dX5_run_197 sx_m1 ?_
            refine sx_iload (pc := 198) dX5_run_198 sx_m0 ?_
            obtain ⟨V19, g20, h⟩ := sx_bnd h
            refine sv_cV (pc := 200) (y := qX5_settingCodes) (o := none) (as := [.int x11]) (V1 := V19) hG dX5_run_200 l_X5_120 y0X5_settingCodes yvX5_settingCodes rfl (Nat.le_of_ble_eq_true rfl) lay_69 kr_5 (by decide) (Nat.le_of_ble_eq_true rfl) rfl rfl rfl (t_X5_settingCodes hG ⟨rfl, rfl⟩ g20) ?_
            refine sx_goto (pc := 203) (tgt := 302) dX5_run_203 (by decide) ?_
            refine sx_wk (sx_s1 sx_m1 (sx_s1 sx_m2 sx_s0)) ?_
            exact tB_X5_run_302 hG hP hk69 h
          have h := sx_neg c18 h
          by_cases c21 : x14 = 3
          · have h := sx_pos c21 h
            refine sx_tabI (pc := 124) (off := 82) (tgt := 206) dX5_run_124 (by rw [c21]; decide) (by rw [c21]; decide) (by rw [c21]; rfl) (by decide) ?_
            refine sx_aload_n (pc := 206) dX5_run_206 sx_m1 ?_
            refine sx_iload (pc := 207) dX5_run_207 sx_m0 ?_
            obtain ⟨V22, g23, h⟩ := sx_bnd h
            refine sv_cV (pc := 209) (y := qX5_flowCodes) (o := none) (as := [.int x11]) (V1 := V22) hG dX5_run_209 l_X5_123 y0X5_flowCodes yvX5_flowCodes rfl (Nat.le_of_ble_eq_true rfl) lay_69 kr_5 (by decide) (Nat.le_of_ble_eq_true rfl) rfl rfl rfl (t_X5_flowCodes hG ⟨rfl, rfl⟩ g23) ?_
            refine sx_goto (pc := 212) (tgt := 302) dX5_run_212 (by decide) ?_
            refine sx_wk (sx_s1 sx_m1 (sx_s1 sx_m2 sx_s0)) ?_
            exact tB_X5_run_302 hG hP hk69 h
          have h := sx_neg c21 h
          by_cases c24 : x14 = 4
          · have h := sx_pos c24 h
            refine sx_tabI (pc := 124) (off := 91) (tgt := 215) dX5_run_124 (by rw [c24]; decide) (by rw [c24]; decide) (by rw [c24]; rfl) (by decide) ?_
            refine sx_aload_n (pc := 215) dX5_run_215 sx_m1 ?_
            refine sx_iload (pc := 216) dX5_run_216 sx_m0 ?_
            obtain ⟨V25, g26, h⟩ := sx_bnd h
            refine sv_cV (pc := 218) (y := qX5_stackCodes) (o := none) (as := [.int x11]) (V1 := V25) hG dX5_run_218 l_X5_126 y0X5_stackCodes yvX5_stackCodes rfl (Nat.le_of_ble_eq_true rfl) lay_69 kr_5 (by decide) (Nat.le_of_ble_eq_true rfl) rfl rfl rfl (t_X5_stackCodes hG ⟨rfl, rfl⟩ g26) ?_
            refine sx_goto (pc := 221) (tgt := 302) dX5_run_221 (by decide) ?_
            refine sx_wk (sx_s1 sx_m1 (sx_s1 sx_m2 sx_s0)) ?_
            exact tB_X5_run_302 hG hP hk69 h
          have h := sx_neg c24 h
          by_cases c27 : x14 = 5
          · have h := sx_pos c27 h
            refine sx_tabI (pc := 124) (off := 100) (tgt := 224) dX5_run_124 (by rw [c27]; decide) (by rw [c27]; decide) (by rw [c27]; rfl) (by decide) ?_
            refine sx_aload_n (pc := 224) dX5_run_224 sx_m1 ?_
            refine sx_iload (pc := 225) dX5_run_225 sx_m0 ?_
            obtain ⟨V28, g29, h⟩ := sx_bnd h
            refine sv_cV (pc := 227) (y := qX5_memoryCodes) (o := none) (as := [.int x11]) (V1 := V28) hG dX5_run_227 l_X5_129 y0X5_memoryCodes yvX5_memoryCodes rfl (Nat.le_of_ble_eq_true rfl) lay_69 kr_5 (by decide) (Nat.le_of_ble_eq_true rfl) rfl rfl rfl (t_X5_memoryCodes hG ⟨rfl, rfl⟩ g29) ?_
            refine sx_goto (pc := 230) (tgt := 302) dX5_run_230 (by decide) ?_
            refine sx_wk (sx_s1 sx_m1 (sx_s1 sx_m2 sx_s0)) ?_
            exact tB_X5_run_302 hG hP hk69 h
          have h := sx_neg c27 h
          by_cases c30 : x14 = 6
          · have h := sx_pos c30 h
            refine sx_tabI (pc := 124) (off := 109) (tgt := 233) dX5_run_124 (by rw [c30]; decide) (by rw [c30]; decide) (by rw [c30]; rfl) (by decide) ?_
            refine sx_aload_n (pc := 233) dX5_run_233 sx_m1 ?_
            refine sx_iload (pc := 234) dX5_run_234 sx_m0 ?_
            obtain ⟨V31, g32, h⟩ := sx_bnd h
            refine sv_cV (pc := 236) (y := qX5_comparingCodes) (o := none) (as := [.int x11]) (V1 := V31) hG dX5_run_236 l_X5_132 y0X5_comparingCodes yvX5_comparingCodes rfl (Nat.le_of_ble_eq_true rfl) lay_69 kr_5 (by decide) (Nat.le_of_ble_eq_true rfl) rfl rfl rfl (t_X5_comparingCodes hG ⟨rfl, rfl⟩ g32) ?_
            refine sx_goto (pc := 239) (tgt := 302) dX5_run_239 (by decide) ?_
            refine sx_wk (sx_s1 sx_m1 (sx_s1 sx_m2 sx_s0)) ?_
            exact tB_X5_run_302 hG hP hk69 h
          have h := sx_neg c30 h
          by_cases c33 : x14 = 7
          · have h := sx_pos c33 h
            refine sx_tabI (pc := 124) (off := 118) (tgt := 242) dX5_run_124 (by rw [c33]; decide) (by rw [c33]; decide) (by rw [c33]; rfl) (by decide) ?_
            refine sx_aload_n (pc := 242) dX5_run_242 sx_m1 ?_
            refine sx_iload (pc := 243) dX5_run_243 sx_m0 ?_
            obtain ⟨V34, g35, h⟩ := sx_bnd h
            refine sv_cV (pc := 245) (y := qX5_reckoningCodes) (o := none) (as := [.int x11]) (V1 := V34) hG dX5_run_245 l_X5_135 y0X5_reckoningCodes yvX5_reckoningCodes rfl (Nat.le_of_ble_eq_true rfl) lay_69 kr_5 (by decide) (Nat.le_of_ble_eq_true rfl) rfl rfl rfl (t_X5_reckoningCodes hG ⟨rfl, rfl⟩ g35) ?_
            refine sx_goto (pc := 248) (tgt := 302) dX5_run_248 (by decide) ?_
            refine sx_wk (sx_s1 sx_m1 (sx_s1 sx_m2 sx_s0)) ?_
            exact tB_X5_run_302 hG hP hk69 h
          have h := sx_neg c33 h
          by_cases c36 : x14 = 8
          · have h := sx_pos c36 h
            refine sx_tabI (pc := 124) (off := 127) (tgt := 251) dX5_run_124 (by rw [c36]; decide) (by rw [c36]; decide) (by rw [c36]; rfl) (by decide) ?_
            refine sx_aload_n (pc := 251) dX5_run_251 sx_m1 ?_
            refine sx_iload (pc := 252) dX5_run_252 sx_m0 ?_
            obtain ⟨V37, g38, h⟩ := sx_bnd h
            refine sv_cV (pc := 254) (y := qX5_singlePointCodes) (o := none) (as := [.int x11]) (V1 := V37) hG dX5_run_254 l_X5_138 y0X5_singlePointCodes yvX5_singlePointCodes rfl (Nat.le_of_ble_eq_true rfl) lay_69 kr_5 (by decide) (Nat.le_of_ble_eq_true rfl) rfl rfl rfl (t_X5_singlePointCodes hG ⟨rfl, rfl⟩ g38) ?_
            refine sx_goto (pc := 257) (tgt := 302) dX5_run_257 (by decide) ?_
            refine sx_wk (sx_s1 sx_m1 (sx_s1 sx_m2 sx_s0)) ?_
            exact tB_X5_run_302 hG hP hk69 h
          have h := sx_neg c36 h
          by_cases c39 : x14 = 9
          · have h := sx_pos c39 h
            refine sx_tabI (pc := 124) (off := 136) (tgt := 260) dX5_run_124 (by rw [c39]; decide) (by rw [c39]; decide) (by rw [c39]; rfl) (by decide) ?_
            refine sx_aload_n (pc := 260) dX5_run_260 sx_m1 ?_
            refine sx_iload (pc := 261) dX5_run_261 sx_m0 ?_
            obtain ⟨V40, g41, h⟩ := sx_bnd h
            refine sv_cV (pc := 263) (y := qX5_manyPointCodes) (o := none) (as := [.int x11]) (V1 := V40) hG dX5_run_263 l_X5_141 y0X5_manyPointCodes yvX5_manyPointCodes rfl (Nat.le_of_ble_eq_true rfl) lay_69 kr_5 (by decide) (Nat.le_of_ble_eq_true rfl) rfl rfl rfl (t_X5_manyPointCodes hG ⟨rfl, rfl⟩ g41) ?_
            refine sx_goto (pc := 266) (tgt := 302) dX5_run_266 (by decide) ?_
            refine sx_wk (sx_s1 sx_m1 (sx_s1 sx_m2 sx_s0)) ?_
            exact tB_X5_run_302 hG hP hk69 h
          have h := sx_neg c39 h
          by_cases c42 : x14 = 10
          · have h := sx_pos c42 h
            refine sx_tabI (pc := 124) (off := 145) (tgt := 269) dX5_run_124 (by rw [c42]; decide) (by rw [c42]; decide) (by rw [c42]; rfl) (by decide) ?_
            refine sx_aload_n (pc := 269) dX5_run_269 sx_m1 ?_
            refine sx_iload (pc := 270) dX5_run_270 sx_m0 ?_
            obtain ⟨V43, g44, h⟩ := sx_bnd h
            refine sv_cV (pc := 272) (y := qX5_measuredCodes) (o := none) (as := [.int x11]) (V1 := V43) hG dX5_run_272 l_X5_144 y0X5_measuredCodes yvX5_measuredCodes rfl (Nat.le_of_ble_eq_true rfl) lay_69 kr_5 (by decide) (Nat.le_of_ble_eq_true rfl) rfl rfl rfl (t_X5_measuredCodes hG ⟨rfl, rfl⟩ g44) ?_
            refine sx_goto (pc := 275) (tgt := 302) dX5_run_275 (by decide) ?_
            refine sx_wk (sx_s1 sx_m1 (sx_s1 sx_m2 sx_s0)) ?_
            exact tB_X5_run_302 hG hP hk69 h
          have h := sx_neg c42 h
          by_cases c45 : x14 = 11
          · have h := sx_pos c45 h
            refine sx_tabI (pc := 124) (off := 154) (tgt := 278) dX5_run_124 (by rw [c45]; decide) (by rw [c45]; decide) (by rw [c45]; rfl) (by decide) ?_
            refine sx_aload_n (pc := 278) dX5_run_278 sx_m1 ?_
            refine sx_iload (pc := 279) dX5_run_279 sx_m0 ?_
            obtain ⟨V46, g47, h⟩ := sx_bnd h
            refine sv_cV (pc := 281) (y := qX5_deltaCodes) (o := none) (as := [.int x11]) (V1 := V46) hG dX5_run_281 l_X5_147 y0X5_deltaCodes yvX5_deltaCodes rfl (Nat.le_of_ble_eq_true rfl) lay_69 kr_5 (by decide) (Nat.le_of_ble_eq_true rfl) rfl rfl rfl (t_X5_deltaCodes hG ⟨rfl, rfl⟩ g47) ?_
            refine sx_goto (pc := 284) (tgt := 302) dX5_run_284 (by decide) ?_
            refine sx_wk (sx_s1 sx_m1 (sx_s1 sx_m2 sx_s0)) ?_
            exact tB_X5_run_302 hG hP hk69 h
          have h := sx_neg c45 h
          by_cases c48 : x14 = 12
          · have h := sx_pos c48 h
            refine sx_tabI (pc := 124) (off := 163) (tgt := 287) dX5_run_124 (by rw [c48]; decide) (by rw [c48]; decide) (by rw [c48]; rfl) (by decide) ?_
            refine sx_aload_n (pc := 287) dX5_run_287 sx_m1 ?_
            refine sx_iload (pc := 288) dX5_run_288 sx_m0 ?_
            obtain ⟨V49, g50, h⟩ := sx_bnd h
            refine sv_cV (pc := 290) (y := qX5_shiftByReference) (o := none) (as := [.int x11]) (V1 := V49) hG dX5_run_290 l_X5_150 y0X5_shiftByReference yvX5_shiftByReference rfl (Nat.le_of_ble_eq_true rfl) lay_69 kr_5 (by decide) (Nat.le_of_ble_eq_true rfl) rfl rfl rfl (t_X5_shiftByReference hG ⟨rfl, rfl⟩ g50) ?_
            refine sx_goto (pc := 293) (tgt := 302) dX5_run_293 (by decide) ?_
            refine sx_wk (sx_s1 sx_m1 (sx_s1 sx_m2 sx_s0)) ?_
            exact tB_X5_run_302 hG hP hk69 h
          have h := sx_neg c48 h
          refine sx_tabO (pc := 124) (tgt := 296) dX5_run_124 (by have ec15 := lv_neT (a := 1) c15 rfl; have ec18 := lv_neT (a := 2) c18 rfl; have ec21 := lv_neT (a := 3) c21 rfl; have ec24 := lv_neT (a := 4) c24 rfl; have ec27 := lv_neT (a := 5) c27 rfl; have ec30 := lv_neT (a := 6) c30 rfl; have ec33 := lv_neT (a := 7) c33 rfl; have ec36 := lv_neT (a := 8) c36 rfl; have ec39 := lv_neT (a := 9) c39 rfl; have ec42 := lv_neT (a := 10) c42 rfl; have ec45 := lv_neT (a := 11) c45 rfl; have ec48 := lv_neT (a := 12) c48 rfl; omega) (by decide) ?_
          refine sx_aload_n (pc := 296) dX5_run_296 sx_m1 ?_
          refine sx_iload (pc := 297) dX5_run_297 sx_m0 ?_
          obtain ⟨V51, g52, h⟩ := sx_bnd h
          refine sv_cV (pc := 299) (y := qX5_callOwnCode) (o := none) (as := [.int x11]) (V1 := V51) hG dX5_run_299 l_X5_153 y0X5_callOwnCode yvX5_callOwnCode rfl (Nat.le_of_ble_eq_true rfl) lay_69 kr_5 (by decide) (Nat.le_of_ble_eq_true rfl) rfl rfl rfl (t_X5_callOwnCode hG ⟨rfl, rfl⟩ g52) ?_
          refine sx_wk (sx_s1 sx_m1 (sx_s1 sx_m2 sx_s0)) ?_
          exact tB_X5_run_302 hG hP hk69 h
        · have h := sx_neg c12 h
          exact sv_vret (pc := 117) dX5_run_117 rfl h hP
theorem tL_X5_run_69 {g : sx_G} (hG : sx_Go g) {P : Option Value → sv_V → Prop} {Vr : sv_V} (hP : P none Vr) {N : Nat}   : ∀ (n : Nat) (l5 : Int32) (V : sv_V), sx_lp2 (B_X5_run_69 N ) n l5 V = some Vr → sv_N g qX5_run 4 69 [(0, .ref 69), (5, .int l5)] [] V P :=
  sx_lp2_ind (fun k0 ih _ V h => tB_X5_run_69 hG hP ih h)
def B_X5_run_15 (N : Nat)  (l1 : Int32) (l2 : Int32) (l3 : Nat) (l4 : Nat) (s1 : Int32) (V : sv_V) : Option sv_V := if sv_bl s1 = true then sx_let (sv_I V 69 8 s1) (fun V54 => sx_let (sv_R V54 69 6 (some l3)) (fun V55 => sx_let (sv_R V55 69 7 (some l4)) (fun V56 => sx_let (sv_I V56 69 9 l1) (fun V57 => sx_let (sv_I V57 69 10 (l1 + l2)) (fun V58 => sx_let (sv_I V58 69 11 l1) (fun V59 => sx_let (sv_I V59 69 5 (0 : Int32)) (fun V60 => sx_let (sv_I V60 73 9 (0 : Int32)) (fun V61 => (F_X9_renew N  V61).bind (fun V62 => sx_lp2 (B_X5_run_69 N ) N (0 : Int32) V62))))))))) else none
set_option maxRecDepth 20000 in
theorem tB_X5_run_15 {g : sx_G} (hG : sx_Go g) {P : Option Value → sv_V → Prop} {Vr : sv_V} (hP : P none Vr) {N : Nat}   {l1 : Int32} {l2 : Int32} {l3 : Nat} {l4 : Nat} {s1 : Int32} {V : sv_V} (h : B_X5_run_15 N  l1 l2 l3 l4 s1 V = some Vr) : sv_N g qX5_run 4 15 [(0, .ref 69), (1, .int l1), (2, .int l2), (3, .ref l3), (4, .ref l4)] [.int s1, .ref 69] V P := by
  unfold B_X5_run_15 at h
  obtain ⟨g53, h⟩ := sx_grd h
  obtain ⟨V54, hV54⟩ : ∃ z : sv_V, z = sv_I V 69 8 s1 := ⟨_, rfl⟩
  have h := sx_letE hV54 h
  refine sv_putZ (pc := 15) hG dX5_run_15 f_5_83 lay_69 rfl g53 hV54 ?_
  refine sx_aload_n (pc := 18) dX5_run_18 sx_m0 ?_
  refine sx_aload_n (pc := 19) dX5_run_19 sx_m3 ?_
  obtain ⟨V55, hV55⟩ : ∃ z : sv_V, z = sv_R V54 69 6 (some l3) := ⟨_, rfl⟩
  have h := sx_letE hV55 h
  refine sv_putO (pc := 20) hG dX5_run_20 f_5_49 lay_69 rfl rfl hV55 ?_
  refine sx_aload_n (pc := 23) dX5_run_23 sx_m0 ?_
  refine sx_aload (pc := 24) dX5_run_24 sx_m4 ?_
  obtain ⟨V56, hV56⟩ : ∃ z : sv_V, z = sv_R V55 69 7 (some l4) := ⟨_, rfl⟩
  have h := sx_letE hV56 h
  refine sv_putO (pc := 26) hG dX5_run_26 f_5_38 lay_69 rfl rfl hV56 ?_
  refine sx_aload_n (pc := 29) dX5_run_29 sx_m0 ?_
  refine sx_iload_n (pc := 30) dX5_run_30 sx_m1 ?_
  obtain ⟨V57, hV57⟩ : ∃ z : sv_V, z = sv_I V56 69 9 l1 := ⟨_, rfl⟩
  have h := sx_letE hV57 h
  refine sv_putI (pc := 31) hG dX5_run_31 f_5_87 lay_69 rfl hV57 ?_
  refine sx_aload_n (pc := 34) dX5_run_34 sx_m0 ?_
  refine sx_iload_n (pc := 35) dX5_run_35 sx_m1 ?_
  refine sx_iload_n (pc := 36) dX5_run_36 sx_m2 ?_
  refine sx_iadd (pc := 37) dX5_run_37 ?_
  obtain ⟨V58, hV58⟩ : ∃ z : sv_V, z = sv_I V57 69 10 (l1 + l2) := ⟨_, rfl⟩
  have h := sx_letE hV58 h
  refine sv_putI (pc := 38) hG dX5_run_38 f_5_90 lay_69 rfl hV58 ?_
  refine sx_aload_n (pc := 41) dX5_run_41 sx_m0 ?_
  refine sx_iload_n (pc := 42) dX5_run_42 sx_m1 ?_
  obtain ⟨V59, hV59⟩ : ∃ z : sv_V, z = sv_I V58 69 11 l1 := ⟨_, rfl⟩
  have h := sx_letE hV59 h
  refine sv_putI (pc := 43) hG dX5_run_43 f_5_93 lay_69 rfl hV59 ?_
  refine sx_aload_n (pc := 46) dX5_run_46 sx_m0 ?_
  refine sx_iconst (pc := 47) (v := 0) dX5_run_47 (by decide) ?_
  obtain ⟨V60, hV60⟩ : ∃ z : sv_V, z = sv_I V59 69 5 (0 : Int32) := ⟨_, rfl⟩
  have h := sx_letE hV60 h
  refine sv_putI (pc := 48) hG dX5_run_48 f_5_96 lay_69 rfl hV60 ?_
  refine sx_aload_n (pc := 51) dX5_run_51 sx_m0 ?_
  refine sv_getO (pc := 52) hG dX5_run_52 f_5_21 lay_69 rfl cr_69_2 ?_
  refine sx_iconst (pc := 55) (v := 0) dX5_run_55 (by decide) ?_
  obtain ⟨V61, hV61⟩ : ∃ z : sv_V, z = sv_I V60 73 9 (0 : Int32) := ⟨_, rfl⟩
  have h := sx_letE hV61 h
  refine sv_putI (pc := 56) hG dX5_run_56 f_5_99 lay_73 rfl hV61 ?_
  refine sx_aload_n (pc := 59) dX5_run_59 sx_m0 ?_
  refine sv_getO (pc := 60) hG dX5_run_60 f_5_12 lay_69 rfl cr_69_1 ?_
  obtain ⟨V62, g63, h⟩ := sx_bnd h
  refine sv_cV (pc := 63) (y := qX9_renew) (o := none) (as := []) (V1 := V62) hG dX5_run_63 l_X5_102 y0X9_renew yvX9_renew rfl (Nat.le_of_ble_eq_true rfl) lay_70 kr_9 (by decide) (Nat.le_of_ble_eq_true rfl) rfl rfl rfl (t_X9_renew hG ⟨rfl, rfl⟩ g63) ?_
  refine sx_iconst (pc := 66) (v := 0) dX5_run_66 (by decide) ?_
  refine sx_istore (pc := 67) (lo' := [(5, .int (0 : Int32)), (0, .ref 69), (1, .int l1), (2, .int l2), (3, .ref l3), (4, .ref l4)]) dX5_run_67 (by decide) rfl ?_
  refine sx_wk (sx_s1 sx_m1 (sx_s1 sx_m0 sx_s0)) ?_
  exact tL_X5_run_69 hG hP  N _ _ h
def F_X5_run (N : Nat) (l1 : Int32) (l2 : Int32) (l3 : Nat) (l4 : Nat) (V : sv_V) : Option sv_V := if lay l4 = .inl 8 then if l4 = 82 then (B_X5_run_15 N  l1 l2 l3 l4 (1 : Int32) V) else (B_X5_run_15 N  l1 l2 l3 l4 (0 : Int32) V) else none
set_option maxRecDepth 20000 in
theorem t_X5_run {g : sx_G} (hG : sx_Go g) {P : Option Value → sv_V → Prop} {Vr : sv_V} (hP : P none Vr) {N : Nat} {l1 : Int32} {l2 : Int32} {l3 : Nat} {l4 : Nat} {V : sv_V} (h : F_X5_run N l1 l2 l3 l4 V = some Vr) : sv_N g qX5_run 4 0 [(0, .ref 69), (1, .int l1), (2, .int l2), (3, .ref l3), (4, .ref l4)] [] V P := by
  unfold F_X5_run at h
  refine sx_aload_n (pc := 0) dX5_run_0 sx_m0 ?_
  refine sx_aload (pc := 1) dX5_run_1 sx_m4 ?_
  refine sx_aload_n (pc := 3) dX5_run_3 sx_m0 ?_
  refine sv_getO (pc := 4) hG dX5_run_4 f_5_30 lay_69 rfl cr_69_3 ?_
  obtain ⟨g64, h⟩ := sx_grd h
  refine sv_acmp (pc := 7) (tgt := 14) dX5_run_7 (by decide) g64 lay_82 (fun c65 => ?_) (fun c65 => ?_)
  · have h := sx_neg c65 h
    refine sx_iconst (pc := 14) (v := 0) dX5_run_14 (by decide) ?_
    refine sx_wk (sx_s1 sx_m0 (sx_s1 sx_m1 (sx_s1 sx_m2 (sx_s1 sx_m3 (sx_s1 sx_m4 sx_s0))))) ?_
    exact tB_X5_run_15 hG hP  h
  · have h := sx_pos c65 h
    refine sx_iconst (pc := 10) (v := 1) dX5_run_10 (by decide) ?_
    refine sx_goto (pc := 11) (tgt := 15) dX5_run_11 (by decide) ?_
    refine sx_wk (sx_s1 sx_m0 (sx_s1 sx_m1 (sx_s1 sx_m2 (sx_s1 sx_m3 (sx_s1 sx_m4 sx_s0))))) ?_
    exact tB_X5_run_15 hG hP  h
def ncX6_addParts : Nat := 293636903133809571235785100722543690133289750836253753415992238129914979129187538822495616175898573781596333023998287202372150677424828145888395218854360011722969828838012969290446236811850309136277031104597767785611894348888612698273386258578947
theorem kcX6_addParts : CK cX6_addParts ncX6_addParts 102 := ⟨by decide +kernel, by decide +kernel⟩
theorem dX6_addParts_0 : decode cX6_addParts 0 = .ok (.iconst 0, 1) := dl_o3 kcX6_addParts (by decide +kernel)
theorem dX6_addParts_1 : decode cX6_addParts 1 = .ok (.istore_n 3, 1) := dl_o62 kcX6_addParts (by decide +kernel)
theorem dX6_addParts_2 : decode cX6_addParts 2 = .ok (.iload_n 3, 1) := dl_o29 kcX6_addParts (by decide +kernel)
theorem dX6_addParts_3 : decode cX6_addParts 3 = .ok (.aload_n 0, 1) := dl_o42 kcX6_addParts (by decide +kernel)
theorem dX6_addParts_4 : decode cX6_addParts 4 = .ok (.getfield 34, 3) := dl_o180 kcX6_addParts (by decide +kernel)
theorem dX6_addParts_7 : decode cX6_addParts 7 = .ok (.getfield 111, 3) := dl_o180 kcX6_addParts (by decide +kernel)
theorem dX6_addParts_10 : decode cX6_addParts 10 = .ok (.iconst 5, 1) := dl_o8 kcX6_addParts (by decide +kernel)
theorem dX6_addParts_11 : decode cX6_addParts 11 = .ok (.aaload, 1) := dl_o50 kcX6_addParts (by decide +kernel)
theorem dX6_addParts_12 : decode cX6_addParts 12 = .ok (.iload_n 1, 1) := dl_o27 kcX6_addParts (by decide +kernel)
theorem dX6_addParts_13 : decode cX6_addParts 13 = .ok (.iaload, 1) := dl_o46 kcX6_addParts (by decide +kernel)
theorem dX6_addParts_14 : decode cX6_addParts 14 = .ok (.if_icmp .ge 86, 3) := dl_o162 kcX6_addParts 86 (by decide +kernel) (by decide +kernel)
theorem dX6_addParts_17 : decode cX6_addParts 17 = .ok (.aload_n 0, 1) := dl_o42 kcX6_addParts (by decide +kernel)
theorem dX6_addParts_18 : decode cX6_addParts 18 = .ok (.dup, 1) := dl_o89 kcX6_addParts (by decide +kernel)
theorem dX6_addParts_19 : decode cX6_addParts 19 = .ok (.getfield 101, 3) := dl_o180 kcX6_addParts (by decide +kernel)
theorem dX6_addParts_22 : decode cX6_addParts 22 = .ok (.iconst 1, 1) := dl_o4 kcX6_addParts (by decide +kernel)
theorem dX6_addParts_23 : decode cX6_addParts 23 = .ok (.iadd, 1) := dl_o96 kcX6_addParts (by decide +kernel)
theorem dX6_addParts_24 : decode cX6_addParts 24 = .ok (.putfield 101, 3) := dl_o181 kcX6_addParts (by decide +kernel)
theorem dX6_addParts_27 : decode cX6_addParts 27 = .ok (.aload_n 0, 1) := dl_o42 kcX6_addParts (by decide +kernel)
theorem dX6_addParts_28 : decode cX6_addParts 28 = .ok (.getfield 101, 3) := dl_o180 kcX6_addParts (by decide +kernel)
theorem dX6_addParts_31 : decode cX6_addParts 31 = .ok (.bipush 60, 2) := dl_o16 kcX6_addParts 60 (by decide +kernel) (by decide +kernel)
theorem dX6_addParts_33 : decode cX6_addParts 33 = .ok (.if_icmp .le 14, 3) := dl_o164 kcX6_addParts 14 (by decide +kernel) (by decide +kernel)
theorem dX6_addParts_36 : decode cX6_addParts 36 = .ok (.aload_n 0, 1) := dl_o42 kcX6_addParts (by decide +kernel)
theorem dX6_addParts_37 : decode cX6_addParts 37 = .ok (.getfield 47, 3) := dl_o180 kcX6_addParts (by decide +kernel)
theorem dX6_addParts_40 : decode cX6_addParts 40 = .ok (.bipush 12, 2) := dl_o16 kcX6_addParts 12 (by decide +kernel) (by decide +kernel)
theorem dX6_addParts_42 : decode cX6_addParts 42 = .ok (.invokevirtual 129, 3) := dl_o182 kcX6_addParts (by decide +kernel)
theorem dX6_addParts_45 : decode cX6_addParts 45 = .ok (.iconst 0, 1) := dl_o3 kcX6_addParts (by decide +kernel)
theorem dX6_addParts_46 : decode cX6_addParts 46 = .ok (.ireturn, 1) := dl_o172 kcX6_addParts (by decide +kernel)
theorem dX6_addParts_47 : decode cX6_addParts 47 = .ok (.aload_n 0, 1) := dl_o42 kcX6_addParts (by decide +kernel)
theorem dX6_addParts_48 : decode cX6_addParts 48 = .ok (.getfield 38, 3) := dl_o180 kcX6_addParts (by decide +kernel)
theorem dX6_addParts_51 : decode cX6_addParts 51 = .ok (.iload_n 1, 1) := dl_o27 kcX6_addParts (by decide +kernel)
theorem dX6_addParts_52 : decode cX6_addParts 52 = .ok (.iload_n 3, 1) := dl_o29 kcX6_addParts (by decide +kernel)
theorem dX6_addParts_53 : decode cX6_addParts 53 = .ok (.invokevirtual 196, 3) := dl_o182 kcX6_addParts (by decide +kernel)
theorem dX6_addParts_56 : decode cX6_addParts 56 = .ok (.aload_n 0, 1) := dl_o42 kcX6_addParts (by decide +kernel)
theorem dX6_addParts_57 : decode cX6_addParts 57 = .ok (.aload_n 0, 1) := dl_o42 kcX6_addParts (by decide +kernel)
theorem dX6_addParts_58 : decode cX6_addParts 58 = .ok (.getfield 38, 3) := dl_o180 kcX6_addParts (by decide +kernel)
theorem dX6_addParts_61 : decode cX6_addParts 61 = .ok (.getfield 199, 3) := dl_o180 kcX6_addParts (by decide +kernel)
theorem dX6_addParts_64 : decode cX6_addParts 64 = .ok (.iload_n 2, 1) := dl_o28 kcX6_addParts (by decide +kernel)
theorem dX6_addParts_65 : decode cX6_addParts 65 = .ok (.iconst 1, 1) := dl_o4 kcX6_addParts (by decide +kernel)
theorem dX6_addParts_66 : decode cX6_addParts 66 = .ok (.iadd, 1) := dl_o96 kcX6_addParts (by decide +kernel)
theorem dX6_addParts_67 : decode cX6_addParts 67 = .ok (.invokevirtual 107, 3) := dl_o182 kcX6_addParts (by decide +kernel)
theorem dX6_addParts_70 : decode cX6_addParts 70 = .ok (.ifCond .ne 5, 3) := dl_o154 kcX6_addParts 5 (by decide +kernel) (by decide +kernel)
theorem dX6_addParts_73 : decode cX6_addParts 73 = .ok (.iconst 0, 1) := dl_o3 kcX6_addParts (by decide +kernel)
theorem dX6_addParts_74 : decode cX6_addParts 74 = .ok (.ireturn, 1) := dl_o172 kcX6_addParts (by decide +kernel)
theorem dX6_addParts_75 : decode cX6_addParts 75 = .ok (.aload_n 0, 1) := dl_o42 kcX6_addParts (by decide +kernel)
theorem dX6_addParts_76 : decode cX6_addParts 76 = .ok (.getfield 38, 3) := dl_o180 kcX6_addParts (by decide +kernel)
theorem dX6_addParts_79 : decode cX6_addParts 79 = .ok (.iload_n 1, 1) := dl_o27 kcX6_addParts (by decide +kernel)
theorem dX6_addParts_80 : decode cX6_addParts 80 = .ok (.iload_n 3, 1) := dl_o29 kcX6_addParts (by decide +kernel)
theorem dX6_addParts_81 : decode cX6_addParts 81 = .ok (.invokevirtual 196, 3) := dl_o182 kcX6_addParts (by decide +kernel)
theorem dX6_addParts_84 : decode cX6_addParts 84 = .ok (.aload_n 0, 1) := dl_o42 kcX6_addParts (by decide +kernel)
theorem dX6_addParts_85 : decode cX6_addParts 85 = .ok (.iload_n 2, 1) := dl_o28 kcX6_addParts (by decide +kernel)
theorem dX6_addParts_86 : decode cX6_addParts 86 = .ok (.invokevirtual 202, 3) := dl_o182 kcX6_addParts (by decide +kernel)
theorem dX6_addParts_89 : decode cX6_addParts 89 = .ok (.ifCond .ne 5, 3) := dl_o154 kcX6_addParts 5 (by decide +kernel) (by decide +kernel)
theorem dX6_addParts_92 : decode cX6_addParts 92 = .ok (.iconst 0, 1) := dl_o3 kcX6_addParts (by decide +kernel)
theorem dX6_addParts_93 : decode cX6_addParts 93 = .ok (.ireturn, 1) := dl_o172 kcX6_addParts (by decide +kernel)
theorem dX6_addParts_94 : decode cX6_addParts 94 = .ok (.iinc 3 1, 3) := by decide +kernel
theorem dX6_addParts_97 : decode cX6_addParts 97 = .ok (.goto (-95), 3) := dl_o167 kcX6_addParts 65441 (by decide +kernel) (by decide +kernel)
theorem dX6_addParts_100 : decode cX6_addParts 100 = .ok (.iconst 1, 1) := dl_o4 kcX6_addParts (by decide +kernel)
theorem dX6_addParts_101 : decode cX6_addParts 101 = .ok (.ireturn, 1) := dl_o172 kcX6_addParts (by decide +kernel)
def B_X6_addParts_2 (N : Nat) (kb : Int32 → Int32 → sv_V → Option (Int32 × sv_V)) (k2 : Int32 → Int32 → Int32 → sv_V → Option (Int32 × sv_V)) (l1 : Int32) (l2 : Int32) (l3 : Int32) (V : sv_V) : Option (Int32 × sv_V) := (cr 7 (5 : Int32).toNatClampNeg).bind (fun b1 => (sv_len 0 b1).bind (fun n3 => if sx_in l1 n3 = true then if (V.1 b1 l1.toNatClampNeg) ≤ l3 then (some ((1 : Int32), V)) else (sx_let (sv_I V 30 12 ((V.1 30 12) + (1 : Int32))) (fun V7 => if (V7.1 30 12) ≤ (60 : Int32) then ((F_X3_readPart N l1 l3 V7).bind (fun V9 => (kb (V9.1 16 8) (l2 + (1 : Int32)) V9).bind (fun (x13, V11) => if x13 = 0 then (some ((0 : Int32), V11)) else ((F_X3_readPart N l1 l3 V11).bind (fun V15 => (F_X6_addPart N l2 V15).bind (fun (x19, V17) => if x19 = 0 then (some ((0 : Int32), V17)) else (sx_let (l3 + 1) (fun x21 => k2 l1 l2 x21 V17)))))))) else ((F_X5_failOutside (12 : Int32) V7).bind (fun V22 => some ((0 : Int32), V22))))) else none))
set_option maxRecDepth 20000 in
theorem tB_X6_addParts_2 {g : sx_G} (hG : sx_Go g) {P : Option Value → sv_V → Prop} {r : Int32} {Vr : sv_V} (hP : P (some (.int r)) Vr) {N : Nat} {D : Nat} {kb : Int32 → Int32 → sv_V → Option (Int32 × sv_V)} (hkb : ∀ (l1 : Int32) (l2 : Int32) (V : sv_V) (r : Int32) (Wr : sv_V), kb l1 l2 V = some (r, Wr) → ∀ P : Option Value → sv_V → Prop, P (some (.int r)) Wr → sv_N g qX6_build (30 + 2 * D) 0 [(0, .ref 30), (1, .int l1), (2, .int l2)] [] V P) {k2 : Int32 → Int32 → Int32 → sv_V → Option (Int32 × sv_V)} (hk2 : ∀ (l1 : Int32) (l2 : Int32) (l3 : Int32) (V : sv_V), k2 l1 l2 l3 V = some (r, Vr) → sv_N g qX6_addParts (30 + 2 * D + 1) 2 [(0, .ref 30), (1, .int l1), (2, .int l2), (3, .int l3)] [] V P) {l1 : Int32} {l2 : Int32} {l3 : Int32} {V : sv_V} (h : B_X6_addParts_2 N kb k2 l1 l2 l3 V = some (r, Vr)) : sv_N g qX6_addParts (30 + 2 * D + 1) 2 [(0, .ref 30), (1, .int l1), (2, .int l2), (3, .int l3)] [] V P := by
  unfold B_X6_addParts_2 at h
  refine sx_iload_n (pc := 2) dX6_addParts_2 sx_m3 ?_
  refine sx_aload_n (pc := 3) dX6_addParts_3 sx_m0 ?_
  refine sv_getO (pc := 4) hG dX6_addParts_4 f_6_34 lay_30 rfl cr_30_0 ?_
  refine sv_getA (pc := 7) hG dX6_addParts_7 f_6_111 lay_2 rfl cr_2_16 ?_
  refine sx_iconst (pc := 10) (v := 5) dX6_addParts_10 (by decide) ?_
  obtain ⟨b1, g2, h⟩ := sx_bnd h
  refine sv_aald (pc := 11) hG dX6_addParts_11 (by decide) lay_7 (by decide) g2 ?_
  refine sx_iload_n (pc := 12) dX6_addParts_12 sx_m1 ?_
  obtain ⟨n3, g4, h⟩ := sx_bnd h
  obtain ⟨g5, h⟩ := sx_grd h
  refine sv_iald (pc := 13) hG dX6_addParts_13 (sv_len_e g4) g5 ?_
  refine sx_icmp_ge (pc := 14) (tgt := 100) dX6_addParts_14 (by decide) (fun c6 => ?_) (fun c6 => ?_)
  · have h := sx_pos c6 h
    refine sx_iconst (pc := 100) (v := 1) dX6_addParts_100 (by decide) ?_
    exact sv_zret (pc := 101) dX6_addParts_101 rfl rfl h hP
  · have h := sx_neg c6 h
    refine sx_aload_n (pc := 17) dX6_addParts_17 sx_m0 ?_
    refine sx_dup (pc := 18) dX6_addParts_18 rfl ?_
    refine sv_getI (pc := 19) hG dX6_addParts_19 f_6_101 lay_30 rfl ?_
    refine sx_iconst (pc := 22) (v := 1) dX6_addParts_22 (by decide) ?_
    refine sx_iadd (pc := 23) dX6_addParts_23 ?_
    obtain ⟨V7, hV7⟩ : ∃ z : sv_V, z = sv_I V 30 12 ((V.1 30 12) + (1 : Int32)) := ⟨_, rfl⟩
    have h := sx_letE hV7 h
    refine sv_putI (pc := 24) hG dX6_addParts_24 f_6_101 lay_30 rfl hV7 ?_
    refine sx_aload_n (pc := 27) dX6_addParts_27 sx_m0 ?_
    refine sv_getI (pc := 28) hG dX6_addParts_28 f_6_101 lay_30 rfl ?_
    refine sx_bipush (pc := 31) (v := 60) dX6_addParts_31 (by decide) ?_
    refine sx_icmp_le (pc := 33) (tgt := 47) dX6_addParts_33 (by decide) (fun c8 => ?_) (fun c8 => ?_)
    · have h := sx_pos c8 h
      refine sx_aload_n (pc := 47) dX6_addParts_47 sx_m0 ?_
      refine sv_getO (pc := 48) hG dX6_addParts_48 f_6_38 lay_30 rfl cr_30_1 ?_
      refine sx_iload_n (pc := 51) dX6_addParts_51 sx_m1 ?_
      refine sx_iload_n (pc := 52) dX6_addParts_52 sx_m3 ?_
      obtain ⟨V9, g10, h⟩ := sx_bnd h
      refine sv_cV (pc := 53) (y := qX3_readPart) (o := none) (as := [.int l1, .int l3]) (V1 := V9) hG dX6_addParts_53 l_X6_196 y0X3_readPart yvX3_readPart rfl (Nat.le_of_ble_eq_true rfl) lay_16 kr_3 (by omega) (Nat.le_of_ble_eq_true rfl) rfl rfl rfl (t_X3_readPart hG ⟨rfl, rfl⟩ g10) ?_
      refine sx_aload_n (pc := 56) dX6_addParts_56 sx_m0 ?_
      refine sx_aload_n (pc := 57) dX6_addParts_57 sx_m0 ?_
      refine sv_getO (pc := 58) hG dX6_addParts_58 f_6_38 lay_30 rfl cr_30_1 ?_
      refine sv_getI (pc := 61) hG dX6_addParts_61 f_6_199 lay_16 rfl ?_
      refine sx_iload_n (pc := 64) dX6_addParts_64 sx_m2 ?_
      refine sx_iconst (pc := 65) (v := 1) dX6_addParts_65 (by decide) ?_
      refine sx_iadd (pc := 66) dX6_addParts_66 ?_
      obtain ⟨⟨x13, V11⟩, g12, h⟩ := sx_bnd h
      refine sv_cV (pc := 67) (y := qX6_build) (o := (some (.int x13))) (as := [.int (V9.1 16 8), .int (l2 + (1 : Int32))]) (V1 := V11) hG dX6_addParts_67 l_X6_107 y0X6_build yvX6_build rfl (Nat.le_of_ble_eq_true rfl) lay_30 kr_6 (by omega) (Nat.le_of_ble_eq_true rfl) rfl rfl rfl (hkb _ _ _ _ _ g12 _ ⟨rfl, rfl⟩) ?_
      refine sx_if_ne (pc := 70) (tgt := 75) dX6_addParts_70 (by decide) (fun c14 => ?_) (fun c14 => ?_)
      · have h := sx_neg c14 h
        refine sx_aload_n (pc := 75) dX6_addParts_75 sx_m0 ?_
        refine sv_getO (pc := 76) hG dX6_addParts_76 f_6_38 lay_30 rfl cr_30_1 ?_
        refine sx_iload_n (pc := 79) dX6_addParts_79 sx_m1 ?_
        refine sx_iload_n (pc := 80) dX6_addParts_80 sx_m3 ?_
        obtain ⟨V15, g16, h⟩ := sx_bnd h
        refine sv_cV (pc := 81) (y := qX3_readPart) (o := none) (as := [.int l1, .int l3]) (V1 := V15) hG dX6_addParts_81 l_X6_196 y0X3_readPart yvX3_readPart rfl (Nat.le_of_ble_eq_true rfl) lay_16 kr_3 (by omega) (Nat.le_of_ble_eq_true rfl) rfl rfl rfl (t_X3_readPart hG ⟨rfl, rfl⟩ g16) ?_
        refine sx_aload_n (pc := 84) dX6_addParts_84 sx_m0 ?_
        refine sx_iload_n (pc := 85) dX6_addParts_85 sx_m2 ?_
        obtain ⟨⟨x19, V17⟩, g18, h⟩ := sx_bnd h
        refine sv_cV (pc := 86) (y := qX6_addPart) (o := (some (.int x19))) (as := [.int l2]) (V1 := V17) hG dX6_addParts_86 l_X6_202 y0X6_addPart yvX6_addPart rfl (Nat.le_of_ble_eq_true rfl) lay_30 kr_6 (by omega) (Nat.le_of_ble_eq_true rfl) rfl rfl rfl (t_X6_addPart hG ⟨rfl, rfl⟩ g18) ?_
        refine sx_if_ne (pc := 89) (tgt := 94) dX6_addParts_89 (by decide) (fun c20 => ?_) (fun c20 => ?_)
        · have h := sx_neg c20 h
          obtain ⟨x21, hx21⟩ : ∃ z : Int32, z = l3 + 1 := ⟨_, rfl⟩
          have h := sx_letE hx21 h
          refine sx_iinc (pc := 94) (v := x21) (lo' := [(3, .int x21), (0, .ref 30), (1, .int l1), (2, .int l2)]) dX6_addParts_94 sx_m3 (by rw [hx21]; rfl) (by decide) rfl ?_
          refine sx_goto (pc := 97) (tgt := 2) dX6_addParts_97 (by decide) ?_
          refine sx_wk (sx_s1 sx_m1 (sx_s1 sx_m2 (sx_s1 sx_m3 (sx_s1 sx_m0 sx_s0)))) ?_
          exact hk2 _ _ _ _ h
        · have h := sx_pos c20 h
          refine sx_iconst (pc := 92) (v := 0) dX6_addParts_92 (by decide) ?_
          exact sv_zret (pc := 93) dX6_addParts_93 rfl rfl h hP
      · have h := sx_pos c14 h
        refine sx_iconst (pc := 73) (v := 0) dX6_addParts_73 (by decide) ?_
        exact sv_zret (pc := 74) dX6_addParts_74 rfl rfl h hP
    · have h := sx_neg c8 h
      refine sx_aload_n (pc := 36) dX6_addParts_36 sx_m0 ?_
      refine sv_getO (pc := 37) hG dX6_addParts_37 f_6_47 lay_30 rfl cr_30_2 ?_
      refine sx_bipush (pc := 40) (v := 12) dX6_addParts_40 (by decide) ?_
      obtain ⟨V22, g23, h⟩ := sx_bnd h
      refine sv_cV (pc := 42) (y := qX5_failOutside) (o := none) (as := [.int (12 : Int32)]) (V1 := V22) hG dX6_addParts_42 l_X6_129 y0X5_failOutside yvX5_failOutside rfl (Nat.le_of_ble_eq_true rfl) lay_69 kr_5 (by omega) (Nat.le_of_ble_eq_true rfl) rfl rfl rfl (t_X5_failOutside hG ⟨rfl, rfl⟩ g23) ?_
      refine sx_iconst (pc := 45) (v := 0) dX6_addParts_45 (by decide) ?_
      exact sv_zret (pc := 46) dX6_addParts_46 rfl rfl h hP
theorem tL_X6_addParts_2 {g : sx_G} (hG : sx_Go g) {P : Option Value → sv_V → Prop} {r : Int32} {Vr : sv_V} (hP : P (some (.int r)) Vr) {N : Nat} {D : Nat} {kb : Int32 → Int32 → sv_V → Option (Int32 × sv_V)} (hkb : ∀ (l1 : Int32) (l2 : Int32) (V : sv_V) (r : Int32) (Wr : sv_V), kb l1 l2 V = some (r, Wr) → ∀ P : Option Value → sv_V → Prop, P (some (.int r)) Wr → sv_N g qX6_build (30 + 2 * D) 0 [(0, .ref 30), (1, .int l1), (2, .int l2)] [] V P)   : ∀ (n : Nat) (l1 : Int32) (l2 : Int32) (l3 : Int32) (V : sv_V), sx_lp4 (B_X6_addParts_2 N kb ) n l1 l2 l3 V = some (r, Vr) → sv_N g qX6_addParts (30 + 2 * D + 1) 2 [(0, .ref 30), (1, .int l1), (2, .int l2), (3, .int l3)] [] V P :=
  sx_lp4_ind (fun k0 ih _ _ _ V h => tB_X6_addParts_2 hG hP hkb ih h)
def F_X6_addParts (N : Nat) (kb : Int32 → Int32 → sv_V → Option (Int32 × sv_V)) (l1 : Int32) (l2 : Int32) (V : sv_V) : Option (Int32 × sv_V) := sx_lp4 (B_X6_addParts_2 N kb ) N l1 l2 (0 : Int32) V
set_option maxRecDepth 20000 in
theorem t_X6_addParts {g : sx_G} (hG : sx_Go g) {P : Option Value → sv_V → Prop} {r : Int32} {Vr : sv_V} (hP : P (some (.int r)) Vr) {N : Nat} {D : Nat} {kb : Int32 → Int32 → sv_V → Option (Int32 × sv_V)} (hkb : ∀ (l1 : Int32) (l2 : Int32) (V : sv_V) (r : Int32) (Wr : sv_V), kb l1 l2 V = some (r, Wr) → ∀ P : Option Value → sv_V → Prop, P (some (.int r)) Wr → sv_N g qX6_build (30 + 2 * D) 0 [(0, .ref 30), (1, .int l1), (2, .int l2)] [] V P) {l1 : Int32} {l2 : Int32} {V : sv_V} (h : F_X6_addParts N kb l1 l2 V = some (r, Vr)) : sv_N g qX6_addParts (30 + 2 * D + 1) 0 [(0, .ref 30), (1, .int l1), (2, .int l2)] [] V P := by
  unfold F_X6_addParts at h
  refine sx_iconst (pc := 0) (v := 0) dX6_addParts_0 (by decide) ?_
  refine sx_istore_n (pc := 1) (lo' := [(3, .int (0 : Int32)), (0, .ref 30), (1, .int l1), (2, .int l2)]) dX6_addParts_1 (by decide) rfl ?_
  refine sx_wk (sx_s1 sx_m1 (sx_s1 sx_m2 (sx_s1 sx_m3 (sx_s1 sx_m0 sx_s0)))) ?_
  exact tL_X6_addParts_2 hG hP hkb  N _ _ _ _ h
def ncX12_check : Nat := 436777376676205775631166995393928969568923809025269779962978262478069050661602439423763569165460638333430438175325687775386830010598441450311732940731275763764866483636032352881186752235493484798678003749892981905640834957281073882972794324374760341979704036900217971817614225341095552346343628814360543043051965869545805660093922977208961016008213678783281908534264539511649412978386459461779423802413322332994154869078673255395585516918749851383960411697047476083854321255405204144506848683062622987784009067361415156897384052747439452694429791082655257039196232332829908029070212150247064963038838090246449134264586014108277177270730319980284444378453599476220895223963025507057601720045963943786470276624483711348549310005744027449968297999460012499087484975627195774627932209554844733913272508357608934560273181263329847608668104052963033015099182032519502410549974439973699928310904129575552042907575572259842027330943644630451584279949059102404208645467055436229743725399812718637551017774814920160265320108550315722850826804491104181749676096982420530204016391543976603529531503517754102912615903625420950951228540987914432386724089333712889316768620564763415459370
theorem kcX12_check : CK cX12_check ncX12_check 487 := ⟨by decide +kernel, by decide +kernel⟩
theorem dX12_check_0 : decode cX12_check 0 = .ok (.aload_n 0, 1) := dl_o42 kcX12_check (by decide +kernel)
theorem dX12_check_1 : decode cX12_check 1 = .ok (.invokevirtual 222, 3) := dl_o182 kcX12_check (by decide +kernel)
theorem dX12_check_4 : decode cX12_check 4 = .ok (.ifCond .ne 5, 3) := dl_o154 kcX12_check 5 (by decide +kernel) (by decide +kernel)
theorem dX12_check_7 : decode cX12_check 7 = .ok (.iconst 1, 1) := dl_o4 kcX12_check (by decide +kernel)
theorem dX12_check_8 : decode cX12_check 8 = .ok (.ireturn, 1) := dl_o172 kcX12_check (by decide +kernel)
theorem dX12_check_9 : decode cX12_check 9 = .ok (.iconst 1, 1) := dl_o4 kcX12_check (by decide +kernel)
theorem dX12_check_10 : decode cX12_check 10 = .ok (.istore_n 1, 1) := dl_o60 kcX12_check (by decide +kernel)
theorem dX12_check_11 : decode cX12_check 11 = .ok (.iload_n 1, 1) := dl_o27 kcX12_check (by decide +kernel)
theorem dX12_check_12 : decode cX12_check 12 = .ok (.aload_n 0, 1) := dl_o42 kcX12_check (by decide +kernel)
theorem dX12_check_13 : decode cX12_check 13 = .ok (.getfield 216, 3) := dl_o180 kcX12_check (by decide +kernel)
theorem dX12_check_16 : decode cX12_check 16 = .ok (.if_icmp .ge 39, 3) := dl_o162 kcX12_check 39 (by decide +kernel) (by decide +kernel)
theorem dX12_check_19 : decode cX12_check 19 = .ok (.aload_n 0, 1) := dl_o42 kcX12_check (by decide +kernel)
theorem dX12_check_20 : decode cX12_check 20 = .ok (.getfield 16, 3) := dl_o180 kcX12_check (by decide +kernel)
theorem dX12_check_23 : decode cX12_check 23 = .ok (.iload_n 1, 1) := dl_o27 kcX12_check (by decide +kernel)
theorem dX12_check_24 : decode cX12_check 24 = .ok (.iconst 1, 1) := dl_o4 kcX12_check (by decide +kernel)
theorem dX12_check_25 : decode cX12_check 25 = .ok (.isub, 1) := dl_o100 kcX12_check (by decide +kernel)
theorem dX12_check_26 : decode cX12_check 26 = .ok (.iaload, 1) := dl_o46 kcX12_check (by decide +kernel)
theorem dX12_check_27 : decode cX12_check 27 = .ok (.i2l, 1) := dl_o133 kcX12_check (by decide +kernel)
theorem dX12_check_28 : decode cX12_check 28 = .ok (.ldc2_w 226, 3) := dl_o20 kcX12_check (by decide +kernel)
theorem dX12_check_31 : decode cX12_check 31 = .ok (.land, 1) := dl_o127 kcX12_check (by decide +kernel)
theorem dX12_check_32 : decode cX12_check 32 = .ok (.aload_n 0, 1) := dl_o42 kcX12_check (by decide +kernel)
theorem dX12_check_33 : decode cX12_check 33 = .ok (.getfield 16, 3) := dl_o180 kcX12_check (by decide +kernel)
theorem dX12_check_36 : decode cX12_check 36 = .ok (.iload_n 1, 1) := dl_o27 kcX12_check (by decide +kernel)
theorem dX12_check_37 : decode cX12_check 37 = .ok (.iaload, 1) := dl_o46 kcX12_check (by decide +kernel)
theorem dX12_check_38 : decode cX12_check 38 = .ok (.i2l, 1) := dl_o133 kcX12_check (by decide +kernel)
theorem dX12_check_39 : decode cX12_check 39 = .ok (.ldc2_w 226, 3) := dl_o20 kcX12_check (by decide +kernel)
theorem dX12_check_42 : decode cX12_check 42 = .ok (.land, 1) := dl_o127 kcX12_check (by decide +kernel)
theorem dX12_check_43 : decode cX12_check 43 = .ok (.lcmp, 1) := dl_o148 kcX12_check (by decide +kernel)
theorem dX12_check_44 : decode cX12_check 44 = .ok (.ifCond .lt 5, 3) := dl_o155 kcX12_check 5 (by decide +kernel) (by decide +kernel)
theorem dX12_check_47 : decode cX12_check 47 = .ok (.iconst 2, 1) := dl_o5 kcX12_check (by decide +kernel)
theorem dX12_check_48 : decode cX12_check 48 = .ok (.ireturn, 1) := dl_o172 kcX12_check (by decide +kernel)
theorem dX12_check_49 : decode cX12_check 49 = .ok (.iinc 1 1, 3) := by decide +kernel
theorem dX12_check_52 : decode cX12_check 52 = .ok (.goto (-41), 3) := dl_o167 kcX12_check 65495 (by decide +kernel) (by decide +kernel)
theorem dX12_check_55 : decode cX12_check 55 = .ok (.iconst 0, 1) := dl_o3 kcX12_check (by decide +kernel)
theorem dX12_check_56 : decode cX12_check 56 = .ok (.istore_n 1, 1) := dl_o60 kcX12_check (by decide +kernel)
theorem dX12_check_57 : decode cX12_check 57 = .ok (.iload_n 1, 1) := dl_o27 kcX12_check (by decide +kernel)
theorem dX12_check_58 : decode cX12_check 58 = .ok (.aload_n 0, 1) := dl_o42 kcX12_check (by decide +kernel)
theorem dX12_check_59 : decode cX12_check 59 = .ok (.getfield 216, 3) := dl_o180 kcX12_check (by decide +kernel)
theorem dX12_check_62 : decode cX12_check 62 = .ok (.if_icmp .ge 186, 3) := dl_o162 kcX12_check 186 (by decide +kernel) (by decide +kernel)
theorem dX12_check_65 : decode cX12_check 65 = .ok (.aload_n 0, 1) := dl_o42 kcX12_check (by decide +kernel)
theorem dX12_check_66 : decode cX12_check 66 = .ok (.getfield 24, 3) := dl_o180 kcX12_check (by decide +kernel)
theorem dX12_check_69 : decode cX12_check 69 = .ok (.iload_n 1, 1) := dl_o27 kcX12_check (by decide +kernel)
theorem dX12_check_70 : decode cX12_check 70 = .ok (.laload, 1) := dl_o47 kcX12_check (by decide +kernel)
theorem dX12_check_71 : decode cX12_check 71 = .ok (.ldc2_w 228, 3) := dl_o20 kcX12_check (by decide +kernel)
theorem dX12_check_74 : decode cX12_check 74 = .ok (.lrem, 1) := dl_o113 kcX12_check (by decide +kernel)
theorem dX12_check_75 : decode cX12_check 75 = .ok (.lconst 0, 1) := dl_o9 kcX12_check (by decide +kernel)
theorem dX12_check_76 : decode cX12_check 76 = .ok (.lcmp, 1) := dl_o148 kcX12_check (by decide +kernel)
theorem dX12_check_77 : decode cX12_check 77 = .ok (.ifCond .ne 48, 3) := dl_o154 kcX12_check 48 (by decide +kernel) (by decide +kernel)
theorem dX12_check_80 : decode cX12_check 80 = .ok (.aload_n 0, 1) := dl_o42 kcX12_check (by decide +kernel)
theorem dX12_check_81 : decode cX12_check 81 = .ok (.getfield 24, 3) := dl_o180 kcX12_check (by decide +kernel)
theorem dX12_check_84 : decode cX12_check 84 = .ok (.iload_n 1, 1) := dl_o27 kcX12_check (by decide +kernel)
theorem dX12_check_85 : decode cX12_check 85 = .ok (.laload, 1) := dl_o47 kcX12_check (by decide +kernel)
theorem dX12_check_86 : decode cX12_check 86 = .ok (.ldc2_w 230, 3) := dl_o20 kcX12_check (by decide +kernel)
theorem dX12_check_89 : decode cX12_check 89 = .ok (.ldc2_w 232, 3) := dl_o20 kcX12_check (by decide +kernel)
theorem dX12_check_92 : decode cX12_check 92 = .ok (.aload_n 0, 1) := dl_o42 kcX12_check (by decide +kernel)
theorem dX12_check_93 : decode cX12_check 93 = .ok (.getfield 216, 3) := dl_o180 kcX12_check (by decide +kernel)
theorem dX12_check_96 : decode cX12_check 96 = .ok (.i2l, 1) := dl_o133 kcX12_check (by decide +kernel)
theorem dX12_check_97 : decode cX12_check 97 = .ok (.lmul, 1) := dl_o105 kcX12_check (by decide +kernel)
theorem dX12_check_98 : decode cX12_check 98 = .ok (.ladd, 1) := dl_o97 kcX12_check (by decide +kernel)
theorem dX12_check_99 : decode cX12_check 99 = .ok (.lcmp, 1) := dl_o148 kcX12_check (by decide +kernel)
theorem dX12_check_100 : decode cX12_check 100 = .ok (.ifCond .lt 25, 3) := dl_o155 kcX12_check 25 (by decide +kernel) (by decide +kernel)
theorem dX12_check_103 : decode cX12_check 103 = .ok (.aload_n 0, 1) := dl_o42 kcX12_check (by decide +kernel)
theorem dX12_check_104 : decode cX12_check 104 = .ok (.getfield 24, 3) := dl_o180 kcX12_check (by decide +kernel)
theorem dX12_check_107 : decode cX12_check 107 = .ok (.iload_n 1, 1) := dl_o27 kcX12_check (by decide +kernel)
theorem dX12_check_108 : decode cX12_check 108 = .ok (.laload, 1) := dl_o47 kcX12_check (by decide +kernel)
theorem dX12_check_109 : decode cX12_check 109 = .ok (.aload_n 0, 1) := dl_o42 kcX12_check (by decide +kernel)
theorem dX12_check_110 : decode cX12_check 110 = .ok (.getfield 27, 3) := dl_o180 kcX12_check (by decide +kernel)
theorem dX12_check_113 : decode cX12_check 113 = .ok (.iload_n 1, 1) := dl_o27 kcX12_check (by decide +kernel)
theorem dX12_check_114 : decode cX12_check 114 = .ok (.laload, 1) := dl_o47 kcX12_check (by decide +kernel)
theorem dX12_check_115 : decode cX12_check 115 = .ok (.ladd, 1) := dl_o97 kcX12_check (by decide +kernel)
theorem dX12_check_116 : decode cX12_check 116 = .ok (.aload_n 0, 1) := dl_o42 kcX12_check (by decide +kernel)
theorem dX12_check_117 : decode cX12_check 117 = .ok (.getfield 206, 3) := dl_o180 kcX12_check (by decide +kernel)
theorem dX12_check_120 : decode cX12_check 120 = .ok (.i2l, 1) := dl_o133 kcX12_check (by decide +kernel)
theorem dX12_check_121 : decode cX12_check 121 = .ok (.lcmp, 1) := dl_o148 kcX12_check (by decide +kernel)
theorem dX12_check_122 : decode cX12_check 122 = .ok (.ifCond .le 5, 3) := dl_o158 kcX12_check 5 (by decide +kernel) (by decide +kernel)
theorem dX12_check_125 : decode cX12_check 125 = .ok (.iconst 3, 1) := dl_o6 kcX12_check (by decide +kernel)
theorem dX12_check_126 : decode cX12_check 126 = .ok (.ireturn, 1) := dl_o172 kcX12_check (by decide +kernel)
theorem dX12_check_127 : decode cX12_check 127 = .ok (.iconst 0, 1) := dl_o3 kcX12_check (by decide +kernel)
theorem dX12_check_128 : decode cX12_check 128 = .ok (.istore_n 2, 1) := dl_o61 kcX12_check (by decide +kernel)
theorem dX12_check_129 : decode cX12_check 129 = .ok (.iload_n 2, 1) := dl_o28 kcX12_check (by decide +kernel)
theorem dX12_check_130 : decode cX12_check 130 = .ok (.iload_n 1, 1) := dl_o27 kcX12_check (by decide +kernel)
theorem dX12_check_131 : decode cX12_check 131 = .ok (.if_icmp .ge 111, 3) := dl_o162 kcX12_check 111 (by decide +kernel) (by decide +kernel)
theorem dX12_check_134 : decode cX12_check 134 = .ok (.aload_n 0, 1) := dl_o42 kcX12_check (by decide +kernel)
theorem dX12_check_135 : decode cX12_check 135 = .ok (.getfield 24, 3) := dl_o180 kcX12_check (by decide +kernel)
theorem dX12_check_138 : decode cX12_check 138 = .ok (.iload_n 2, 1) := dl_o28 kcX12_check (by decide +kernel)
theorem dX12_check_139 : decode cX12_check 139 = .ok (.laload, 1) := dl_o47 kcX12_check (by decide +kernel)
theorem dX12_check_140 : decode cX12_check 140 = .ok (.aload_n 0, 1) := dl_o42 kcX12_check (by decide +kernel)
theorem dX12_check_141 : decode cX12_check 141 = .ok (.getfield 24, 3) := dl_o180 kcX12_check (by decide +kernel)
theorem dX12_check_144 : decode cX12_check 144 = .ok (.iload_n 1, 1) := dl_o27 kcX12_check (by decide +kernel)
theorem dX12_check_145 : decode cX12_check 145 = .ok (.laload, 1) := dl_o47 kcX12_check (by decide +kernel)
theorem dX12_check_146 : decode cX12_check 146 = .ok (.lcmp, 1) := dl_o148 kcX12_check (by decide +kernel)
theorem dX12_check_147 : decode cX12_check 147 = .ok (.ifCond .le 12, 3) := dl_o158 kcX12_check 12 (by decide +kernel) (by decide +kernel)
theorem dX12_check_150 : decode cX12_check 150 = .ok (.aload_n 0, 1) := dl_o42 kcX12_check (by decide +kernel)
theorem dX12_check_151 : decode cX12_check 151 = .ok (.getfield 24, 3) := dl_o180 kcX12_check (by decide +kernel)
theorem dX12_check_154 : decode cX12_check 154 = .ok (.iload_n 2, 1) := dl_o28 kcX12_check (by decide +kernel)
theorem dX12_check_155 : decode cX12_check 155 = .ok (.laload, 1) := dl_o47 kcX12_check (by decide +kernel)
theorem dX12_check_156 : decode cX12_check 156 = .ok (.goto 9, 3) := dl_o167 kcX12_check 9 (by decide +kernel) (by decide +kernel)
theorem dX12_check_159 : decode cX12_check 159 = .ok (.aload_n 0, 1) := dl_o42 kcX12_check (by decide +kernel)
theorem dX12_check_160 : decode cX12_check 160 = .ok (.getfield 24, 3) := dl_o180 kcX12_check (by decide +kernel)
theorem dX12_check_163 : decode cX12_check 163 = .ok (.iload_n 1, 1) := dl_o27 kcX12_check (by decide +kernel)
theorem dX12_check_164 : decode cX12_check 164 = .ok (.laload, 1) := dl_o47 kcX12_check (by decide +kernel)
theorem dX12_check_165 : decode cX12_check 165 = .ok (.lstore_n 3, 1) := dl_o66 kcX12_check (by decide +kernel)
theorem dX12_check_166 : decode cX12_check 166 = .ok (.aload_n 0, 1) := dl_o42 kcX12_check (by decide +kernel)
theorem dX12_check_167 : decode cX12_check 167 = .ok (.getfield 24, 3) := dl_o180 kcX12_check (by decide +kernel)
theorem dX12_check_170 : decode cX12_check 170 = .ok (.iload_n 2, 1) := dl_o28 kcX12_check (by decide +kernel)
theorem dX12_check_171 : decode cX12_check 171 = .ok (.laload, 1) := dl_o47 kcX12_check (by decide +kernel)
theorem dX12_check_172 : decode cX12_check 172 = .ok (.aload_n 0, 1) := dl_o42 kcX12_check (by decide +kernel)
theorem dX12_check_173 : decode cX12_check 173 = .ok (.getfield 27, 3) := dl_o180 kcX12_check (by decide +kernel)
theorem dX12_check_176 : decode cX12_check 176 = .ok (.iload_n 2, 1) := dl_o28 kcX12_check (by decide +kernel)
theorem dX12_check_177 : decode cX12_check 177 = .ok (.laload, 1) := dl_o47 kcX12_check (by decide +kernel)
theorem dX12_check_178 : decode cX12_check 178 = .ok (.ladd, 1) := dl_o97 kcX12_check (by decide +kernel)
theorem dX12_check_179 : decode cX12_check 179 = .ok (.aload_n 0, 1) := dl_o42 kcX12_check (by decide +kernel)
theorem dX12_check_180 : decode cX12_check 180 = .ok (.getfield 24, 3) := dl_o180 kcX12_check (by decide +kernel)
theorem dX12_check_183 : decode cX12_check 183 = .ok (.iload_n 1, 1) := dl_o27 kcX12_check (by decide +kernel)
theorem dX12_check_184 : decode cX12_check 184 = .ok (.laload, 1) := dl_o47 kcX12_check (by decide +kernel)
theorem dX12_check_185 : decode cX12_check 185 = .ok (.aload_n 0, 1) := dl_o42 kcX12_check (by decide +kernel)
theorem dX12_check_186 : decode cX12_check 186 = .ok (.getfield 27, 3) := dl_o180 kcX12_check (by decide +kernel)
theorem dX12_check_189 : decode cX12_check 189 = .ok (.iload_n 1, 1) := dl_o27 kcX12_check (by decide +kernel)
theorem dX12_check_190 : decode cX12_check 190 = .ok (.laload, 1) := dl_o47 kcX12_check (by decide +kernel)
theorem dX12_check_191 : decode cX12_check 191 = .ok (.ladd, 1) := dl_o97 kcX12_check (by decide +kernel)
theorem dX12_check_192 : decode cX12_check 192 = .ok (.lcmp, 1) := dl_o148 kcX12_check (by decide +kernel)
theorem dX12_check_193 : decode cX12_check 193 = .ok (.ifCond .ge 19, 3) := dl_o156 kcX12_check 19 (by decide +kernel) (by decide +kernel)
theorem dX12_check_196 : decode cX12_check 196 = .ok (.aload_n 0, 1) := dl_o42 kcX12_check (by decide +kernel)
theorem dX12_check_197 : decode cX12_check 197 = .ok (.getfield 24, 3) := dl_o180 kcX12_check (by decide +kernel)
theorem dX12_check_200 : decode cX12_check 200 = .ok (.iload_n 2, 1) := dl_o28 kcX12_check (by decide +kernel)
theorem dX12_check_201 : decode cX12_check 201 = .ok (.laload, 1) := dl_o47 kcX12_check (by decide +kernel)
theorem dX12_check_202 : decode cX12_check 202 = .ok (.aload_n 0, 1) := dl_o42 kcX12_check (by decide +kernel)
theorem dX12_check_203 : decode cX12_check 203 = .ok (.getfield 27, 3) := dl_o180 kcX12_check (by decide +kernel)
theorem dX12_check_206 : decode cX12_check 206 = .ok (.iload_n 2, 1) := dl_o28 kcX12_check (by decide +kernel)
theorem dX12_check_207 : decode cX12_check 207 = .ok (.laload, 1) := dl_o47 kcX12_check (by decide +kernel)
theorem dX12_check_208 : decode cX12_check 208 = .ok (.ladd, 1) := dl_o97 kcX12_check (by decide +kernel)
theorem dX12_check_209 : decode cX12_check 209 = .ok (.goto 16, 3) := dl_o167 kcX12_check 16 (by decide +kernel) (by decide +kernel)
theorem dX12_check_212 : decode cX12_check 212 = .ok (.aload_n 0, 1) := dl_o42 kcX12_check (by decide +kernel)
theorem dX12_check_213 : decode cX12_check 213 = .ok (.getfield 24, 3) := dl_o180 kcX12_check (by decide +kernel)
theorem dX12_check_216 : decode cX12_check 216 = .ok (.iload_n 1, 1) := dl_o27 kcX12_check (by decide +kernel)
theorem dX12_check_217 : decode cX12_check 217 = .ok (.laload, 1) := dl_o47 kcX12_check (by decide +kernel)
theorem dX12_check_218 : decode cX12_check 218 = .ok (.aload_n 0, 1) := dl_o42 kcX12_check (by decide +kernel)
theorem dX12_check_219 : decode cX12_check 219 = .ok (.getfield 27, 3) := dl_o180 kcX12_check (by decide +kernel)
theorem dX12_check_222 : decode cX12_check 222 = .ok (.iload_n 1, 1) := dl_o27 kcX12_check (by decide +kernel)
theorem dX12_check_223 : decode cX12_check 223 = .ok (.laload, 1) := dl_o47 kcX12_check (by decide +kernel)
theorem dX12_check_224 : decode cX12_check 224 = .ok (.ladd, 1) := dl_o97 kcX12_check (by decide +kernel)
theorem dX12_check_225 : decode cX12_check 225 = .ok (.lstore 5, 2) := dl_o55 kcX12_check (by decide +kernel)
theorem dX12_check_227 : decode cX12_check 227 = .ok (.lload_n 3, 1) := dl_o33 kcX12_check (by decide +kernel)
theorem dX12_check_228 : decode cX12_check 228 = .ok (.lload 5, 2) := dl_o22 kcX12_check (by decide +kernel)
theorem dX12_check_230 : decode cX12_check 230 = .ok (.lcmp, 1) := dl_o148 kcX12_check (by decide +kernel)
theorem dX12_check_231 : decode cX12_check 231 = .ok (.ifCond .ge 5, 3) := dl_o156 kcX12_check 5 (by decide +kernel) (by decide +kernel)
theorem dX12_check_234 : decode cX12_check 234 = .ok (.iconst 3, 1) := dl_o6 kcX12_check (by decide +kernel)
theorem dX12_check_235 : decode cX12_check 235 = .ok (.ireturn, 1) := dl_o172 kcX12_check (by decide +kernel)
theorem dX12_check_236 : decode cX12_check 236 = .ok (.iinc 2 1, 3) := by decide +kernel
theorem dX12_check_239 : decode cX12_check 239 = .ok (.goto (-110), 3) := dl_o167 kcX12_check 65426 (by decide +kernel) (by decide +kernel)
theorem dX12_check_242 : decode cX12_check 242 = .ok (.iinc 1 1, 3) := by decide +kernel
theorem dX12_check_245 : decode cX12_check 245 = .ok (.goto (-188), 3) := dl_o167 kcX12_check 65348 (by decide +kernel) (by decide +kernel)
theorem dX12_check_248 : decode cX12_check 248 = .ok (.iconst 0, 1) := dl_o3 kcX12_check (by decide +kernel)
theorem dX12_check_249 : decode cX12_check 249 = .ok (.istore_n 1, 1) := dl_o60 kcX12_check (by decide +kernel)
theorem dX12_check_250 : decode cX12_check 250 = .ok (.iload_n 1, 1) := dl_o27 kcX12_check (by decide +kernel)
theorem dX12_check_251 : decode cX12_check 251 = .ok (.aload_n 0, 1) := dl_o42 kcX12_check (by decide +kernel)
theorem dX12_check_252 : decode cX12_check 252 = .ok (.getfield 216, 3) := dl_o180 kcX12_check (by decide +kernel)
theorem dX12_check_255 : decode cX12_check 255 = .ok (.if_icmp .ge 62, 3) := dl_o162 kcX12_check 62 (by decide +kernel) (by decide +kernel)
theorem dX12_check_258 : decode cX12_check 258 = .ok (.aload_n 0, 1) := dl_o42 kcX12_check (by decide +kernel)
theorem dX12_check_259 : decode cX12_check 259 = .ok (.getfield 24, 3) := dl_o180 kcX12_check (by decide +kernel)
theorem dX12_check_262 : decode cX12_check 262 = .ok (.iload_n 1, 1) := dl_o27 kcX12_check (by decide +kernel)
theorem dX12_check_263 : decode cX12_check 263 = .ok (.laload, 1) := dl_o47 kcX12_check (by decide +kernel)
theorem dX12_check_264 : decode cX12_check 264 = .ok (.l2i, 1) := dl_o136 kcX12_check (by decide +kernel)
theorem dX12_check_265 : decode cX12_check 265 = .ok (.istore_n 2, 1) := dl_o61 kcX12_check (by decide +kernel)
theorem dX12_check_266 : decode cX12_check 266 = .ok (.aload_n 0, 1) := dl_o42 kcX12_check (by decide +kernel)
theorem dX12_check_267 : decode cX12_check 267 = .ok (.iload_n 2, 1) := dl_o28 kcX12_check (by decide +kernel)
theorem dX12_check_268 : decode cX12_check 268 = .ok (.iload_n 2, 1) := dl_o28 kcX12_check (by decide +kernel)
theorem dX12_check_269 : decode cX12_check 269 = .ok (.aload_n 0, 1) := dl_o42 kcX12_check (by decide +kernel)
theorem dX12_check_270 : decode cX12_check 270 = .ok (.getfield 27, 3) := dl_o180 kcX12_check (by decide +kernel)
theorem dX12_check_273 : decode cX12_check 273 = .ok (.iload_n 1, 1) := dl_o27 kcX12_check (by decide +kernel)
theorem dX12_check_274 : decode cX12_check 274 = .ok (.laload, 1) := dl_o47 kcX12_check (by decide +kernel)
theorem dX12_check_275 : decode cX12_check 275 = .ok (.l2i, 1) := dl_o136 kcX12_check (by decide +kernel)
theorem dX12_check_276 : decode cX12_check 276 = .ok (.iadd, 1) := dl_o96 kcX12_check (by decide +kernel)
theorem dX12_check_277 : decode cX12_check 277 = .ok (.aload_n 0, 1) := dl_o42 kcX12_check (by decide +kernel)
theorem dX12_check_278 : decode cX12_check 278 = .ok (.getfield 16, 3) := dl_o180 kcX12_check (by decide +kernel)
theorem dX12_check_281 : decode cX12_check 281 = .ok (.iload_n 1, 1) := dl_o27 kcX12_check (by decide +kernel)
theorem dX12_check_282 : decode cX12_check 282 = .ok (.iaload, 1) := dl_o46 kcX12_check (by decide +kernel)
theorem dX12_check_283 : decode cX12_check 283 = .ok (.ldc 234, 2) := dl_o18 kcX12_check (by decide +kernel)
theorem dX12_check_285 : decode cX12_check 285 = .ok (.if_icmp .ne 10, 3) := dl_o160 kcX12_check 10 (by decide +kernel) (by decide +kernel)
theorem dX12_check_288 : decode cX12_check 288 = .ok (.iload_n 2, 1) := dl_o28 kcX12_check (by decide +kernel)
theorem dX12_check_289 : decode cX12_check 289 = .ok (.bipush 8, 2) := dl_o16 kcX12_check 8 (by decide +kernel) (by decide +kernel)
theorem dX12_check_291 : decode cX12_check 291 = .ok (.iadd, 1) := dl_o96 kcX12_check (by decide +kernel)
theorem dX12_check_292 : decode cX12_check 292 = .ok (.goto 4, 3) := dl_o167 kcX12_check 4 (by decide +kernel) (by decide +kernel)
theorem dX12_check_295 : decode cX12_check 295 = .ok (.iconst (-1), 1) := dl_o2 kcX12_check (by decide +kernel)
theorem dX12_check_296 : decode cX12_check 296 = .ok (.invokevirtual 235, 3) := dl_o182 kcX12_check (by decide +kernel)
theorem dX12_check_299 : decode cX12_check 299 = .ok (.aload_n 0, 1) := dl_o42 kcX12_check (by decide +kernel)
theorem dX12_check_300 : decode cX12_check 300 = .ok (.getfield 20, 3) := dl_o180 kcX12_check (by decide +kernel)
theorem dX12_check_303 : decode cX12_check 303 = .ok (.iload_n 1, 1) := dl_o27 kcX12_check (by decide +kernel)
theorem dX12_check_304 : decode cX12_check 304 = .ok (.laload, 1) := dl_o47 kcX12_check (by decide +kernel)
theorem dX12_check_305 : decode cX12_check 305 = .ok (.l2i, 1) := dl_o136 kcX12_check (by decide +kernel)
theorem dX12_check_306 : decode cX12_check 306 = .ok (.if_icmp .eq 5, 3) := dl_o159 kcX12_check 5 (by decide +kernel) (by decide +kernel)
theorem dX12_check_309 : decode cX12_check 309 = .ok (.iconst 4, 1) := dl_o7 kcX12_check (by decide +kernel)
theorem dX12_check_310 : decode cX12_check 310 = .ok (.ireturn, 1) := dl_o172 kcX12_check (by decide +kernel)
theorem dX12_check_311 : decode cX12_check 311 = .ok (.iinc 1 1, 3) := by decide +kernel
theorem dX12_check_314 : decode cX12_check 314 = .ok (.goto (-64), 3) := dl_o167 kcX12_check 65472 (by decide +kernel) (by decide +kernel)
theorem dX12_check_317 : decode cX12_check 317 = .ok (.aload_n 0, 1) := dl_o42 kcX12_check (by decide +kernel)
theorem dX12_check_318 : decode cX12_check 318 = .ok (.ldc 239, 2) := dl_o18 kcX12_check (by decide +kernel)
theorem dX12_check_320 : decode cX12_check 320 = .ok (.invokevirtual 219, 3) := dl_o182 kcX12_check (by decide +kernel)
theorem dX12_check_323 : decode cX12_check 323 = .ok (.ifCond .lt 57, 3) := dl_o155 kcX12_check 57 (by decide +kernel) (by decide +kernel)
theorem dX12_check_326 : decode cX12_check 326 = .ok (.aload_n 0, 1) := dl_o42 kcX12_check (by decide +kernel)
theorem dX12_check_327 : decode cX12_check 327 = .ok (.ldc 240, 2) := dl_o18 kcX12_check (by decide +kernel)
theorem dX12_check_329 : decode cX12_check 329 = .ok (.invokevirtual 219, 3) := dl_o182 kcX12_check (by decide +kernel)
theorem dX12_check_332 : decode cX12_check 332 = .ok (.ifCond .lt 48, 3) := dl_o155 kcX12_check 48 (by decide +kernel) (by decide +kernel)
theorem dX12_check_335 : decode cX12_check 335 = .ok (.aload_n 0, 1) := dl_o42 kcX12_check (by decide +kernel)
theorem dX12_check_336 : decode cX12_check 336 = .ok (.ldc 234, 2) := dl_o18 kcX12_check (by decide +kernel)
theorem dX12_check_338 : decode cX12_check 338 = .ok (.invokevirtual 219, 3) := dl_o182 kcX12_check (by decide +kernel)
theorem dX12_check_341 : decode cX12_check 341 = .ok (.ifCond .lt 39, 3) := dl_o155 kcX12_check 39 (by decide +kernel) (by decide +kernel)
theorem dX12_check_344 : decode cX12_check 344 = .ok (.aload_n 0, 1) := dl_o42 kcX12_check (by decide +kernel)
theorem dX12_check_345 : decode cX12_check 345 = .ok (.ldc 241, 2) := dl_o18 kcX12_check (by decide +kernel)
theorem dX12_check_347 : decode cX12_check 347 = .ok (.invokevirtual 219, 3) := dl_o182 kcX12_check (by decide +kernel)
theorem dX12_check_350 : decode cX12_check 350 = .ok (.ifCond .lt 30, 3) := dl_o155 kcX12_check 30 (by decide +kernel) (by decide +kernel)
theorem dX12_check_353 : decode cX12_check 353 = .ok (.aload_n 0, 1) := dl_o42 kcX12_check (by decide +kernel)
theorem dX12_check_354 : decode cX12_check 354 = .ok (.ldc 242, 2) := dl_o18 kcX12_check (by decide +kernel)
theorem dX12_check_356 : decode cX12_check 356 = .ok (.invokevirtual 219, 3) := dl_o182 kcX12_check (by decide +kernel)
theorem dX12_check_359 : decode cX12_check 359 = .ok (.ifCond .lt 21, 3) := dl_o155 kcX12_check 21 (by decide +kernel) (by decide +kernel)
theorem dX12_check_362 : decode cX12_check 362 = .ok (.aload_n 0, 1) := dl_o42 kcX12_check (by decide +kernel)
theorem dX12_check_363 : decode cX12_check 363 = .ok (.ldc 243, 2) := dl_o18 kcX12_check (by decide +kernel)
theorem dX12_check_365 : decode cX12_check 365 = .ok (.invokevirtual 219, 3) := dl_o182 kcX12_check (by decide +kernel)
theorem dX12_check_368 : decode cX12_check 368 = .ok (.ifCond .lt 12, 3) := dl_o155 kcX12_check 12 (by decide +kernel) (by decide +kernel)
theorem dX12_check_371 : decode cX12_check 371 = .ok (.aload_n 0, 1) := dl_o42 kcX12_check (by decide +kernel)
theorem dX12_check_372 : decode cX12_check 372 = .ok (.ldc 244, 2) := dl_o18 kcX12_check (by decide +kernel)
theorem dX12_check_374 : decode cX12_check 374 = .ok (.invokevirtual 219, 3) := dl_o182 kcX12_check (by decide +kernel)
theorem dX12_check_377 : decode cX12_check 377 = .ok (.ifCond .ge 5, 3) := dl_o156 kcX12_check 5 (by decide +kernel) (by decide +kernel)
theorem dX12_check_380 : decode cX12_check 380 = .ok (.iconst 5, 1) := dl_o8 kcX12_check (by decide +kernel)
theorem dX12_check_381 : decode cX12_check 381 = .ok (.ireturn, 1) := dl_o172 kcX12_check (by decide +kernel)
theorem dX12_check_382 : decode cX12_check 382 = .ok (.aload_n 0, 1) := dl_o42 kcX12_check (by decide +kernel)
theorem dX12_check_383 : decode cX12_check 383 = .ok (.invokevirtual 245, 3) := dl_o182 kcX12_check (by decide +kernel)
theorem dX12_check_386 : decode cX12_check 386 = .ok (.ifCond .ne 6, 3) := dl_o154 kcX12_check 6 (by decide +kernel) (by decide +kernel)
theorem dX12_check_389 : decode cX12_check 389 = .ok (.bipush 6, 2) := dl_o16 kcX12_check 6 (by decide +kernel) (by decide +kernel)
theorem dX12_check_391 : decode cX12_check 391 = .ok (.ireturn, 1) := dl_o172 kcX12_check (by decide +kernel)
theorem dX12_check_392 : decode cX12_check 392 = .ok (.aload_n 0, 1) := dl_o42 kcX12_check (by decide +kernel)
theorem dX12_check_393 : decode cX12_check 393 = .ok (.invokevirtual 248, 3) := dl_o182 kcX12_check (by decide +kernel)
theorem dX12_check_396 : decode cX12_check 396 = .ok (.ifCond .ne 6, 3) := dl_o154 kcX12_check 6 (by decide +kernel) (by decide +kernel)
theorem dX12_check_399 : decode cX12_check 399 = .ok (.bipush 7, 2) := dl_o16 kcX12_check 7 (by decide +kernel) (by decide +kernel)
theorem dX12_check_401 : decode cX12_check 401 = .ok (.ireturn, 1) := dl_o172 kcX12_check (by decide +kernel)
theorem dX12_check_402 : decode cX12_check 402 = .ok (.aload_n 0, 1) := dl_o42 kcX12_check (by decide +kernel)
theorem dX12_check_403 : decode cX12_check 403 = .ok (.ldc 241, 2) := dl_o18 kcX12_check (by decide +kernel)
theorem dX12_check_405 : decode cX12_check 405 = .ok (.invokevirtual 251, 3) := dl_o182 kcX12_check (by decide +kernel)
theorem dX12_check_408 : decode cX12_check 408 = .ok (.istore_n 1, 1) := dl_o60 kcX12_check (by decide +kernel)
theorem dX12_check_409 : decode cX12_check 409 = .ok (.aload_n 0, 1) := dl_o42 kcX12_check (by decide +kernel)
theorem dX12_check_410 : decode cX12_check 410 = .ok (.aload_n 0, 1) := dl_o42 kcX12_check (by decide +kernel)
theorem dX12_check_411 : decode cX12_check 411 = .ok (.iload_n 1, 1) := dl_o27 kcX12_check (by decide +kernel)
theorem dX12_check_412 : decode cX12_check 412 = .ok (.bipush 34, 2) := dl_o16 kcX12_check 34 (by decide +kernel) (by decide +kernel)
theorem dX12_check_414 : decode cX12_check 414 = .ok (.iadd, 1) := dl_o96 kcX12_check (by decide +kernel)
theorem dX12_check_415 : decode cX12_check 415 = .ok (.invokevirtual 213, 3) := dl_o182 kcX12_check (by decide +kernel)
theorem dX12_check_418 : decode cX12_check 418 = .ok (.putfield 254, 3) := dl_o181 kcX12_check (by decide +kernel)
theorem dX12_check_421 : decode cX12_check 421 = .ok (.aload_n 0, 1) := dl_o42 kcX12_check (by decide +kernel)
theorem dX12_check_422 : decode cX12_check 422 = .ok (.ldc 241, 2) := dl_o18 kcX12_check (by decide +kernel)
theorem dX12_check_424 : decode cX12_check 424 = .ok (.invokevirtual 257, 3) := dl_o182 kcX12_check (by decide +kernel)
theorem dX12_check_427 : decode cX12_check 427 = .ok (.bipush 36, 2) := dl_o16 kcX12_check 36 (by decide +kernel) (by decide +kernel)
theorem dX12_check_429 : decode cX12_check 429 = .ok (.if_icmp .ne 20, 3) := dl_o160 kcX12_check 20 (by decide +kernel) (by decide +kernel)
theorem dX12_check_432 : decode cX12_check 432 = .ok (.aload_n 0, 1) := dl_o42 kcX12_check (by decide +kernel)
theorem dX12_check_433 : decode cX12_check 433 = .ok (.getfield 254, 3) := dl_o180 kcX12_check (by decide +kernel)
theorem dX12_check_436 : decode cX12_check 436 = .ok (.i2l, 1) := dl_o133 kcX12_check (by decide +kernel)
theorem dX12_check_437 : decode cX12_check 437 = .ok (.lconst 1, 1) := dl_o10 kcX12_check (by decide +kernel)
theorem dX12_check_438 : decode cX12_check 438 = .ok (.aload_n 0, 1) := dl_o42 kcX12_check (by decide +kernel)
theorem dX12_check_439 : decode cX12_check 439 = .ok (.getfield 260, 3) := dl_o180 kcX12_check (by decide +kernel)
theorem dX12_check_442 : decode cX12_check 442 = .ok (.i2l, 1) := dl_o133 kcX12_check (by decide +kernel)
theorem dX12_check_443 : decode cX12_check 443 = .ok (.invokestatic 263, 3) := dl_o184 kcX12_check (by decide +kernel)
theorem dX12_check_446 : decode cX12_check 446 = .ok (.ifCond .ne 6, 3) := dl_o154 kcX12_check 6 (by decide +kernel) (by decide +kernel)
theorem dX12_check_449 : decode cX12_check 449 = .ok (.bipush 8, 2) := dl_o16 kcX12_check 8 (by decide +kernel) (by decide +kernel)
theorem dX12_check_451 : decode cX12_check 451 = .ok (.ireturn, 1) := dl_o172 kcX12_check (by decide +kernel)
theorem dX12_check_452 : decode cX12_check 452 = .ok (.aload_n 0, 1) := dl_o42 kcX12_check (by decide +kernel)
theorem dX12_check_453 : decode cX12_check 453 = .ok (.ldc 242, 2) := dl_o18 kcX12_check (by decide +kernel)
theorem dX12_check_455 : decode cX12_check 455 = .ok (.invokevirtual 257, 3) := dl_o182 kcX12_check (by decide +kernel)
theorem dX12_check_458 : decode cX12_check 458 = .ok (.iconst 4, 1) := dl_o7 kcX12_check (by decide +kernel)
theorem dX12_check_459 : decode cX12_check 459 = .ok (.aload_n 0, 1) := dl_o42 kcX12_check (by decide +kernel)
theorem dX12_check_460 : decode cX12_check 460 = .ok (.getfield 254, 3) := dl_o180 kcX12_check (by decide +kernel)
theorem dX12_check_463 : decode cX12_check 463 = .ok (.imul, 1) := dl_o104 kcX12_check (by decide +kernel)
theorem dX12_check_464 : decode cX12_check 464 = .ok (.iconst 2, 1) := dl_o5 kcX12_check (by decide +kernel)
theorem dX12_check_465 : decode cX12_check 465 = .ok (.aload_n 0, 1) := dl_o42 kcX12_check (by decide +kernel)
theorem dX12_check_466 : decode cX12_check 466 = .ok (.getfield 260, 3) := dl_o180 kcX12_check (by decide +kernel)
theorem dX12_check_469 : decode cX12_check 469 = .ok (.aload_n 0, 1) := dl_o42 kcX12_check (by decide +kernel)
theorem dX12_check_470 : decode cX12_check 470 = .ok (.getfield 254, 3) := dl_o180 kcX12_check (by decide +kernel)
theorem dX12_check_473 : decode cX12_check 473 = .ok (.isub, 1) := dl_o100 kcX12_check (by decide +kernel)
theorem dX12_check_474 : decode cX12_check 474 = .ok (.imul, 1) := dl_o104 kcX12_check (by decide +kernel)
theorem dX12_check_475 : decode cX12_check 475 = .ok (.iadd, 1) := dl_o96 kcX12_check (by decide +kernel)
theorem dX12_check_476 : decode cX12_check 476 = .ok (.if_icmp .ge 6, 3) := dl_o162 kcX12_check 6 (by decide +kernel) (by decide +kernel)
theorem dX12_check_479 : decode cX12_check 479 = .ok (.bipush 9, 2) := dl_o16 kcX12_check 9 (by decide +kernel) (by decide +kernel)
theorem dX12_check_481 : decode cX12_check 481 = .ok (.ireturn, 1) := dl_o172 kcX12_check (by decide +kernel)
theorem dX12_check_482 : decode cX12_check 482 = .ok (.aload_n 0, 1) := dl_o42 kcX12_check (by decide +kernel)
theorem dX12_check_483 : decode cX12_check 483 = .ok (.invokevirtual 267, 3) := dl_o182 kcX12_check (by decide +kernel)
theorem dX12_check_486 : decode cX12_check 486 = .ok (.ireturn, 1) := dl_o172 kcX12_check (by decide +kernel)
def B_X12_check_225 (N : Nat) (k57 : Int32 → sv_V → Option (Int32 × sv_V)) (k129 : Int32 → Int32 → sv_V → Option (Int32 × sv_V)) (l1 : Int32) (l2 : Int32) (l3 : Int64) (s0 : Int64) (V : sv_V) : Option (Int32 × sv_V) := if 0 ≤ (lg_cmp l3 s0) then (sx_let (l2 + 1) (fun x2 => k129 l1 x2 V)) else (some ((3 : Int32), V))
set_option maxRecDepth 20000 in
theorem tB_X12_check_225 {g : sx_G} (hG : sx_Go g) {P : Option Value → sv_V → Prop} {r : Int32} {Vr : sv_V} (hP : P (some (.int r)) Vr) {N : Nat} {k57 : Int32 → sv_V → Option (Int32 × sv_V)} {k129 : Int32 → Int32 → sv_V → Option (Int32 × sv_V)} (hk57 : ∀ (l1 : Int32) (V : sv_V), k57 l1 V = some (r, Vr) → sv_N g qX12_check 8 57 [(0, .ref 146), (1, .int l1)] [] V P) (hk129 : ∀ (l1 : Int32) (l2 : Int32) (V : sv_V), k129 l1 l2 V = some (r, Vr) → sv_N g qX12_check 8 129 [(0, .ref 146), (1, .int l1), (2, .int l2)] [] V P) {l1 : Int32} {l2 : Int32} {l3 : Int64} {s0 : Int64} {V : sv_V} (h : B_X12_check_225 N k57 k129 l1 l2 l3 s0 V = some (r, Vr)) : sv_N g qX12_check 8 225 [(0, .ref 146), (1, .int l1), (2, .int l2), (3, .long l3)] [.long s0] V P := by
  unfold B_X12_check_225 at h
  refine sx_lstore (pc := 225) (lo' := [(5, .long s0), (0, .ref 146), (1, .int l1), (2, .int l2), (3, .long l3)]) dX12_check_225 (by decide) rfl ?_
  refine sx_lload_n (pc := 227) dX12_check_227 sx_m4 ?_
  refine sx_lload (pc := 228) dX12_check_228 sx_m0 ?_
  refine sx_lcmp (pc := 230) dX12_check_230 ?_
  refine sx_if_ge (pc := 231) (tgt := 236) dX12_check_231 (by decide) (fun c1 => ?_) (fun c1 => ?_)
  · have h := sx_pos c1 h
    obtain ⟨x2, hx2⟩ : ∃ z : Int32, z = l2 + 1 := ⟨_, rfl⟩
    have h := sx_letE hx2 h
    refine sx_iinc (pc := 236) (v := x2) (lo' := [(2, .int x2), (5, .long s0), (0, .ref 146), (1, .int l1), (3, .long l3)]) dX12_check_236 sx_m3 (by rw [hx2]; rfl) (by decide) rfl ?_
    refine sx_goto (pc := 239) (tgt := 129) dX12_check_239 (by decide) ?_
    refine sx_wk (sx_s1 sx_m2 (sx_s1 sx_m3 (sx_s1 sx_m0 sx_s0))) ?_
    exact hk129 _ _ _ h
  · have h := sx_neg c1 h
    refine sx_iconst (pc := 234) (v := 3) dX12_check_234 (by decide) ?_
    exact sv_iret (pc := 235) dX12_check_235 rfl h hP
def B_X12_check_165 (N : Nat) (k57 : Int32 → sv_V → Option (Int32 × sv_V)) (k129 : Int32 → Int32 → sv_V → Option (Int32 × sv_V)) (l1 : Int32) (l2 : Int32) (s0 : Int64) (V : sv_V) : Option (Int32 × sv_V) := if sx_in l2 16 = true then if sx_in l2 16 = true then if sx_in l1 16 = true then if sx_in l1 16 = true then if 0 ≤ (lg_cmp ((V.2.1 151 l2.toNatClampNeg) + (V.2.1 152 l2.toNatClampNeg)) ((V.2.1 151 l1.toNatClampNeg) + (V.2.1 152 l1.toNatClampNeg))) then (if sx_in l1 16 = true then if sx_in l1 16 = true then B_X12_check_225 N k57 k129 l1 l2 s0 ((V.2.1 151 l1.toNatClampNeg) + (V.2.1 152 l1.toNatClampNeg)) V else none else none) else (if sx_in l2 16 = true then if sx_in l2 16 = true then B_X12_check_225 N k57 k129 l1 l2 s0 ((V.2.1 151 l2.toNatClampNeg) + (V.2.1 152 l2.toNatClampNeg)) V else none else none) else none else none else none else none
set_option maxRecDepth 20000 in
theorem tB_X12_check_165 {g : sx_G} (hG : sx_Go g) {P : Option Value → sv_V → Prop} {r : Int32} {Vr : sv_V} (hP : P (some (.int r)) Vr) {N : Nat} {k57 : Int32 → sv_V → Option (Int32 × sv_V)} {k129 : Int32 → Int32 → sv_V → Option (Int32 × sv_V)} (hk57 : ∀ (l1 : Int32) (V : sv_V), k57 l1 V = some (r, Vr) → sv_N g qX12_check 8 57 [(0, .ref 146), (1, .int l1)] [] V P) (hk129 : ∀ (l1 : Int32) (l2 : Int32) (V : sv_V), k129 l1 l2 V = some (r, Vr) → sv_N g qX12_check 8 129 [(0, .ref 146), (1, .int l1), (2, .int l2)] [] V P) {l1 : Int32} {l2 : Int32} {s0 : Int64} {V : sv_V} (h : B_X12_check_165 N k57 k129 l1 l2 s0 V = some (r, Vr)) : sv_N g qX12_check 8 165 [(0, .ref 146), (1, .int l1), (2, .int l2)] [.long s0] V P := by
  unfold B_X12_check_165 at h
  refine sx_lstore_n (pc := 165) (lo' := [(3, .long s0), (0, .ref 146), (1, .int l1), (2, .int l2)]) dX12_check_165 (by decide) rfl ?_
  refine sx_aload_n (pc := 166) dX12_check_166 sx_m1 ?_
  refine sv_getA (pc := 167) hG dX12_check_167 f_12_24 lay_146 rfl cr_146_8 ?_
  refine sx_iload_n (pc := 170) dX12_check_170 sx_m3 ?_
  obtain ⟨g3, h⟩ := sx_grd h
  refine sv_lald (pc := 171) hG dX12_check_171 lay_151 g3 ?_
  refine sx_aload_n (pc := 172) dX12_check_172 sx_m1 ?_
  refine sv_getA (pc := 173) hG dX12_check_173 f_12_27 lay_146 rfl cr_146_9 ?_
  refine sx_iload_n (pc := 176) dX12_check_176 sx_m3 ?_
  obtain ⟨g4, h⟩ := sx_grd h
  refine sv_lald (pc := 177) hG dX12_check_177 lay_152 g4 ?_
  refine sx_ladd (pc := 178) dX12_check_178 ?_
  refine sx_aload_n (pc := 179) dX12_check_179 sx_m1 ?_
  refine sv_getA (pc := 180) hG dX12_check_180 f_12_24 lay_146 rfl cr_146_8 ?_
  refine sx_iload_n (pc := 183) dX12_check_183 sx_m2 ?_
  obtain ⟨g5, h⟩ := sx_grd h
  refine sv_lald (pc := 184) hG dX12_check_184 lay_151 g5 ?_
  refine sx_aload_n (pc := 185) dX12_check_185 sx_m1 ?_
  refine sv_getA (pc := 186) hG dX12_check_186 f_12_27 lay_146 rfl cr_146_9 ?_
  refine sx_iload_n (pc := 189) dX12_check_189 sx_m2 ?_
  obtain ⟨g6, h⟩ := sx_grd h
  refine sv_lald (pc := 190) hG dX12_check_190 lay_152 g6 ?_
  refine sx_ladd (pc := 191) dX12_check_191 ?_
  refine sx_lcmp (pc := 192) dX12_check_192 ?_
  refine sx_if_ge (pc := 193) (tgt := 212) dX12_check_193 (by decide) (fun c7 => ?_) (fun c7 => ?_)
  · have h := sx_pos c7 h
    refine sx_aload_n (pc := 212) dX12_check_212 sx_m1 ?_
    refine sv_getA (pc := 213) hG dX12_check_213 f_12_24 lay_146 rfl cr_146_8 ?_
    refine sx_iload_n (pc := 216) dX12_check_216 sx_m2 ?_
    obtain ⟨g8, h⟩ := sx_grd h
    refine sv_lald (pc := 217) hG dX12_check_217 lay_151 g8 ?_
    refine sx_aload_n (pc := 218) dX12_check_218 sx_m1 ?_
    refine sv_getA (pc := 219) hG dX12_check_219 f_12_27 lay_146 rfl cr_146_9 ?_
    refine sx_iload_n (pc := 222) dX12_check_222 sx_m2 ?_
    obtain ⟨g9, h⟩ := sx_grd h
    refine sv_lald (pc := 223) hG dX12_check_223 lay_152 g9 ?_
    refine sx_ladd (pc := 224) dX12_check_224 ?_
    refine sx_wk (sx_s1 sx_m1 (sx_s1 sx_m2 (sx_s1 sx_m3 (sx_s1 sx_m0 sx_s0)))) ?_
    exact tB_X12_check_225 hG hP hk57 hk129 h
  · have h := sx_neg c7 h
    refine sx_aload_n (pc := 196) dX12_check_196 sx_m1 ?_
    refine sv_getA (pc := 197) hG dX12_check_197 f_12_24 lay_146 rfl cr_146_8 ?_
    refine sx_iload_n (pc := 200) dX12_check_200 sx_m3 ?_
    obtain ⟨g10, h⟩ := sx_grd h
    refine sv_lald (pc := 201) hG dX12_check_201 lay_151 g10 ?_
    refine sx_aload_n (pc := 202) dX12_check_202 sx_m1 ?_
    refine sv_getA (pc := 203) hG dX12_check_203 f_12_27 lay_146 rfl cr_146_9 ?_
    refine sx_iload_n (pc := 206) dX12_check_206 sx_m3 ?_
    obtain ⟨g11, h⟩ := sx_grd h
    refine sv_lald (pc := 207) hG dX12_check_207 lay_152 g11 ?_
    refine sx_ladd (pc := 208) dX12_check_208 ?_
    refine sx_goto (pc := 209) (tgt := 225) dX12_check_209 (by decide) ?_
    refine sx_wk (sx_s1 sx_m1 (sx_s1 sx_m2 (sx_s1 sx_m3 (sx_s1 sx_m0 sx_s0)))) ?_
    exact tB_X12_check_225 hG hP hk57 hk129 h
def B_X12_check_129 (N : Nat) (k57 : Int32 → sv_V → Option (Int32 × sv_V)) (k129 : Int32 → Int32 → sv_V → Option (Int32 × sv_V)) (l1 : Int32) (l2 : Int32) (V : sv_V) : Option (Int32 × sv_V) := if l1 ≤ l2 then (sx_let (l1 + 1) (fun x13 => k57 x13 V)) else (if sx_in l2 16 = true then if sx_in l1 16 = true then if (lg_cmp (V.2.1 151 l2.toNatClampNeg) (V.2.1 151 l1.toNatClampNeg)) ≤ 0 then (if sx_in l1 16 = true then B_X12_check_165 N k57 k129 l1 l2 (V.2.1 151 l1.toNatClampNeg) V else none) else (if sx_in l2 16 = true then B_X12_check_165 N k57 k129 l1 l2 (V.2.1 151 l2.toNatClampNeg) V else none) else none else none)
set_option maxRecDepth 20000 in
theorem tB_X12_check_129 {g : sx_G} (hG : sx_Go g) {P : Option Value → sv_V → Prop} {r : Int32} {Vr : sv_V} (hP : P (some (.int r)) Vr) {N : Nat} {k57 : Int32 → sv_V → Option (Int32 × sv_V)} {k129 : Int32 → Int32 → sv_V → Option (Int32 × sv_V)} (hk57 : ∀ (l1 : Int32) (V : sv_V), k57 l1 V = some (r, Vr) → sv_N g qX12_check 8 57 [(0, .ref 146), (1, .int l1)] [] V P) (hk129 : ∀ (l1 : Int32) (l2 : Int32) (V : sv_V), k129 l1 l2 V = some (r, Vr) → sv_N g qX12_check 8 129 [(0, .ref 146), (1, .int l1), (2, .int l2)] [] V P) {l1 : Int32} {l2 : Int32} {V : sv_V} (h : B_X12_check_129 N k57 k129 l1 l2 V = some (r, Vr)) : sv_N g qX12_check 8 129 [(0, .ref 146), (1, .int l1), (2, .int l2)] [] V P := by
  unfold B_X12_check_129 at h
  refine sx_iload_n (pc := 129) dX12_check_129 sx_m2 ?_
  refine sx_iload_n (pc := 130) dX12_check_130 sx_m1 ?_
  refine sx_icmp_ge (pc := 131) (tgt := 242) dX12_check_131 (by decide) (fun c12 => ?_) (fun c12 => ?_)
  · have h := sx_pos c12 h
    obtain ⟨x13, hx13⟩ : ∃ z : Int32, z = l1 + 1 := ⟨_, rfl⟩
    have h := sx_letE hx13 h
    refine sx_iinc (pc := 242) (v := x13) (lo' := [(1, .int x13), (0, .ref 146), (2, .int l2)]) dX12_check_242 sx_m1 (by rw [hx13]; rfl) (by decide) rfl ?_
    refine sx_goto (pc := 245) (tgt := 57) dX12_check_245 (by decide) ?_
    refine sx_wk (sx_s1 sx_m1 (sx_s1 sx_m0 sx_s0)) ?_
    exact hk57 _ _ h
  · have h := sx_neg c12 h
    refine sx_aload_n (pc := 134) dX12_check_134 sx_m0 ?_
    refine sv_getA (pc := 135) hG dX12_check_135 f_12_24 lay_146 rfl cr_146_8 ?_
    refine sx_iload_n (pc := 138) dX12_check_138 sx_m2 ?_
    obtain ⟨g14, h⟩ := sx_grd h
    refine sv_lald (pc := 139) hG dX12_check_139 lay_151 g14 ?_
    refine sx_aload_n (pc := 140) dX12_check_140 sx_m0 ?_
    refine sv_getA (pc := 141) hG dX12_check_141 f_12_24 lay_146 rfl cr_146_8 ?_
    refine sx_iload_n (pc := 144) dX12_check_144 sx_m1 ?_
    obtain ⟨g15, h⟩ := sx_grd h
    refine sv_lald (pc := 145) hG dX12_check_145 lay_151 g15 ?_
    refine sx_lcmp (pc := 146) dX12_check_146 ?_
    refine sx_if_le (pc := 147) (tgt := 159) dX12_check_147 (by decide) (fun c16 => ?_) (fun c16 => ?_)
    · have h := sx_pos c16 h
      refine sx_aload_n (pc := 159) dX12_check_159 sx_m0 ?_
      refine sv_getA (pc := 160) hG dX12_check_160 f_12_24 lay_146 rfl cr_146_8 ?_
      refine sx_iload_n (pc := 163) dX12_check_163 sx_m1 ?_
      obtain ⟨g17, h⟩ := sx_grd h
      refine sv_lald (pc := 164) hG dX12_check_164 lay_151 g17 ?_
      refine sx_wk (sx_s1 sx_m0 (sx_s1 sx_m1 (sx_s1 sx_m2 sx_s0))) ?_
      exact tB_X12_check_165 hG hP hk57 hk129 h
    · have h := sx_neg c16 h
      refine sx_aload_n (pc := 150) dX12_check_150 sx_m0 ?_
      refine sv_getA (pc := 151) hG dX12_check_151 f_12_24 lay_146 rfl cr_146_8 ?_
      refine sx_iload_n (pc := 154) dX12_check_154 sx_m2 ?_
      obtain ⟨g18, h⟩ := sx_grd h
      refine sv_lald (pc := 155) hG dX12_check_155 lay_151 g18 ?_
      refine sx_goto (pc := 156) (tgt := 165) dX12_check_156 (by decide) ?_
      refine sx_wk (sx_s1 sx_m0 (sx_s1 sx_m1 (sx_s1 sx_m2 sx_s0))) ?_
      exact tB_X12_check_165 hG hP hk57 hk129 h
theorem tL_X12_check_129 {g : sx_G} (hG : sx_Go g) {P : Option Value → sv_V → Prop} {r : Int32} {Vr : sv_V} (hP : P (some (.int r)) Vr) {N : Nat} {k57 : Int32 → sv_V → Option (Int32 × sv_V)} (hk57 : ∀ (l1 : Int32) (V : sv_V), k57 l1 V = some (r, Vr) → sv_N g qX12_check 8 57 [(0, .ref 146), (1, .int l1)] [] V P) : ∀ (n : Nat) (l1 : Int32) (l2 : Int32) (V : sv_V), sx_lp3 (B_X12_check_129 N k57) n l1 l2 V = some (r, Vr) → sv_N g qX12_check 8 129 [(0, .ref 146), (1, .int l1), (2, .int l2)] [] V P :=
  sx_lp3_ind (fun k0 ih _ _ V h => tB_X12_check_129 hG hP hk57 ih h)
def B_X12_check_296 (N : Nat) (k250 : Int32 → sv_V → Option (Int32 × sv_V)) (l1 : Int32) (s1 : Int32) (s2 : Int32) (s3 : Int32) (V : sv_V) : Option (Int32 × sv_V) := (F_X12_sumOf N s1 s2 s3 V).bind (fun (x21, V19) => if sx_in l1 16 = true then if x21 = ((V19.2.1 150 l1.toNatClampNeg).toInt32) then (sx_let (l1 + 1) (fun x24 => k250 x24 V19)) else (some ((4 : Int32), V19)) else none)
set_option maxRecDepth 20000 in
theorem tB_X12_check_296 {g : sx_G} (hG : sx_Go g) {P : Option Value → sv_V → Prop} {r : Int32} {Vr : sv_V} (hP : P (some (.int r)) Vr) {N : Nat} {k250 : Int32 → sv_V → Option (Int32 × sv_V)} (hk250 : ∀ (l1 : Int32) (V : sv_V), k250 l1 V = some (r, Vr) → sv_N g qX12_check 8 250 [(0, .ref 146), (1, .int l1)] [] V P) {l1 : Int32} {s1 : Int32} {s2 : Int32} {s3 : Int32} {V : sv_V} (h : B_X12_check_296 N k250 l1 s1 s2 s3 V = some (r, Vr)) : sv_N g qX12_check 8 296 [(0, .ref 146), (1, .int l1)] [.int s3, .int s2, .int s1, .ref 146] V P := by
  unfold B_X12_check_296 at h
  obtain ⟨⟨x21, V19⟩, g20, h⟩ := sx_bnd h
  refine sv_cV (pc := 296) (y := qX12_sumOf) (o := (some (.int x21))) (as := [.int s1, .int s2, .int s3]) (V1 := V19) hG dX12_check_296 l_X12_235 y0X12_sumOf yvX12_sumOf rfl (Nat.le_of_ble_eq_true rfl) lay_146 kr_12 (by decide) (Nat.le_of_ble_eq_true rfl) rfl rfl rfl (t_X12_sumOf hG ⟨rfl, rfl⟩ g20) ?_
  refine sx_aload_n (pc := 299) dX12_check_299 sx_m0 ?_
  refine sv_getA (pc := 300) hG dX12_check_300 f_12_20 lay_146 rfl cr_146_7 ?_
  refine sx_iload_n (pc := 303) dX12_check_303 sx_m1 ?_
  obtain ⟨g22, h⟩ := sx_grd h
  refine sv_lald (pc := 304) hG dX12_check_304 lay_150 g22 ?_
  refine sx_l2i (pc := 305) dX12_check_305 ?_
  refine sx_icmp_eq (pc := 306) (tgt := 311) dX12_check_306 (by decide) (fun c23 => ?_) (fun c23 => ?_)
  · have h := sx_pos c23 h
    obtain ⟨x24, hx24⟩ : ∃ z : Int32, z = l1 + 1 := ⟨_, rfl⟩
    have h := sx_letE hx24 h
    refine sx_iinc (pc := 311) (v := x24) (lo' := [(1, .int x24), (0, .ref 146)]) dX12_check_311 sx_m1 (by rw [hx24]; rfl) (by decide) rfl ?_
    refine sx_goto (pc := 314) (tgt := 250) dX12_check_314 (by decide) ?_
    refine sx_wk (sx_s1 sx_m1 (sx_s1 sx_m0 sx_s0)) ?_
    exact hk250 _ _ h
  · have h := sx_neg c23 h
    refine sx_iconst (pc := 309) (v := 4) dX12_check_309 (by decide) ?_
    exact sv_iret (pc := 310) dX12_check_310 rfl h hP
def B_X12_check_250 (N : Nat) (k250 : Int32 → sv_V → Option (Int32 × sv_V)) (l1 : Int32) (V : sv_V) : Option (Int32 × sv_V) := if (V.1 146 5) ≤ l1 then ((F_X12_tableOf N (1668112752 : Int32) V).bind (fun (x28, V26) => if x28 < 0 then (some ((5 : Int32), V26)) else ((F_X12_tableOf N (1735162214 : Int32) V26).bind (fun (x32, V30) => if x32 < 0 then (some ((5 : Int32), V30)) else ((F_X12_tableOf N (1751474532 : Int32) V30).bind (fun (x36, V34) => if x36 < 0 then (some ((5 : Int32), V34)) else ((F_X12_tableOf N (1751672161 : Int32) V34).bind (fun (x40, V38) => if x40 < 0 then (some ((5 : Int32), V38)) else ((F_X12_tableOf N (1752003704 : Int32) V38).bind (fun (x44, V42) => if x44 < 0 then (some ((5 : Int32), V42)) else ((F_X12_tableOf N (1819239265 : Int32) V42).bind (fun (x48, V46) => if x48 < 0 then (some ((5 : Int32), V46)) else ((F_X12_tableOf N (1835104368 : Int32) V46).bind (fun (x52, V50) => if 0 ≤ x52 then ((F_X12_head N  V50).bind (fun (x56, V54) => if x56 = 0 then (some ((6 : Int32), V54)) else ((F_X12_maxp N  V54).bind (fun (x60, V58) => if x60 = 0 then (some ((7 : Int32), V58)) else ((F_X12_beginOf N (1751672161 : Int32) V58).bind (fun (x64, V62) => (F_X12_u2 (x64 + (34 : Int32)) V62).bind (fun (x67, V65) => sx_let (sv_I V65 146 20 x67) (fun V68 => (F_X12_lengthOf N (1751672161 : Int32) V68).bind (fun (x71, V69) => if x71 = (36 : Int32) then ((F_X12_in ((V69.1 146 20).toInt64) (1 : Int64) ((V69.1 146 12).toInt64) V69).bind (fun (x75, V73) => if x75 = 0 then (some ((8 : Int32), V73)) else ((F_X12_lengthOf N (1752003704 : Int32) V73).bind (fun (x79, V77) => if (((4 : Int32) * (V77.1 146 20)) + ((2 : Int32) * ((V77.1 146 12) - (V77.1 146 20)))) ≤ x79 then ((F_X12_checkGlyphs N  V77).bind (fun (x83, V81) => some (x83, V81))) else (some ((9 : Int32), V77)))))) else (some ((8 : Int32), V69))))))))))) else (some ((5 : Int32), V50)))))))))))))))) else (if sx_in l1 16 = true then sx_let ((V.2.1 151 l1.toNatClampNeg).toInt32) (fun x85 => if sx_in l1 16 = true then if sx_in l1 16 = true then if (V.1 149 l1.toNatClampNeg) = (1751474532 : Int32) then (B_X12_check_296 N k250 l1 x85 (x85 + ((V.2.1 152 l1.toNatClampNeg).toInt32)) (x85 + (8 : Int32)) V) else (B_X12_check_296 N k250 l1 x85 (x85 + ((V.2.1 152 l1.toNatClampNeg).toInt32)) (-1 : Int32) V) else none else none) else none)
set_option maxRecDepth 20000 in
theorem tB_X12_check_250 {g : sx_G} (hG : sx_Go g) {P : Option Value → sv_V → Prop} {r : Int32} {Vr : sv_V} (hP : P (some (.int r)) Vr) {N : Nat} {k250 : Int32 → sv_V → Option (Int32 × sv_V)} (hk250 : ∀ (l1 : Int32) (V : sv_V), k250 l1 V = some (r, Vr) → sv_N g qX12_check 8 250 [(0, .ref 146), (1, .int l1)] [] V P) {l1 : Int32} {V : sv_V} (h : B_X12_check_250 N k250 l1 V = some (r, Vr)) : sv_N g qX12_check 8 250 [(0, .ref 146), (1, .int l1)] [] V P := by
  unfold B_X12_check_250 at h
  refine sx_iload_n (pc := 250) dX12_check_250 sx_m1 ?_
  refine sx_aload_n (pc := 251) dX12_check_251 sx_m0 ?_
  refine sv_getI (pc := 252) hG dX12_check_252 f_12_216 lay_146 rfl ?_
  refine sx_icmp_ge (pc := 255) (tgt := 317) dX12_check_255 (by decide) (fun c25 => ?_) (fun c25 => ?_)
  · have h := sx_pos c25 h
    refine sx_aload_n (pc := 317) dX12_check_317 sx_m0 ?_
    refine sx_ldc (pc := 318) dX12_check_318 k_X12_239 ?_
    obtain ⟨⟨x28, V26⟩, g27, h⟩ := sx_bnd h
    refine sv_cV (pc := 320) (y := qX12_tableOf) (o := (some (.int x28))) (as := [.int (1668112752 : Int32)]) (V1 := V26) hG dX12_check_320 l_X12_219 y0X12_tableOf yvX12_tableOf rfl (Nat.le_of_ble_eq_true rfl) lay_146 kr_12 (by decide) (Nat.le_of_ble_eq_true rfl) rfl rfl rfl (t_X12_tableOf hG ⟨rfl, rfl⟩ g27) ?_
    refine sx_if_lt (pc := 323) (tgt := 380) dX12_check_323 (by decide) (fun c29 => ?_) (fun c29 => ?_)
    · have h := sx_pos c29 h
      refine sx_iconst (pc := 380) (v := 5) dX12_check_380 (by decide) ?_
      exact sv_iret (pc := 381) dX12_check_381 rfl h hP
    · have h := sx_neg c29 h
      refine sx_aload_n (pc := 326) dX12_check_326 sx_m0 ?_
      refine sx_ldc (pc := 327) dX12_check_327 k_X12_240 ?_
      obtain ⟨⟨x32, V30⟩, g31, h⟩ := sx_bnd h
      refine sv_cV (pc := 329) (y := qX12_tableOf) (o := (some (.int x32))) (as := [.int (1735162214 : Int32)]) (V1 := V30) hG dX12_check_329 l_X12_219 y0X12_tableOf yvX12_tableOf rfl (Nat.le_of_ble_eq_true rfl) lay_146 kr_12 (by decide) (Nat.le_of_ble_eq_true rfl) rfl rfl rfl (t_X12_tableOf hG ⟨rfl, rfl⟩ g31) ?_
      refine sx_if_lt (pc := 332) (tgt := 380) dX12_check_332 (by decide) (fun c33 => ?_) (fun c33 => ?_)
      · have h := sx_pos c33 h
        refine sx_iconst (pc := 380) (v := 5) dX12_check_380 (by decide) ?_
        exact sv_iret (pc := 381) dX12_check_381 rfl h hP
      · have h := sx_neg c33 h
        refine sx_aload_n (pc := 335) dX12_check_335 sx_m0 ?_
        refine sx_ldc (pc := 336) dX12_check_336 k_X12_234 ?_
        obtain ⟨⟨x36, V34⟩, g35, h⟩ := sx_bnd h
        refine sv_cV (pc := 338) (y := qX12_tableOf) (o := (some (.int x36))) (as := [.int (1751474532 : Int32)]) (V1 := V34) hG dX12_check_338 l_X12_219 y0X12_tableOf yvX12_tableOf rfl (Nat.le_of_ble_eq_true rfl) lay_146 kr_12 (by decide) (Nat.le_of_ble_eq_true rfl) rfl rfl rfl (t_X12_tableOf hG ⟨rfl, rfl⟩ g35) ?_
        refine sx_if_lt (pc := 341) (tgt := 380) dX12_check_341 (by decide) (fun c37 => ?_) (fun c37 => ?_)
        · have h := sx_pos c37 h
          refine sx_iconst (pc := 380) (v := 5) dX12_check_380 (by decide) ?_
          exact sv_iret (pc := 381) dX12_check_381 rfl h hP
        · have h := sx_neg c37 h
          refine sx_aload_n (pc := 344) dX12_check_344 sx_m0 ?_
          refine sx_ldc (pc := 345) dX12_check_345 k_X12_241 ?_
          obtain ⟨⟨x40, V38⟩, g39, h⟩ := sx_bnd h
          refine sv_cV (pc := 347) (y := qX12_tableOf) (o := (some (.int x40))) (as := [.int (1751672161 : Int32)]) (V1 := V38) hG dX12_check_347 l_X12_219 y0X12_tableOf yvX12_tableOf rfl (Nat.le_of_ble_eq_true rfl) lay_146 kr_12 (by decide) (Nat.le_of_ble_eq_true rfl) rfl rfl rfl (t_X12_tableOf hG ⟨rfl, rfl⟩ g39) ?_
          refine sx_if_lt (pc := 350) (tgt := 380) dX12_check_350 (by decide) (fun c41 => ?_) (fun c41 => ?_)
          · have h := sx_pos c41 h
            refine sx_iconst (pc := 380) (v := 5) dX12_check_380 (by decide) ?_
            exact sv_iret (pc := 381) dX12_check_381 rfl h hP
          · have h := sx_neg c41 h
            refine sx_aload_n (pc := 353) dX12_check_353 sx_m0 ?_
            refine sx_ldc (pc := 354) dX12_check_354 k_X12_242 ?_
            obtain ⟨⟨x44, V42⟩, g43, h⟩ := sx_bnd h
            refine sv_cV (pc := 356) (y := qX12_tableOf) (o := (some (.int x44))) (as := [.int (1752003704 : Int32)]) (V1 := V42) hG dX12_check_356 l_X12_219 y0X12_tableOf yvX12_tableOf rfl (Nat.le_of_ble_eq_true rfl) lay_146 kr_12 (by decide) (Nat.le_of_ble_eq_true rfl) rfl rfl rfl (t_X12_tableOf hG ⟨rfl, rfl⟩ g43) ?_
            refine sx_if_lt (pc := 359) (tgt := 380) dX12_check_359 (by decide) (fun c45 => ?_) (fun c45 => ?_)
            · have h := sx_pos c45 h
              refine sx_iconst (pc := 380) (v := 5) dX12_check_380 (by decide) ?_
              exact sv_iret (pc := 381) dX12_check_381 rfl h hP
            · have h := sx_neg c45 h
              refine sx_aload_n (pc := 362) dX12_check_362 sx_m0 ?_
              refine sx_ldc (pc := 363) dX12_check_363 k_X12_243 ?_
              obtain ⟨⟨x48, V46⟩, g47, h⟩ := sx_bnd h
              refine sv_cV (pc := 365) (y := qX12_tableOf) (o := (some (.int x48))) (as := [.int (1819239265 : Int32)]) (V1 := V46) hG dX12_check_365 l_X12_219 y0X12_tableOf yvX12_tableOf rfl (Nat.le_of_ble_eq_true rfl) lay_146 kr_12 (by decide) (Nat.le_of_ble_eq_true rfl) rfl rfl rfl (t_X12_tableOf hG ⟨rfl, rfl⟩ g47) ?_
              refine sx_if_lt (pc := 368) (tgt := 380) dX12_check_368 (by decide) (fun c49 => ?_) (fun c49 => ?_)
              · have h := sx_pos c49 h
                refine sx_iconst (pc := 380) (v := 5) dX12_check_380 (by decide) ?_
                exact sv_iret (pc := 381) dX12_check_381 rfl h hP
              · have h := sx_neg c49 h
                refine sx_aload_n (pc := 371) dX12_check_371 sx_m0 ?_
                refine sx_ldc (pc := 372) dX12_check_372 k_X12_244 ?_
                obtain ⟨⟨x52, V50⟩, g51, h⟩ := sx_bnd h
                refine sv_cV (pc := 374) (y := qX12_tableOf) (o := (some (.int x52))) (as := [.int (1835104368 : Int32)]) (V1 := V50) hG dX12_check_374 l_X12_219 y0X12_tableOf yvX12_tableOf rfl (Nat.le_of_ble_eq_true rfl) lay_146 kr_12 (by decide) (Nat.le_of_ble_eq_true rfl) rfl rfl rfl (t_X12_tableOf hG ⟨rfl, rfl⟩ g51) ?_
                refine sx_if_ge (pc := 377) (tgt := 382) dX12_check_377 (by decide) (fun c53 => ?_) (fun c53 => ?_)
                · have h := sx_pos c53 h
                  refine sx_aload_n (pc := 382) dX12_check_382 sx_m0 ?_
                  obtain ⟨⟨x56, V54⟩, g55, h⟩ := sx_bnd h
                  refine sv_cV (pc := 383) (y := qX12_head) (o := (some (.int x56))) (as := []) (V1 := V54) hG dX12_check_383 l_X12_245 y0X12_head yvX12_head rfl (Nat.le_of_ble_eq_true rfl) lay_146 kr_12 (by decide) (Nat.le_of_ble_eq_true rfl) rfl rfl rfl (t_X12_head hG ⟨rfl, rfl⟩ g55) ?_
                  refine sx_if_ne (pc := 386) (tgt := 392) dX12_check_386 (by decide) (fun c57 => ?_) (fun c57 => ?_)
                  · have h := sx_neg c57 h
                    refine sx_aload_n (pc := 392) dX12_check_392 sx_m0 ?_
                    obtain ⟨⟨x60, V58⟩, g59, h⟩ := sx_bnd h
                    refine sv_cV (pc := 393) (y := qX12_maxp) (o := (some (.int x60))) (as := []) (V1 := V58) hG dX12_check_393 l_X12_248 y0X12_maxp yvX12_maxp rfl (Nat.le_of_ble_eq_true rfl) lay_146 kr_12 (by decide) (Nat.le_of_ble_eq_true rfl) rfl rfl rfl (t_X12_maxp hG ⟨rfl, rfl⟩ g59) ?_
                    refine sx_if_ne (pc := 396) (tgt := 402) dX12_check_396 (by decide) (fun c61 => ?_) (fun c61 => ?_)
                    · have h := sx_neg c61 h
                      refine sx_aload_n (pc := 402) dX12_check_402 sx_m0 ?_
                      refine sx_ldc (pc := 403) dX12_check_403 k_X12_241 ?_
                      obtain ⟨⟨x64, V62⟩, g63, h⟩ := sx_bnd h
                      refine sv_cV (pc := 405) (y := qX12_beginOf) (o := (some (.int x64))) (as := [.int (1751672161 : Int32)]) (V1 := V62) hG dX12_check_405 l_X12_251 y0X12_beginOf yvX12_beginOf rfl (Nat.le_of_ble_eq_true rfl) lay_146 kr_12 (by decide) (Nat.le_of_ble_eq_true rfl) rfl rfl rfl (t_X12_beginOf hG ⟨rfl, rfl⟩ g63) ?_
                      refine sx_istore_n (pc := 408) (lo' := [(1, .int x64), (0, .ref 146)]) dX12_check_408 (by decide) rfl ?_
                      refine sx_aload_n (pc := 409) dX12_check_409 sx_m1 ?_
                      refine sx_aload_n (pc := 410) dX12_check_410 sx_m1 ?_
                      refine sx_iload_n (pc := 411) dX12_check_411 sx_m0 ?_
                      refine sx_bipush (pc := 412) (v := 34) dX12_check_412 (by decide) ?_
                      refine sx_iadd (pc := 414) dX12_check_414 ?_
                      obtain ⟨⟨x67, V65⟩, g66, h⟩ := sx_bnd h
                      refine sv_cV (pc := 415) (y := qX12_u2) (o := (some (.int x67))) (as := [.int (x64 + (34 : Int32))]) (V1 := V65) hG dX12_check_415 l_X12_213 y0X12_u2 yvX12_u2 rfl (Nat.le_of_ble_eq_true rfl) lay_146 kr_12 (by decide) (Nat.le_of_ble_eq_true rfl) rfl rfl rfl (t_X12_u2 hG ⟨rfl, rfl⟩ g66) ?_
                      obtain ⟨V68, hV68⟩ : ∃ z : sv_V, z = sv_I V65 146 20 x67 := ⟨_, rfl⟩
                      have h := sx_letE hV68 h
                      refine sv_putI (pc := 418) hG dX12_check_418 f_12_254 lay_146 rfl hV68 ?_
                      refine sx_aload_n (pc := 421) dX12_check_421 sx_m1 ?_
                      refine sx_ldc (pc := 422) dX12_check_422 k_X12_241 ?_
                      obtain ⟨⟨x71, V69⟩, g70, h⟩ := sx_bnd h
                      refine sv_cV (pc := 424) (y := qX12_lengthOf) (o := (some (.int x71))) (as := [.int (1751672161 : Int32)]) (V1 := V69) hG dX12_check_424 l_X12_257 y0X12_lengthOf yvX12_lengthOf rfl (Nat.le_of_ble_eq_true rfl) lay_146 kr_12 (by decide) (Nat.le_of_ble_eq_true rfl) rfl rfl rfl (t_X12_lengthOf hG ⟨rfl, rfl⟩ g70) ?_
                      refine sx_bipush (pc := 427) (v := 36) dX12_check_427 (by decide) ?_
                      refine sx_icmp_ne (pc := 429) (tgt := 449) dX12_check_429 (by decide) (fun c72 => ?_) (fun c72 => ?_)
                      · have h := sx_neg c72 h
                        refine sx_bipush (pc := 449) (v := 8) dX12_check_449 (by decide) ?_
                        exact sv_iret (pc := 451) dX12_check_451 rfl h hP
                      · have h := sx_pos c72 h
                        refine sx_aload_n (pc := 432) dX12_check_432 sx_m1 ?_
                        refine sv_getI (pc := 433) hG dX12_check_433 f_12_254 lay_146 rfl ?_
                        refine sx_i2l (pc := 436) dX12_check_436 ?_
                        refine sx_lconst (pc := 437) (v := 1) dX12_check_437 rfl ?_
                        refine sx_aload_n (pc := 438) dX12_check_438 sx_m1 ?_
                        refine sv_getI (pc := 439) hG dX12_check_439 f_12_260 lay_146 rfl ?_
                        refine sx_i2l (pc := 442) dX12_check_442 ?_
                        obtain ⟨⟨x75, V73⟩, g74, h⟩ := sx_bnd h
                        refine sv_cS (pc := 443) (y := qX12_in) (o := (some (.int x75))) (as := [.long ((V69.1 146 20).toInt64), .long (1 : Int64), .long ((V69.1 146 12).toInt64)]) (V1 := V73) dX12_check_443 l_X12_263 y0X12_in ysX12_in rfl (Nat.le_of_ble_eq_true rfl) (by decide) (Nat.le_of_ble_eq_true rfl) rfl rfl rfl (t_X12_in hG ⟨rfl, rfl⟩ g74) ?_
                        refine sx_if_ne (pc := 446) (tgt := 452) dX12_check_446 (by decide) (fun c76 => ?_) (fun c76 => ?_)
                        · have h := sx_neg c76 h
                          refine sx_aload_n (pc := 452) dX12_check_452 sx_m1 ?_
                          refine sx_ldc (pc := 453) dX12_check_453 k_X12_242 ?_
                          obtain ⟨⟨x79, V77⟩, g78, h⟩ := sx_bnd h
                          refine sv_cV (pc := 455) (y := qX12_lengthOf) (o := (some (.int x79))) (as := [.int (1752003704 : Int32)]) (V1 := V77) hG dX12_check_455 l_X12_257 y0X12_lengthOf yvX12_lengthOf rfl (Nat.le_of_ble_eq_true rfl) lay_146 kr_12 (by decide) (Nat.le_of_ble_eq_true rfl) rfl rfl rfl (t_X12_lengthOf hG ⟨rfl, rfl⟩ g78) ?_
                          refine sx_iconst (pc := 458) (v := 4) dX12_check_458 (by decide) ?_
                          refine sx_aload_n (pc := 459) dX12_check_459 sx_m1 ?_
                          refine sv_getI (pc := 460) hG dX12_check_460 f_12_254 lay_146 rfl ?_
                          refine sx_imul (pc := 463) dX12_check_463 ?_
                          refine sx_iconst (pc := 464) (v := 2) dX12_check_464 (by decide) ?_
                          refine sx_aload_n (pc := 465) dX12_check_465 sx_m1 ?_
                          refine sv_getI (pc := 466) hG dX12_check_466 f_12_260 lay_146 rfl ?_
                          refine sx_aload_n (pc := 469) dX12_check_469 sx_m1 ?_
                          refine sv_getI (pc := 470) hG dX12_check_470 f_12_254 lay_146 rfl ?_
                          refine sx_isub (pc := 473) dX12_check_473 ?_
                          refine sx_imul (pc := 474) dX12_check_474 ?_
                          refine sx_iadd (pc := 475) dX12_check_475 ?_
                          refine sx_icmp_ge (pc := 476) (tgt := 482) dX12_check_476 (by decide) (fun c80 => ?_) (fun c80 => ?_)
                          · have h := sx_pos c80 h
                            refine sx_aload_n (pc := 482) dX12_check_482 sx_m1 ?_
                            obtain ⟨⟨x83, V81⟩, g82, h⟩ := sx_bnd h
                            refine sv_cV (pc := 483) (y := qX12_checkGlyphs) (o := (some (.int x83))) (as := []) (V1 := V81) hG dX12_check_483 l_X12_267 y0X12_checkGlyphs yvX12_checkGlyphs rfl (Nat.le_of_ble_eq_true rfl) lay_146 kr_12 (by decide) (Nat.le_of_ble_eq_true rfl) rfl rfl rfl (t_X12_checkGlyphs hG ⟨rfl, rfl⟩ g82) ?_
                            exact sv_iret (pc := 486) dX12_check_486 rfl h hP
                          · have h := sx_neg c80 h
                            refine sx_bipush (pc := 479) (v := 9) dX12_check_479 (by decide) ?_
                            exact sv_iret (pc := 481) dX12_check_481 rfl h hP
                        · have h := sx_pos c76 h
                          refine sx_bipush (pc := 449) (v := 8) dX12_check_449 (by decide) ?_
                          exact sv_iret (pc := 451) dX12_check_451 rfl h hP
                    · have h := sx_pos c61 h
                      refine sx_bipush (pc := 399) (v := 7) dX12_check_399 (by decide) ?_
                      exact sv_iret (pc := 401) dX12_check_401 rfl h hP
                  · have h := sx_pos c57 h
                    refine sx_bipush (pc := 389) (v := 6) dX12_check_389 (by decide) ?_
                    exact sv_iret (pc := 391) dX12_check_391 rfl h hP
                · have h := sx_neg c53 h
                  refine sx_iconst (pc := 380) (v := 5) dX12_check_380 (by decide) ?_
                  exact sv_iret (pc := 381) dX12_check_381 rfl h hP
  · have h := sx_neg c25 h
    refine sx_aload_n (pc := 258) dX12_check_258 sx_m0 ?_
    refine sv_getA (pc := 259) hG dX12_check_259 f_12_24 lay_146 rfl cr_146_8 ?_
    refine sx_iload_n (pc := 262) dX12_check_262 sx_m1 ?_
    obtain ⟨g84, h⟩ := sx_grd h
    refine sv_lald (pc := 263) hG dX12_check_263 lay_151 g84 ?_
    refine sx_l2i (pc := 264) dX12_check_264 ?_
    refine sv_tI (fun x85 hx85 => ?_)
    have h := sx_letE hx85 h
    refine sx_istore_n (pc := 265) (lo' := [(2, .int x85), (0, .ref 146), (1, .int l1)]) dX12_check_265 (by decide) rfl ?_
    refine sx_aload_n (pc := 266) dX12_check_266 sx_m1 ?_
    refine sx_iload_n (pc := 267) dX12_check_267 sx_m0 ?_
    refine sx_iload_n (pc := 268) dX12_check_268 sx_m0 ?_
    refine sx_aload_n (pc := 269) dX12_check_269 sx_m1 ?_
    refine sv_getA (pc := 270) hG dX12_check_270 f_12_27 lay_146 rfl cr_146_9 ?_
    refine sx_iload_n (pc := 273) dX12_check_273 sx_m2 ?_
    obtain ⟨g86, h⟩ := sx_grd h
    refine sv_lald (pc := 274) hG dX12_check_274 lay_152 g86 ?_
    refine sx_l2i (pc := 275) dX12_check_275 ?_
    refine sx_iadd (pc := 276) dX12_check_276 ?_
    refine sx_aload_n (pc := 277) dX12_check_277 sx_m1 ?_
    refine sv_getA (pc := 278) hG dX12_check_278 f_12_16 lay_146 rfl cr_146_6 ?_
    refine sx_iload_n (pc := 281) dX12_check_281 sx_m2 ?_
    obtain ⟨g87, h⟩ := sx_grd h
    refine sv_iald (pc := 282) hG dX12_check_282 lay_149 g87 ?_
    refine sx_ldc (pc := 283) dX12_check_283 k_X12_234 ?_
    refine sx_icmp_ne (pc := 285) (tgt := 295) dX12_check_285 (by decide) (fun c88 => ?_) (fun c88 => ?_)
    · have h := sx_neg c88 h
      refine sx_iconst (pc := 295) (v := (-1)) dX12_check_295 (by decide) ?_
      refine sx_wk (sx_s1 sx_m1 (sx_s1 sx_m2 sx_s0)) ?_
      exact tB_X12_check_296 hG hP hk250 h
    · have h := sx_pos c88 h
      refine sx_iload_n (pc := 288) dX12_check_288 sx_m0 ?_
      refine sx_bipush (pc := 289) (v := 8) dX12_check_289 (by decide) ?_
      refine sx_iadd (pc := 291) dX12_check_291 ?_
      refine sx_goto (pc := 292) (tgt := 296) dX12_check_292 (by decide) ?_
      refine sx_wk (sx_s1 sx_m1 (sx_s1 sx_m2 sx_s0)) ?_
      exact tB_X12_check_296 hG hP hk250 h
theorem tL_X12_check_250 {g : sx_G} (hG : sx_Go g) {P : Option Value → sv_V → Prop} {r : Int32} {Vr : sv_V} (hP : P (some (.int r)) Vr) {N : Nat}   : ∀ (n : Nat) (l1 : Int32) (V : sv_V), sx_lp2 (B_X12_check_250 N ) n l1 V = some (r, Vr) → sv_N g qX12_check 8 250 [(0, .ref 146), (1, .int l1)] [] V P :=
  sx_lp2_ind (fun k0 ih _ V h => tB_X12_check_250 hG hP ih h)
def B_X12_check_57 (N : Nat) (k57 : Int32 → sv_V → Option (Int32 × sv_V)) (l1 : Int32) (V : sv_V) : Option (Int32 × sv_V) := if (V.1 146 5) ≤ l1 then (sx_lp2 (B_X12_check_250 N ) N (0 : Int32) V) else (if sx_in l1 16 = true then if (lg_cmp ((V.2.1 151 l1.toNatClampNeg) - (V.2.1 151 l1.toNatClampNeg) / (4 : Int64) * (4 : Int64)) (0 : Int64)) = 0 then (if sx_in l1 16 = true then if (lg_cmp (V.2.1 151 l1.toNatClampNeg) ((12 : Int64) + ((16 : Int64) * ((V.1 146 5).toInt64)))) < 0 then (some ((3 : Int32), V)) else (if sx_in l1 16 = true then if sx_in l1 16 = true then if (lg_cmp ((V.2.1 151 l1.toNatClampNeg) + (V.2.1 152 l1.toNatClampNeg)) ((V.1 146 3).toInt64)) ≤ 0 then (sx_lp3 (B_X12_check_129 N k57) N l1 (0 : Int32) V) else (some ((3 : Int32), V)) else none else none) else none) else (some ((3 : Int32), V)) else none)
set_option maxRecDepth 20000 in
theorem tB_X12_check_57 {g : sx_G} (hG : sx_Go g) {P : Option Value → sv_V → Prop} {r : Int32} {Vr : sv_V} (hP : P (some (.int r)) Vr) {N : Nat} {k57 : Int32 → sv_V → Option (Int32 × sv_V)} (hk57 : ∀ (l1 : Int32) (V : sv_V), k57 l1 V = some (r, Vr) → sv_N g qX12_check 8 57 [(0, .ref 146), (1, .int l1)] [] V P) {l1 : Int32} {V : sv_V} (h : B_X12_check_57 N k57 l1 V = some (r, Vr)) : sv_N g qX12_check 8 57 [(0, .ref 146), (1, .int l1)] [] V P := by
  unfold B_X12_check_57 at h
  refine sx_iload_n (pc := 57) dX12_check_57 sx_m1 ?_
  refine sx_aload_n (pc := 58) dX12_check_58 sx_m0 ?_
  refine sv_getI (pc := 59) hG dX12_check_59 f_12_216 lay_146 rfl ?_
  refine sx_icmp_ge (pc := 62) (tgt := 248) dX12_check_62 (by decide) (fun c89 => ?_) (fun c89 => ?_)
  · have h := sx_pos c89 h
    refine sx_iconst (pc := 248) (v := 0) dX12_check_248 (by decide) ?_
    refine sx_istore_n (pc := 249) (lo' := [(1, .int (0 : Int32)), (0, .ref 146)]) dX12_check_249 (by decide) rfl ?_
    refine sx_wk (sx_s1 sx_m1 (sx_s1 sx_m0 sx_s0)) ?_
    exact tL_X12_check_250 hG hP  N _ _ h
  · have h := sx_neg c89 h
    refine sx_aload_n (pc := 65) dX12_check_65 sx_m0 ?_
    refine sv_getA (pc := 66) hG dX12_check_66 f_12_24 lay_146 rfl cr_146_8 ?_
    refine sx_iload_n (pc := 69) dX12_check_69 sx_m1 ?_
    obtain ⟨g90, h⟩ := sx_grd h
    refine sv_lald (pc := 70) hG dX12_check_70 lay_151 g90 ?_
    refine sx_ldc2 (pc := 71) dX12_check_71 k_X12_228 ?_
    refine sx_lrem (pc := 74) dX12_check_74 (by decide) ?_
    refine sx_lconst (pc := 75) (v := 0) dX12_check_75 rfl ?_
    refine sx_lcmp (pc := 76) dX12_check_76 ?_
    refine sx_if_ne (pc := 77) (tgt := 125) dX12_check_77 (by decide) (fun c91 => ?_) (fun c91 => ?_)
    · have h := sx_neg c91 h
      refine sx_iconst (pc := 125) (v := 3) dX12_check_125 (by decide) ?_
      exact sv_iret (pc := 126) dX12_check_126 rfl h hP
    · have h := sx_pos c91 h
      refine sx_aload_n (pc := 80) dX12_check_80 sx_m0 ?_
      refine sv_getA (pc := 81) hG dX12_check_81 f_12_24 lay_146 rfl cr_146_8 ?_
      refine sx_iload_n (pc := 84) dX12_check_84 sx_m1 ?_
      obtain ⟨g92, h⟩ := sx_grd h
      refine sv_lald (pc := 85) hG dX12_check_85 lay_151 g92 ?_
      refine sx_ldc2 (pc := 86) dX12_check_86 k_X12_230 ?_
      refine sx_ldc2 (pc := 89) dX12_check_89 k_X12_232 ?_
      refine sx_aload_n (pc := 92) dX12_check_92 sx_m0 ?_
      refine sv_getI (pc := 93) hG dX12_check_93 f_12_216 lay_146 rfl ?_
      refine sx_i2l (pc := 96) dX12_check_96 ?_
      refine sx_lmul (pc := 97) dX12_check_97 ?_
      refine sx_ladd (pc := 98) dX12_check_98 ?_
      refine sx_lcmp (pc := 99) dX12_check_99 ?_
      refine sx_if_lt (pc := 100) (tgt := 125) dX12_check_100 (by decide) (fun c93 => ?_) (fun c93 => ?_)
      · have h := sx_pos c93 h
        refine sx_iconst (pc := 125) (v := 3) dX12_check_125 (by decide) ?_
        exact sv_iret (pc := 126) dX12_check_126 rfl h hP
      · have h := sx_neg c93 h
        refine sx_aload_n (pc := 103) dX12_check_103 sx_m0 ?_
        refine sv_getA (pc := 104) hG dX12_check_104 f_12_24 lay_146 rfl cr_146_8 ?_
        refine sx_iload_n (pc := 107) dX12_check_107 sx_m1 ?_
        obtain ⟨g94, h⟩ := sx_grd h
        refine sv_lald (pc := 108) hG dX12_check_108 lay_151 g94 ?_
        refine sx_aload_n (pc := 109) dX12_check_109 sx_m0 ?_
        refine sv_getA (pc := 110) hG dX12_check_110 f_12_27 lay_146 rfl cr_146_9 ?_
        refine sx_iload_n (pc := 113) dX12_check_113 sx_m1 ?_
        obtain ⟨g95, h⟩ := sx_grd h
        refine sv_lald (pc := 114) hG dX12_check_114 lay_152 g95 ?_
        refine sx_ladd (pc := 115) dX12_check_115 ?_
        refine sx_aload_n (pc := 116) dX12_check_116 sx_m0 ?_
        refine sv_getI (pc := 117) hG dX12_check_117 f_12_206 lay_146 rfl ?_
        refine sx_i2l (pc := 120) dX12_check_120 ?_
        refine sx_lcmp (pc := 121) dX12_check_121 ?_
        refine sx_if_le (pc := 122) (tgt := 127) dX12_check_122 (by decide) (fun c96 => ?_) (fun c96 => ?_)
        · have h := sx_pos c96 h
          refine sx_iconst (pc := 127) (v := 0) dX12_check_127 (by decide) ?_
          refine sx_istore_n (pc := 128) (lo' := [(2, .int (0 : Int32)), (0, .ref 146), (1, .int l1)]) dX12_check_128 (by decide) rfl ?_
          refine sx_wk (sx_s1 sx_m1 (sx_s1 sx_m2 (sx_s1 sx_m0 sx_s0))) ?_
          exact tL_X12_check_129 hG hP hk57 N _ _ _ h
        · have h := sx_neg c96 h
          refine sx_iconst (pc := 125) (v := 3) dX12_check_125 (by decide) ?_
          exact sv_iret (pc := 126) dX12_check_126 rfl h hP
theorem tL_X12_check_57 {g : sx_G} (hG : sx_Go g) {P : Option Value → sv_V → Prop} {r : Int32} {Vr : sv_V} (hP : P (some (.int r)) Vr) {N : Nat}   : ∀ (n : Nat) (l1 : Int32) (V : sv_V), sx_lp2 (B_X12_check_57 N ) n l1 V = some (r, Vr) → sv_N g qX12_check 8 57 [(0, .ref 146), (1, .int l1)] [] V P :=
  sx_lp2_ind (fun k0 ih _ V h => tB_X12_check_57 hG hP ih h)
def B_X12_check_11 (N : Nat) (k11 : Int32 → sv_V → Option (Int32 × sv_V)) (l1 : Int32) (V : sv_V) : Option (Int32 × sv_V) := if (V.1 146 5) ≤ l1 then (sx_lp2 (B_X12_check_57 N ) N (0 : Int32) V) else (if sx_in (l1 - (1 : Int32)) 16 = true then if sx_in l1 16 = true then if (lg_cmp (((V.1 149 (l1 - (1 : Int32)).toNatClampNeg).toInt64) &&& (4294967295 : Int64)) (((V.1 149 l1.toNatClampNeg).toInt64) &&& (4294967295 : Int64))) < 0 then (sx_let (l1 + 1) (fun x101 => k11 x101 V)) else (some ((2 : Int32), V)) else none else none)
set_option maxRecDepth 20000 in
theorem tB_X12_check_11 {g : sx_G} (hG : sx_Go g) {P : Option Value → sv_V → Prop} {r : Int32} {Vr : sv_V} (hP : P (some (.int r)) Vr) {N : Nat} {k11 : Int32 → sv_V → Option (Int32 × sv_V)} (hk11 : ∀ (l1 : Int32) (V : sv_V), k11 l1 V = some (r, Vr) → sv_N g qX12_check 8 11 [(0, .ref 146), (1, .int l1)] [] V P) {l1 : Int32} {V : sv_V} (h : B_X12_check_11 N k11 l1 V = some (r, Vr)) : sv_N g qX12_check 8 11 [(0, .ref 146), (1, .int l1)] [] V P := by
  unfold B_X12_check_11 at h
  refine sx_iload_n (pc := 11) dX12_check_11 sx_m1 ?_
  refine sx_aload_n (pc := 12) dX12_check_12 sx_m0 ?_
  refine sv_getI (pc := 13) hG dX12_check_13 f_12_216 lay_146 rfl ?_
  refine sx_icmp_ge (pc := 16) (tgt := 55) dX12_check_16 (by decide) (fun c97 => ?_) (fun c97 => ?_)
  · have h := sx_pos c97 h
    refine sx_iconst (pc := 55) (v := 0) dX12_check_55 (by decide) ?_
    refine sx_istore_n (pc := 56) (lo' := [(1, .int (0 : Int32)), (0, .ref 146)]) dX12_check_56 (by decide) rfl ?_
    refine sx_wk (sx_s1 sx_m1 (sx_s1 sx_m0 sx_s0)) ?_
    exact tL_X12_check_57 hG hP  N _ _ h
  · have h := sx_neg c97 h
    refine sx_aload_n (pc := 19) dX12_check_19 sx_m0 ?_
    refine sv_getA (pc := 20) hG dX12_check_20 f_12_16 lay_146 rfl cr_146_6 ?_
    refine sx_iload_n (pc := 23) dX12_check_23 sx_m1 ?_
    refine sx_iconst (pc := 24) (v := 1) dX12_check_24 (by decide) ?_
    refine sx_isub (pc := 25) dX12_check_25 ?_
    obtain ⟨g98, h⟩ := sx_grd h
    refine sv_iald (pc := 26) hG dX12_check_26 lay_149 g98 ?_
    refine sx_i2l (pc := 27) dX12_check_27 ?_
    refine sx_ldc2 (pc := 28) dX12_check_28 k_X12_226 ?_
    refine sx_land (pc := 31) dX12_check_31 ?_
    refine sx_aload_n (pc := 32) dX12_check_32 sx_m0 ?_
    refine sv_getA (pc := 33) hG dX12_check_33 f_12_16 lay_146 rfl cr_146_6 ?_
    refine sx_iload_n (pc := 36) dX12_check_36 sx_m1 ?_
    obtain ⟨g99, h⟩ := sx_grd h
    refine sv_iald (pc := 37) hG dX12_check_37 lay_149 g99 ?_
    refine sx_i2l (pc := 38) dX12_check_38 ?_
    refine sx_ldc2 (pc := 39) dX12_check_39 k_X12_226 ?_
    refine sx_land (pc := 42) dX12_check_42 ?_
    refine sx_lcmp (pc := 43) dX12_check_43 ?_
    refine sx_if_lt (pc := 44) (tgt := 49) dX12_check_44 (by decide) (fun c100 => ?_) (fun c100 => ?_)
    · have h := sx_pos c100 h
      obtain ⟨x101, hx101⟩ : ∃ z : Int32, z = l1 + 1 := ⟨_, rfl⟩
      have h := sx_letE hx101 h
      refine sx_iinc (pc := 49) (v := x101) (lo' := [(1, .int x101), (0, .ref 146)]) dX12_check_49 sx_m1 (by rw [hx101]; rfl) (by decide) rfl ?_
      refine sx_goto (pc := 52) (tgt := 11) dX12_check_52 (by decide) ?_
      refine sx_wk (sx_s1 sx_m1 (sx_s1 sx_m0 sx_s0)) ?_
      exact hk11 _ _ h
    · have h := sx_neg c100 h
      refine sx_iconst (pc := 47) (v := 2) dX12_check_47 (by decide) ?_
      exact sv_iret (pc := 48) dX12_check_48 rfl h hP
theorem tL_X12_check_11 {g : sx_G} (hG : sx_Go g) {P : Option Value → sv_V → Prop} {r : Int32} {Vr : sv_V} (hP : P (some (.int r)) Vr) {N : Nat}   : ∀ (n : Nat) (l1 : Int32) (V : sv_V), sx_lp2 (B_X12_check_11 N ) n l1 V = some (r, Vr) → sv_N g qX12_check 8 11 [(0, .ref 146), (1, .int l1)] [] V P :=
  sx_lp2_ind (fun k0 ih _ V h => tB_X12_check_11 hG hP ih h)
def F_X12_check (N : Nat)  (V : sv_V) : Option (Int32 × sv_V) := (F_X12_directory N  V).bind (fun (x104, V102) => if x104 = 0 then (some ((1 : Int32), V102)) else (sx_lp2 (B_X12_check_11 N ) N (1 : Int32) V102))
set_option maxRecDepth 20000 in
theorem t_X12_check {g : sx_G} (hG : sx_Go g) {P : Option Value → sv_V → Prop} {r : Int32} {Vr : sv_V} (hP : P (some (.int r)) Vr) {N : Nat}  {V : sv_V} (h : F_X12_check N  V = some (r, Vr)) : sv_N g qX12_check 8 0 [(0, .ref 146)] [] V P := by
  unfold F_X12_check at h
  refine sx_aload_n (pc := 0) dX12_check_0 sx_m0 ?_
  obtain ⟨⟨x104, V102⟩, g103, h⟩ := sx_bnd h
  refine sv_cV (pc := 1) (y := qX12_directory) (o := (some (.int x104))) (as := []) (V1 := V102) hG dX12_check_1 l_X12_222 y0X12_directory yvX12_directory rfl (Nat.le_of_ble_eq_true rfl) lay_146 kr_12 (by decide) (Nat.le_of_ble_eq_true rfl) rfl rfl rfl (t_X12_directory hG ⟨rfl, rfl⟩ g103) ?_
  refine sx_if_ne (pc := 4) (tgt := 9) dX12_check_4 (by decide) (fun c105 => ?_) (fun c105 => ?_)
  · have h := sx_neg c105 h
    refine sx_iconst (pc := 9) (v := 1) dX12_check_9 (by decide) ?_
    refine sx_istore_n (pc := 10) (lo' := [(1, .int (1 : Int32)), (0, .ref 146)]) dX12_check_10 (by decide) rfl ?_
    refine sx_wk (sx_s1 sx_m1 (sx_s1 sx_m0 sx_s0)) ?_
    exact tL_X12_check_11 hG hP  N _ _ h
  · have h := sx_pos c105 h
    refine sx_iconst (pc := 7) (v := 1) dX12_check_7 (by decide) ?_
    exact sv_iret (pc := 8) dX12_check_8 rfl h hP
end
section
/-! methods: X12_middle, X12_load, X5_runForSize, X6_setSize, X6_build, X11_size, X12_perform, X6_makeGlyph, X11_make, X11_line -/
def ncX12_middle : Nat := 130312256420258467141740606559163568651204761929856261638691305247862073761206996002973096042383686962429497294203029440325568139392552012360279697383464414251485353079927634088014941797699791528922397457448410054821902694692404743408445167581855105380850380834039096339088252777696442192193370360217080846369141876225840899537606342258660484584108684646765977553934170670556000024237726041061089279398133079157571881996822625807451418077952405766066371074555796635850222141865266019816140711379094171898689164645342816877270536642434639803300447383298341604484887606691471428561857702373776687480145262838540132260252888913403644047478490988519557441354111430575039478102612189775472417613195528309130783904515819043812738352933342383773878020412525858838636328267257950403944402731998997798272782578406367935251657729344568469490684864129368898984715824953906363504065960549546131236544370445604110118901512041377592328633442331314797140604309339213016883361650375022378450011664081380872052609593600178648264701361779151537115302632878408200835045082831663444894047444302237027015723038004976846764793315337782557854606148441978887772083035548855629922477759722939282048965231775901757786004942373704235075873614022664668870626142133731784999096487567091377880875397412099557924716549065272975008206250383861834326012954814085509253173996479764664999870311616401095306138988157083984485862284345312719324334637582683551809953431173706970710287747064572226551336309845608804177600682221855347267027319773130860546022540702000801353861999131
theorem kcX12_middle : CK cX12_middle ncX12_middle 640 := ⟨by decide +kernel, by decide +kernel⟩
theorem dX12_middle_0 : decode cX12_middle 0 = .ok (.iload_n 1, 1) := dl_o27 kcX12_middle (by decide +kernel)
theorem dX12_middle_1 : decode cX12_middle 1 = .ok (.tableswitch 633 48 78 #[139, 153, 167, 167, 167, 167, 167, 167, 173, 173, 179, 179, 173, 185, 197, 197, 203, 203, 257, 304, 350, 356, 387, 387, 459, 538, 538, 607, 607, 617, 617], 139) := by decide +kernel
theorem dX12_middle_140 : decode cX12_middle 140 = .ok (.aload_n 0, 1) := dl_o42 kcX12_middle (by decide +kernel)
theorem dX12_middle_141 : decode cX12_middle 141 = .ok (.aload_n 0, 1) := dl_o42 kcX12_middle (by decide +kernel)
theorem dX12_middle_142 : decode cX12_middle 142 = .ok (.getfield 73, 3) := dl_o180 kcX12_middle (by decide +kernel)
theorem dX12_middle_145 : decode cX12_middle 145 = .ok (.aload_n 0, 1) := dl_o42 kcX12_middle (by decide +kernel)
theorem dX12_middle_146 : decode cX12_middle 146 = .ok (.getfield 79, 3) := dl_o180 kcX12_middle (by decide +kernel)
theorem dX12_middle_149 : decode cX12_middle 149 = .ok (.iconst 2, 1) := dl_o5 kcX12_middle (by decide +kernel)
theorem dX12_middle_150 : decode cX12_middle 150 = .ok (.invokevirtual 658, 3) := dl_o182 kcX12_middle (by decide +kernel)
theorem dX12_middle_153 : decode cX12_middle 153 = .ok (.return_, 1) := dl_o177 kcX12_middle (by decide +kernel)
theorem dX12_middle_154 : decode cX12_middle 154 = .ok (.aload_n 0, 1) := dl_o42 kcX12_middle (by decide +kernel)
theorem dX12_middle_155 : decode cX12_middle 155 = .ok (.aload_n 0, 1) := dl_o42 kcX12_middle (by decide +kernel)
theorem dX12_middle_156 : decode cX12_middle 156 = .ok (.getfield 70, 3) := dl_o180 kcX12_middle (by decide +kernel)
theorem dX12_middle_159 : decode cX12_middle 159 = .ok (.aload_n 0, 1) := dl_o42 kcX12_middle (by decide +kernel)
theorem dX12_middle_160 : decode cX12_middle 160 = .ok (.getfield 76, 3) := dl_o180 kcX12_middle (by decide +kernel)
theorem dX12_middle_163 : decode cX12_middle 163 = .ok (.iconst 1, 1) := dl_o4 kcX12_middle (by decide +kernel)
theorem dX12_middle_164 : decode cX12_middle 164 = .ok (.invokevirtual 658, 3) := dl_o182 kcX12_middle (by decide +kernel)
theorem dX12_middle_167 : decode cX12_middle 167 = .ok (.return_, 1) := dl_o177 kcX12_middle (by decide +kernel)
theorem dX12_middle_168 : decode cX12_middle 168 = .ok (.aload_n 0, 1) := dl_o42 kcX12_middle (by decide +kernel)
theorem dX12_middle_169 : decode cX12_middle 169 = .ok (.iload_n 1, 1) := dl_o27 kcX12_middle (by decide +kernel)
theorem dX12_middle_170 : decode cX12_middle 170 = .ok (.invokevirtual 662, 3) := dl_o182 kcX12_middle (by decide +kernel)
theorem dX12_middle_173 : decode cX12_middle 173 = .ok (.return_, 1) := dl_o177 kcX12_middle (by decide +kernel)
theorem dX12_middle_174 : decode cX12_middle 174 = .ok (.aload_n 0, 1) := dl_o42 kcX12_middle (by decide +kernel)
theorem dX12_middle_175 : decode cX12_middle 175 = .ok (.iload_n 1, 1) := dl_o27 kcX12_middle (by decide +kernel)
theorem dX12_middle_176 : decode cX12_middle 176 = .ok (.invokevirtual 665, 3) := dl_o182 kcX12_middle (by decide +kernel)
theorem dX12_middle_179 : decode cX12_middle 179 = .ok (.return_, 1) := dl_o177 kcX12_middle (by decide +kernel)
theorem dX12_middle_180 : decode cX12_middle 180 = .ok (.aload_n 0, 1) := dl_o42 kcX12_middle (by decide +kernel)
theorem dX12_middle_181 : decode cX12_middle 181 = .ok (.iload_n 1, 1) := dl_o27 kcX12_middle (by decide +kernel)
theorem dX12_middle_182 : decode cX12_middle 182 = .ok (.invokevirtual 668, 3) := dl_o182 kcX12_middle (by decide +kernel)
theorem dX12_middle_185 : decode cX12_middle 185 = .ok (.return_, 1) := dl_o177 kcX12_middle (by decide +kernel)
theorem dX12_middle_186 : decode cX12_middle 186 = .ok (.aload_n 0, 1) := dl_o42 kcX12_middle (by decide +kernel)
theorem dX12_middle_187 : decode cX12_middle 187 = .ok (.bipush 61, 2) := dl_o16 kcX12_middle 61 (by decide +kernel) (by decide +kernel)
theorem dX12_middle_189 : decode cX12_middle 189 = .ok (.bipush 32, 2) := dl_o16 kcX12_middle 32 (by decide +kernel) (by decide +kernel)
theorem dX12_middle_191 : decode cX12_middle 191 = .ok (.iconst 0, 1) := dl_o3 kcX12_middle (by decide +kernel)
theorem dX12_middle_192 : decode cX12_middle 192 = .ok (.bipush 16, 2) := dl_o16 kcX12_middle 16 (by decide +kernel) (by decide +kernel)
theorem dX12_middle_194 : decode cX12_middle 194 = .ok (.invokevirtual 472, 3) := dl_o182 kcX12_middle (by decide +kernel)
theorem dX12_middle_197 : decode cX12_middle 197 = .ok (.return_, 1) := dl_o177 kcX12_middle (by decide +kernel)
theorem dX12_middle_198 : decode cX12_middle 198 = .ok (.aload_n 0, 1) := dl_o42 kcX12_middle (by decide +kernel)
theorem dX12_middle_199 : decode cX12_middle 199 = .ok (.iload_n 1, 1) := dl_o27 kcX12_middle (by decide +kernel)
theorem dX12_middle_200 : decode cX12_middle 200 = .ok (.invokevirtual 671, 3) := dl_o182 kcX12_middle (by decide +kernel)
theorem dX12_middle_203 : decode cX12_middle 203 = .ok (.return_, 1) := dl_o177 kcX12_middle (by decide +kernel)
theorem dX12_middle_204 : decode cX12_middle 204 = .ok (.aload_n 0, 1) := dl_o42 kcX12_middle (by decide +kernel)
theorem dX12_middle_205 : decode cX12_middle 205 = .ok (.getfield 496, 3) := dl_o180 kcX12_middle (by decide +kernel)
theorem dX12_middle_208 : decode cX12_middle 208 = .ok (.aload_n 0, 1) := dl_o42 kcX12_middle (by decide +kernel)
theorem dX12_middle_209 : decode cX12_middle 209 = .ok (.getfield 97, 3) := dl_o180 kcX12_middle (by decide +kernel)
theorem dX12_middle_212 : decode cX12_middle 212 = .ok (.aload_n 0, 1) := dl_o42 kcX12_middle (by decide +kernel)
theorem dX12_middle_213 : decode cX12_middle 213 = .ok (.getfield 427, 3) := dl_o180 kcX12_middle (by decide +kernel)
theorem dX12_middle_216 : decode cX12_middle 216 = .ok (.iaload, 1) := dl_o46 kcX12_middle (by decide +kernel)
theorem dX12_middle_217 : decode cX12_middle 217 = .ok (.if_icmp .lt 11, 3) := dl_o161 kcX12_middle 11 (by decide +kernel) (by decide +kernel)
theorem dX12_middle_220 : decode cX12_middle 220 = .ok (.aload_n 0, 1) := dl_o42 kcX12_middle (by decide +kernel)
theorem dX12_middle_221 : decode cX12_middle 221 = .ok (.iconst 4, 1) := dl_o7 kcX12_middle (by decide +kernel)
theorem dX12_middle_222 : decode cX12_middle 222 = .ok (.invokevirtual 421, 3) := dl_o182 kcX12_middle (by decide +kernel)
theorem dX12_middle_225 : decode cX12_middle 225 = .ok (.goto 32, 3) := dl_o167 kcX12_middle 32 (by decide +kernel) (by decide +kernel)
theorem dX12_middle_228 : decode cX12_middle 228 = .ok (.aload_n 0, 1) := dl_o42 kcX12_middle (by decide +kernel)
theorem dX12_middle_229 : decode cX12_middle 229 = .ok (.aload_n 0, 1) := dl_o42 kcX12_middle (by decide +kernel)
theorem dX12_middle_230 : decode cX12_middle 230 = .ok (.aload_n 0, 1) := dl_o42 kcX12_middle (by decide +kernel)
theorem dX12_middle_231 : decode cX12_middle 231 = .ok (.getfield 496, 3) := dl_o180 kcX12_middle (by decide +kernel)
theorem dX12_middle_234 : decode cX12_middle 234 = .ok (.invokevirtual 430, 3) := dl_o182 kcX12_middle (by decide +kernel)
theorem dX12_middle_237 : decode cX12_middle 237 = .ok (.iload_n 1, 1) := dl_o27 kcX12_middle (by decide +kernel)
theorem dX12_middle_238 : decode cX12_middle 238 = .ok (.bipush 65, 2) := dl_o16 kcX12_middle 65 (by decide +kernel) (by decide +kernel)
theorem dX12_middle_240 : decode cX12_middle 240 = .ok (.if_icmp .ne 7, 3) := dl_o160 kcX12_middle 7 (by decide +kernel) (by decide +kernel)
theorem dX12_middle_243 : decode cX12_middle 243 = .ok (.iconst 1, 1) := dl_o4 kcX12_middle (by decide +kernel)
theorem dX12_middle_244 : decode cX12_middle 244 = .ok (.goto 4, 3) := dl_o167 kcX12_middle 4 (by decide +kernel) (by decide +kernel)
theorem dX12_middle_247 : decode cX12_middle 247 = .ok (.iconst 0, 1) := dl_o3 kcX12_middle (by decide +kernel)
theorem dX12_middle_248 : decode cX12_middle 248 = .ok (.aload_n 0, 1) := dl_o42 kcX12_middle (by decide +kernel)
theorem dX12_middle_249 : decode cX12_middle 249 = .ok (.getfield 496, 3) := dl_o180 kcX12_middle (by decide +kernel)
theorem dX12_middle_252 : decode cX12_middle 252 = .ok (.iconst 1, 1) := dl_o4 kcX12_middle (by decide +kernel)
theorem dX12_middle_253 : decode cX12_middle 253 = .ok (.iadd, 1) := dl_o96 kcX12_middle (by decide +kernel)
theorem dX12_middle_254 : decode cX12_middle 254 = .ok (.invokevirtual 551, 3) := dl_o182 kcX12_middle (by decide +kernel)
theorem dX12_middle_257 : decode cX12_middle 257 = .ok (.return_, 1) := dl_o177 kcX12_middle (by decide +kernel)
theorem dX12_middle_258 : decode cX12_middle 258 = .ok (.aload_n 0, 1) := dl_o42 kcX12_middle (by decide +kernel)
theorem dX12_middle_259 : decode cX12_middle 259 = .ok (.iconst 2, 1) := dl_o5 kcX12_middle (by decide +kernel)
theorem dX12_middle_260 : decode cX12_middle 260 = .ok (.invokevirtual 576, 3) := dl_o182 kcX12_middle (by decide +kernel)
theorem dX12_middle_263 : decode cX12_middle 263 = .ok (.ifCond .eq 41, 3) := dl_o153 kcX12_middle 41 (by decide +kernel) (by decide +kernel)
theorem dX12_middle_266 : decode cX12_middle 266 = .ok (.aload_n 0, 1) := dl_o42 kcX12_middle (by decide +kernel)
theorem dX12_middle_267 : decode cX12_middle 267 = .ok (.invokevirtual 579, 3) := dl_o182 kcX12_middle (by decide +kernel)
theorem dX12_middle_270 : decode cX12_middle 270 = .ok (.istore_n 2, 1) := dl_o61 kcX12_middle (by decide +kernel)
theorem dX12_middle_271 : decode cX12_middle 271 = .ok (.aload_n 0, 1) := dl_o42 kcX12_middle (by decide +kernel)
theorem dX12_middle_272 : decode cX12_middle 272 = .ok (.invokevirtual 579, 3) := dl_o182 kcX12_middle (by decide +kernel)
theorem dX12_middle_275 : decode cX12_middle 275 = .ok (.istore_n 3, 1) := dl_o62 kcX12_middle (by decide +kernel)
theorem dX12_middle_276 : decode cX12_middle 276 = .ok (.iload_n 3, 1) := dl_o29 kcX12_middle (by decide +kernel)
theorem dX12_middle_277 : decode cX12_middle 277 = .ok (.ifCond .lt 11, 3) := dl_o155 kcX12_middle 11 (by decide +kernel) (by decide +kernel)
theorem dX12_middle_280 : decode cX12_middle 280 = .ok (.iload_n 3, 1) := dl_o29 kcX12_middle (by decide +kernel)
theorem dX12_middle_281 : decode cX12_middle 281 = .ok (.aload_n 0, 1) := dl_o42 kcX12_middle (by decide +kernel)
theorem dX12_middle_282 : decode cX12_middle 282 = .ok (.getfield 319, 3) := dl_o180 kcX12_middle (by decide +kernel)
theorem dX12_middle_285 : decode cX12_middle 285 = .ok (.if_icmp .lt 12, 3) := dl_o161 kcX12_middle 12 (by decide +kernel) (by decide +kernel)
theorem dX12_middle_288 : decode cX12_middle 288 = .ok (.aload_n 0, 1) := dl_o42 kcX12_middle (by decide +kernel)
theorem dX12_middle_289 : decode cX12_middle 289 = .ok (.bipush 6, 2) := dl_o16 kcX12_middle 6 (by decide +kernel) (by decide +kernel)
theorem dX12_middle_291 : decode cX12_middle 291 = .ok (.invokevirtual 421, 3) := dl_o182 kcX12_middle (by decide +kernel)
theorem dX12_middle_294 : decode cX12_middle 294 = .ok (.goto 10, 3) := dl_o167 kcX12_middle 10 (by decide +kernel) (by decide +kernel)
theorem dX12_middle_297 : decode cX12_middle 297 = .ok (.aload_n 0, 1) := dl_o42 kcX12_middle (by decide +kernel)
theorem dX12_middle_298 : decode cX12_middle 298 = .ok (.getfield 67, 3) := dl_o180 kcX12_middle (by decide +kernel)
theorem dX12_middle_301 : decode cX12_middle 301 = .ok (.iload_n 3, 1) := dl_o29 kcX12_middle (by decide +kernel)
theorem dX12_middle_302 : decode cX12_middle 302 = .ok (.iload_n 2, 1) := dl_o28 kcX12_middle (by decide +kernel)
theorem dX12_middle_303 : decode cX12_middle 303 = .ok (.iastore, 1) := dl_o79 kcX12_middle (by decide +kernel)
theorem dX12_middle_304 : decode cX12_middle 304 = .ok (.return_, 1) := dl_o177 kcX12_middle (by decide +kernel)
theorem dX12_middle_305 : decode cX12_middle 305 = .ok (.aload_n 0, 1) := dl_o42 kcX12_middle (by decide +kernel)
theorem dX12_middle_306 : decode cX12_middle 306 = .ok (.iconst 1, 1) := dl_o4 kcX12_middle (by decide +kernel)
theorem dX12_middle_307 : decode cX12_middle 307 = .ok (.invokevirtual 576, 3) := dl_o182 kcX12_middle (by decide +kernel)
theorem dX12_middle_310 : decode cX12_middle 310 = .ok (.ifCond .eq 40, 3) := dl_o153 kcX12_middle 40 (by decide +kernel) (by decide +kernel)
theorem dX12_middle_313 : decode cX12_middle 313 = .ok (.aload_n 0, 1) := dl_o42 kcX12_middle (by decide +kernel)
theorem dX12_middle_314 : decode cX12_middle 314 = .ok (.invokevirtual 579, 3) := dl_o182 kcX12_middle (by decide +kernel)
theorem dX12_middle_317 : decode cX12_middle 317 = .ok (.istore_n 2, 1) := dl_o61 kcX12_middle (by decide +kernel)
theorem dX12_middle_318 : decode cX12_middle 318 = .ok (.iload_n 2, 1) := dl_o28 kcX12_middle (by decide +kernel)
theorem dX12_middle_319 : decode cX12_middle 319 = .ok (.ifCond .lt 11, 3) := dl_o155 kcX12_middle 11 (by decide +kernel) (by decide +kernel)
theorem dX12_middle_322 : decode cX12_middle 322 = .ok (.iload_n 2, 1) := dl_o28 kcX12_middle (by decide +kernel)
theorem dX12_middle_323 : decode cX12_middle 323 = .ok (.aload_n 0, 1) := dl_o42 kcX12_middle (by decide +kernel)
theorem dX12_middle_324 : decode cX12_middle 324 = .ok (.getfield 319, 3) := dl_o180 kcX12_middle (by decide +kernel)
theorem dX12_middle_327 : decode cX12_middle 327 = .ok (.if_icmp .lt 12, 3) := dl_o161 kcX12_middle 12 (by decide +kernel) (by decide +kernel)
theorem dX12_middle_330 : decode cX12_middle 330 = .ok (.aload_n 0, 1) := dl_o42 kcX12_middle (by decide +kernel)
theorem dX12_middle_331 : decode cX12_middle 331 = .ok (.bipush 6, 2) := dl_o16 kcX12_middle 6 (by decide +kernel) (by decide +kernel)
theorem dX12_middle_333 : decode cX12_middle 333 = .ok (.invokevirtual 421, 3) := dl_o182 kcX12_middle (by decide +kernel)
theorem dX12_middle_336 : decode cX12_middle 336 = .ok (.goto 14, 3) := dl_o167 kcX12_middle 14 (by decide +kernel) (by decide +kernel)
theorem dX12_middle_339 : decode cX12_middle 339 = .ok (.aload_n 0, 1) := dl_o42 kcX12_middle (by decide +kernel)
theorem dX12_middle_340 : decode cX12_middle 340 = .ok (.aload_n 0, 1) := dl_o42 kcX12_middle (by decide +kernel)
theorem dX12_middle_341 : decode cX12_middle 341 = .ok (.getfield 67, 3) := dl_o180 kcX12_middle (by decide +kernel)
theorem dX12_middle_344 : decode cX12_middle 344 = .ok (.iload_n 2, 1) := dl_o28 kcX12_middle (by decide +kernel)
theorem dX12_middle_345 : decode cX12_middle 345 = .ok (.iaload, 1) := dl_o46 kcX12_middle (by decide +kernel)
theorem dX12_middle_346 : decode cX12_middle 346 = .ok (.i2l, 1) := dl_o133 kcX12_middle (by decide +kernel)
theorem dX12_middle_347 : decode cX12_middle 347 = .ok (.invokevirtual 564, 3) := dl_o182 kcX12_middle (by decide +kernel)
theorem dX12_middle_350 : decode cX12_middle 350 = .ok (.return_, 1) := dl_o177 kcX12_middle (by decide +kernel)
theorem dX12_middle_351 : decode cX12_middle 351 = .ok (.aload_n 0, 1) := dl_o42 kcX12_middle (by decide +kernel)
theorem dX12_middle_352 : decode cX12_middle 352 = .ok (.iconst 0, 1) := dl_o3 kcX12_middle (by decide +kernel)
theorem dX12_middle_353 : decode cX12_middle 353 = .ok (.invokevirtual 674, 3) := dl_o182 kcX12_middle (by decide +kernel)
theorem dX12_middle_356 : decode cX12_middle 356 = .ok (.return_, 1) := dl_o177 kcX12_middle (by decide +kernel)
theorem dX12_middle_357 : decode cX12_middle 357 = .ok (.aload_n 0, 1) := dl_o42 kcX12_middle (by decide +kernel)
theorem dX12_middle_358 : decode cX12_middle 358 = .ok (.iconst 1, 1) := dl_o4 kcX12_middle (by decide +kernel)
theorem dX12_middle_359 : decode cX12_middle 359 = .ok (.invokevirtual 576, 3) := dl_o182 kcX12_middle (by decide +kernel)
theorem dX12_middle_362 : decode cX12_middle 362 = .ok (.ifCond .eq 25, 3) := dl_o153 kcX12_middle 25 (by decide +kernel) (by decide +kernel)
theorem dX12_middle_365 : decode cX12_middle 365 = .ok (.aload_n 0, 1) := dl_o42 kcX12_middle (by decide +kernel)
theorem dX12_middle_366 : decode cX12_middle 366 = .ok (.aload_n 0, 1) := dl_o42 kcX12_middle (by decide +kernel)
theorem dX12_middle_367 : decode cX12_middle 367 = .ok (.invokevirtual 579, 3) := dl_o182 kcX12_middle (by decide +kernel)
theorem dX12_middle_370 : decode cX12_middle 370 = .ok (.invokevirtual 677, 3) := dl_o182 kcX12_middle (by decide +kernel)
theorem dX12_middle_373 : decode cX12_middle 373 = .ok (.istore_n 2, 1) := dl_o61 kcX12_middle (by decide +kernel)
theorem dX12_middle_374 : decode cX12_middle 374 = .ok (.aload_n 0, 1) := dl_o42 kcX12_middle (by decide +kernel)
theorem dX12_middle_375 : decode cX12_middle 375 = .ok (.getfield 409, 3) := dl_o180 kcX12_middle (by decide +kernel)
theorem dX12_middle_378 : decode cX12_middle 378 = .ok (.ifCond .ne 9, 3) := dl_o154 kcX12_middle 9 (by decide +kernel) (by decide +kernel)
theorem dX12_middle_381 : decode cX12_middle 381 = .ok (.aload_n 0, 1) := dl_o42 kcX12_middle (by decide +kernel)
theorem dX12_middle_382 : decode cX12_middle 382 = .ok (.iload_n 2, 1) := dl_o28 kcX12_middle (by decide +kernel)
theorem dX12_middle_383 : decode cX12_middle 383 = .ok (.i2l, 1) := dl_o133 kcX12_middle (by decide +kernel)
theorem dX12_middle_384 : decode cX12_middle 384 = .ok (.invokevirtual 564, 3) := dl_o182 kcX12_middle (by decide +kernel)
theorem dX12_middle_387 : decode cX12_middle 387 = .ok (.return_, 1) := dl_o177 kcX12_middle (by decide +kernel)
theorem dX12_middle_388 : decode cX12_middle 388 = .ok (.aload_n 0, 1) := dl_o42 kcX12_middle (by decide +kernel)
theorem dX12_middle_389 : decode cX12_middle 389 = .ok (.iconst 1, 1) := dl_o4 kcX12_middle (by decide +kernel)
theorem dX12_middle_390 : decode cX12_middle 390 = .ok (.invokevirtual 576, 3) := dl_o182 kcX12_middle (by decide +kernel)
theorem dX12_middle_393 : decode cX12_middle 393 = .ok (.ifCond .eq 66, 3) := dl_o153 kcX12_middle 66 (by decide +kernel) (by decide +kernel)
theorem dX12_middle_396 : decode cX12_middle 396 = .ok (.aload_n 0, 1) := dl_o42 kcX12_middle (by decide +kernel)
theorem dX12_middle_397 : decode cX12_middle 397 = .ok (.aload_n 0, 1) := dl_o42 kcX12_middle (by decide +kernel)
theorem dX12_middle_398 : decode cX12_middle 398 = .ok (.getfield 466, 3) := dl_o180 kcX12_middle (by decide +kernel)
theorem dX12_middle_401 : decode cX12_middle 401 = .ok (.aload_n 0, 1) := dl_o42 kcX12_middle (by decide +kernel)
theorem dX12_middle_402 : decode cX12_middle 402 = .ok (.invokevirtual 579, 3) := dl_o182 kcX12_middle (by decide +kernel)
theorem dX12_middle_405 : decode cX12_middle 405 = .ok (.invokevirtual 582, 3) := dl_o182 kcX12_middle (by decide +kernel)
theorem dX12_middle_408 : decode cX12_middle 408 = .ok (.istore_n 2, 1) := dl_o61 kcX12_middle (by decide +kernel)
theorem dX12_middle_409 : decode cX12_middle 409 = .ok (.aload_n 0, 1) := dl_o42 kcX12_middle (by decide +kernel)
theorem dX12_middle_410 : decode cX12_middle 410 = .ok (.getfield 409, 3) := dl_o180 kcX12_middle (by decide +kernel)
theorem dX12_middle_413 : decode cX12_middle 413 = .ok (.ifCond .ne 46, 3) := dl_o154 kcX12_middle 46 (by decide +kernel) (by decide +kernel)
theorem dX12_middle_416 : decode cX12_middle 416 = .ok (.aload_n 0, 1) := dl_o42 kcX12_middle (by decide +kernel)
theorem dX12_middle_417 : decode cX12_middle 417 = .ok (.iload_n 1, 1) := dl_o27 kcX12_middle (by decide +kernel)
theorem dX12_middle_418 : decode cX12_middle 418 = .ok (.bipush 70, 2) := dl_o16 kcX12_middle 70 (by decide +kernel) (by decide +kernel)
theorem dX12_middle_420 : decode cX12_middle 420 = .ok (.if_icmp .ne 12, 3) := dl_o160 kcX12_middle 12 (by decide +kernel) (by decide +kernel)
theorem dX12_middle_423 : decode cX12_middle 423 = .ok (.aload_n 0, 1) := dl_o42 kcX12_middle (by decide +kernel)
theorem dX12_middle_424 : decode cX12_middle 424 = .ok (.iload_n 2, 1) := dl_o28 kcX12_middle (by decide +kernel)
theorem dX12_middle_425 : decode cX12_middle 425 = .ok (.invokevirtual 644, 3) := dl_o182 kcX12_middle (by decide +kernel)
theorem dX12_middle_428 : decode cX12_middle 428 = .ok (.i2l, 1) := dl_o133 kcX12_middle (by decide +kernel)
theorem dX12_middle_429 : decode cX12_middle 429 = .ok (.goto 27, 3) := dl_o167 kcX12_middle 27 (by decide +kernel) (by decide +kernel)
theorem dX12_middle_432 : decode cX12_middle 432 = .ok (.aload_n 0, 1) := dl_o42 kcX12_middle (by decide +kernel)
theorem dX12_middle_433 : decode cX12_middle 433 = .ok (.getfield 70, 3) := dl_o180 kcX12_middle (by decide +kernel)
theorem dX12_middle_436 : decode cX12_middle 436 = .ok (.iload_n 2, 1) := dl_o28 kcX12_middle (by decide +kernel)
theorem dX12_middle_437 : decode cX12_middle 437 = .ok (.iaload, 1) := dl_o46 kcX12_middle (by decide +kernel)
theorem dX12_middle_438 : decode cX12_middle 438 = .ok (.aload_n 0, 1) := dl_o42 kcX12_middle (by decide +kernel)
theorem dX12_middle_439 : decode cX12_middle 439 = .ok (.getfield 73, 3) := dl_o180 kcX12_middle (by decide +kernel)
theorem dX12_middle_442 : decode cX12_middle 442 = .ok (.iload_n 2, 1) := dl_o28 kcX12_middle (by decide +kernel)
theorem dX12_middle_443 : decode cX12_middle 443 = .ok (.iaload, 1) := dl_o46 kcX12_middle (by decide +kernel)
theorem dX12_middle_444 : decode cX12_middle 444 = .ok (.aload_n 0, 1) := dl_o42 kcX12_middle (by decide +kernel)
theorem dX12_middle_445 : decode cX12_middle 445 = .ok (.getfield 445, 3) := dl_o180 kcX12_middle (by decide +kernel)
theorem dX12_middle_448 : decode cX12_middle 448 = .ok (.aload_n 0, 1) := dl_o42 kcX12_middle (by decide +kernel)
theorem dX12_middle_449 : decode cX12_middle 449 = .ok (.getfield 448, 3) := dl_o180 kcX12_middle (by decide +kernel)
theorem dX12_middle_452 : decode cX12_middle 452 = .ok (.invokestatic 520, 3) := dl_o184 kcX12_middle (by decide +kernel)
theorem dX12_middle_455 : decode cX12_middle 455 = .ok (.i2l, 1) := dl_o133 kcX12_middle (by decide +kernel)
theorem dX12_middle_456 : decode cX12_middle 456 = .ok (.invokevirtual 564, 3) := dl_o182 kcX12_middle (by decide +kernel)
theorem dX12_middle_459 : decode cX12_middle 459 = .ok (.return_, 1) := dl_o177 kcX12_middle (by decide +kernel)
theorem dX12_middle_460 : decode cX12_middle 460 = .ok (.aload_n 0, 1) := dl_o42 kcX12_middle (by decide +kernel)
theorem dX12_middle_461 : decode cX12_middle 461 = .ok (.iconst 2, 1) := dl_o5 kcX12_middle (by decide +kernel)
theorem dX12_middle_462 : decode cX12_middle 462 = .ok (.invokevirtual 576, 3) := dl_o182 kcX12_middle (by decide +kernel)
theorem dX12_middle_465 : decode cX12_middle 465 = .ok (.ifCond .eq 73, 3) := dl_o153 kcX12_middle 73 (by decide +kernel) (by decide +kernel)
theorem dX12_middle_468 : decode cX12_middle 468 = .ok (.aload_n 0, 1) := dl_o42 kcX12_middle (by decide +kernel)
theorem dX12_middle_469 : decode cX12_middle 469 = .ok (.invokevirtual 579, 3) := dl_o182 kcX12_middle (by decide +kernel)
theorem dX12_middle_472 : decode cX12_middle 472 = .ok (.istore_n 2, 1) := dl_o61 kcX12_middle (by decide +kernel)
theorem dX12_middle_473 : decode cX12_middle 473 = .ok (.aload_n 0, 1) := dl_o42 kcX12_middle (by decide +kernel)
theorem dX12_middle_474 : decode cX12_middle 474 = .ok (.aload_n 0, 1) := dl_o42 kcX12_middle (by decide +kernel)
theorem dX12_middle_475 : decode cX12_middle 475 = .ok (.getfield 466, 3) := dl_o180 kcX12_middle (by decide +kernel)
theorem dX12_middle_478 : decode cX12_middle 478 = .ok (.aload_n 0, 1) := dl_o42 kcX12_middle (by decide +kernel)
theorem dX12_middle_479 : decode cX12_middle 479 = .ok (.invokevirtual 579, 3) := dl_o182 kcX12_middle (by decide +kernel)
theorem dX12_middle_482 : decode cX12_middle 482 = .ok (.invokevirtual 582, 3) := dl_o182 kcX12_middle (by decide +kernel)
theorem dX12_middle_485 : decode cX12_middle 485 = .ok (.istore_n 3, 1) := dl_o62 kcX12_middle (by decide +kernel)
theorem dX12_middle_486 : decode cX12_middle 486 = .ok (.aload_n 0, 1) := dl_o42 kcX12_middle (by decide +kernel)
theorem dX12_middle_487 : decode cX12_middle 487 = .ok (.getfield 409, 3) := dl_o180 kcX12_middle (by decide +kernel)
theorem dX12_middle_490 : decode cX12_middle 490 = .ok (.ifCond .ne 48, 3) := dl_o154 kcX12_middle 48 (by decide +kernel) (by decide +kernel)
theorem dX12_middle_493 : decode cX12_middle 493 = .ok (.aload_n 0, 1) := dl_o42 kcX12_middle (by decide +kernel)
theorem dX12_middle_494 : decode cX12_middle 494 = .ok (.iload_n 3, 1) := dl_o29 kcX12_middle (by decide +kernel)
theorem dX12_middle_495 : decode cX12_middle 495 = .ok (.iload_n 2, 1) := dl_o28 kcX12_middle (by decide +kernel)
theorem dX12_middle_496 : decode cX12_middle 496 = .ok (.i2l, 1) := dl_o133 kcX12_middle (by decide +kernel)
theorem dX12_middle_497 : decode cX12_middle 497 = .ok (.aload_n 0, 1) := dl_o42 kcX12_middle (by decide +kernel)
theorem dX12_middle_498 : decode cX12_middle 498 = .ok (.iload_n 3, 1) := dl_o29 kcX12_middle (by decide +kernel)
theorem dX12_middle_499 : decode cX12_middle 499 = .ok (.invokevirtual 644, 3) := dl_o182 kcX12_middle (by decide +kernel)
theorem dX12_middle_502 : decode cX12_middle 502 = .ok (.i2l, 1) := dl_o133 kcX12_middle (by decide +kernel)
theorem dX12_middle_503 : decode cX12_middle 503 = .ok (.lsub, 1) := dl_o101 kcX12_middle (by decide +kernel)
theorem dX12_middle_504 : decode cX12_middle 504 = .ok (.invokevirtual 630, 3) := dl_o182 kcX12_middle (by decide +kernel)
theorem dX12_middle_507 : decode cX12_middle 507 = .ok (.aload_n 0, 1) := dl_o42 kcX12_middle (by decide +kernel)
theorem dX12_middle_508 : decode cX12_middle 508 = .ok (.getfield 466, 3) := dl_o180 kcX12_middle (by decide +kernel)
theorem dX12_middle_511 : decode cX12_middle 511 = .ok (.ifCond .ne 27, 3) := dl_o154 kcX12_middle 27 (by decide +kernel) (by decide +kernel)
theorem dX12_middle_514 : decode cX12_middle 514 = .ok (.aload_n 0, 1) := dl_o42 kcX12_middle (by decide +kernel)
theorem dX12_middle_515 : decode cX12_middle 515 = .ok (.getfield 70, 3) := dl_o180 kcX12_middle (by decide +kernel)
theorem dX12_middle_518 : decode cX12_middle 518 = .ok (.iload_n 3, 1) := dl_o29 kcX12_middle (by decide +kernel)
theorem dX12_middle_519 : decode cX12_middle 519 = .ok (.aload_n 0, 1) := dl_o42 kcX12_middle (by decide +kernel)
theorem dX12_middle_520 : decode cX12_middle 520 = .ok (.getfield 76, 3) := dl_o180 kcX12_middle (by decide +kernel)
theorem dX12_middle_523 : decode cX12_middle 523 = .ok (.iload_n 3, 1) := dl_o29 kcX12_middle (by decide +kernel)
theorem dX12_middle_524 : decode cX12_middle 524 = .ok (.iaload, 1) := dl_o46 kcX12_middle (by decide +kernel)
theorem dX12_middle_525 : decode cX12_middle 525 = .ok (.iastore, 1) := dl_o79 kcX12_middle (by decide +kernel)
theorem dX12_middle_526 : decode cX12_middle 526 = .ok (.aload_n 0, 1) := dl_o42 kcX12_middle (by decide +kernel)
theorem dX12_middle_527 : decode cX12_middle 527 = .ok (.getfield 73, 3) := dl_o180 kcX12_middle (by decide +kernel)
theorem dX12_middle_530 : decode cX12_middle 530 = .ok (.iload_n 3, 1) := dl_o29 kcX12_middle (by decide +kernel)
theorem dX12_middle_531 : decode cX12_middle 531 = .ok (.aload_n 0, 1) := dl_o42 kcX12_middle (by decide +kernel)
theorem dX12_middle_532 : decode cX12_middle 532 = .ok (.getfield 79, 3) := dl_o180 kcX12_middle (by decide +kernel)
theorem dX12_middle_535 : decode cX12_middle 535 = .ok (.iload_n 3, 1) := dl_o29 kcX12_middle (by decide +kernel)
theorem dX12_middle_536 : decode cX12_middle 536 = .ok (.iaload, 1) := dl_o46 kcX12_middle (by decide +kernel)
theorem dX12_middle_537 : decode cX12_middle 537 = .ok (.iastore, 1) := dl_o79 kcX12_middle (by decide +kernel)
theorem dX12_middle_538 : decode cX12_middle 538 = .ok (.return_, 1) := dl_o177 kcX12_middle (by decide +kernel)
theorem dX12_middle_539 : decode cX12_middle 539 = .ok (.aload_n 0, 1) := dl_o42 kcX12_middle (by decide +kernel)
theorem dX12_middle_540 : decode cX12_middle 540 = .ok (.iconst 2, 1) := dl_o5 kcX12_middle (by decide +kernel)
theorem dX12_middle_541 : decode cX12_middle 541 = .ok (.invokevirtual 576, 3) := dl_o182 kcX12_middle (by decide +kernel)
theorem dX12_middle_544 : decode cX12_middle 544 = .ok (.ifCond .eq 63, 3) := dl_o153 kcX12_middle 63 (by decide +kernel) (by decide +kernel)
theorem dX12_middle_547 : decode cX12_middle 547 = .ok (.aload_n 0, 1) := dl_o42 kcX12_middle (by decide +kernel)
theorem dX12_middle_548 : decode cX12_middle 548 = .ok (.aload_n 0, 1) := dl_o42 kcX12_middle (by decide +kernel)
theorem dX12_middle_549 : decode cX12_middle 549 = .ok (.getfield 463, 3) := dl_o180 kcX12_middle (by decide +kernel)
theorem dX12_middle_552 : decode cX12_middle 552 = .ok (.aload_n 0, 1) := dl_o42 kcX12_middle (by decide +kernel)
theorem dX12_middle_553 : decode cX12_middle 553 = .ok (.invokevirtual 579, 3) := dl_o182 kcX12_middle (by decide +kernel)
theorem dX12_middle_556 : decode cX12_middle 556 = .ok (.invokevirtual 582, 3) := dl_o182 kcX12_middle (by decide +kernel)
theorem dX12_middle_559 : decode cX12_middle 559 = .ok (.istore_n 2, 1) := dl_o61 kcX12_middle (by decide +kernel)
theorem dX12_middle_560 : decode cX12_middle 560 = .ok (.aload_n 0, 1) := dl_o42 kcX12_middle (by decide +kernel)
theorem dX12_middle_561 : decode cX12_middle 561 = .ok (.aload_n 0, 1) := dl_o42 kcX12_middle (by decide +kernel)
theorem dX12_middle_562 : decode cX12_middle 562 = .ok (.getfield 460, 3) := dl_o180 kcX12_middle (by decide +kernel)
theorem dX12_middle_565 : decode cX12_middle 565 = .ok (.aload_n 0, 1) := dl_o42 kcX12_middle (by decide +kernel)
theorem dX12_middle_566 : decode cX12_middle 566 = .ok (.invokevirtual 579, 3) := dl_o182 kcX12_middle (by decide +kernel)
theorem dX12_middle_569 : decode cX12_middle 569 = .ok (.invokevirtual 582, 3) := dl_o182 kcX12_middle (by decide +kernel)
theorem dX12_middle_572 : decode cX12_middle 572 = .ok (.istore_n 3, 1) := dl_o62 kcX12_middle (by decide +kernel)
theorem dX12_middle_573 : decode cX12_middle 573 = .ok (.aload_n 0, 1) := dl_o42 kcX12_middle (by decide +kernel)
theorem dX12_middle_574 : decode cX12_middle 574 = .ok (.getfield 409, 3) := dl_o180 kcX12_middle (by decide +kernel)
theorem dX12_middle_577 : decode cX12_middle 577 = .ok (.ifCond .ne 30, 3) := dl_o154 kcX12_middle 30 (by decide +kernel) (by decide +kernel)
theorem dX12_middle_580 : decode cX12_middle 580 = .ok (.aload_n 0, 1) := dl_o42 kcX12_middle (by decide +kernel)
theorem dX12_middle_581 : decode cX12_middle 581 = .ok (.iload_n 1, 1) := dl_o27 kcX12_middle (by decide +kernel)
theorem dX12_middle_582 : decode cX12_middle 582 = .ok (.bipush 73, 2) := dl_o16 kcX12_middle 73 (by decide +kernel) (by decide +kernel)
theorem dX12_middle_584 : decode cX12_middle 584 = .ok (.if_icmp .ne 13, 3) := dl_o160 kcX12_middle 13 (by decide +kernel) (by decide +kernel)
theorem dX12_middle_587 : decode cX12_middle 587 = .ok (.aload_n 0, 1) := dl_o42 kcX12_middle (by decide +kernel)
theorem dX12_middle_588 : decode cX12_middle 588 = .ok (.iload_n 3, 1) := dl_o29 kcX12_middle (by decide +kernel)
theorem dX12_middle_589 : decode cX12_middle 589 = .ok (.iload_n 2, 1) := dl_o28 kcX12_middle (by decide +kernel)
theorem dX12_middle_590 : decode cX12_middle 590 = .ok (.invokevirtual 627, 3) := dl_o182 kcX12_middle (by decide +kernel)
theorem dX12_middle_593 : decode cX12_middle 593 = .ok (.i2l, 1) := dl_o133 kcX12_middle (by decide +kernel)
theorem dX12_middle_594 : decode cX12_middle 594 = .ok (.goto 10, 3) := dl_o167 kcX12_middle 10 (by decide +kernel) (by decide +kernel)
theorem dX12_middle_597 : decode cX12_middle 597 = .ok (.aload_n 0, 1) := dl_o42 kcX12_middle (by decide +kernel)
theorem dX12_middle_598 : decode cX12_middle 598 = .ok (.iload_n 3, 1) := dl_o29 kcX12_middle (by decide +kernel)
theorem dX12_middle_599 : decode cX12_middle 599 = .ok (.iload_n 2, 1) := dl_o28 kcX12_middle (by decide +kernel)
theorem dX12_middle_600 : decode cX12_middle 600 = .ok (.invokevirtual 680, 3) := dl_o182 kcX12_middle (by decide +kernel)
theorem dX12_middle_603 : decode cX12_middle 603 = .ok (.i2l, 1) := dl_o133 kcX12_middle (by decide +kernel)
theorem dX12_middle_604 : decode cX12_middle 604 = .ok (.invokevirtual 564, 3) := dl_o182 kcX12_middle (by decide +kernel)
theorem dX12_middle_607 : decode cX12_middle 607 = .ok (.return_, 1) := dl_o177 kcX12_middle (by decide +kernel)
theorem dX12_middle_608 : decode cX12_middle 608 = .ok (.aload_n 0, 1) := dl_o42 kcX12_middle (by decide +kernel)
theorem dX12_middle_609 : decode cX12_middle 609 = .ok (.aload_n 0, 1) := dl_o42 kcX12_middle (by decide +kernel)
theorem dX12_middle_610 : decode cX12_middle 610 = .ok (.getfield 621, 3) := dl_o180 kcX12_middle (by decide +kernel)
theorem dX12_middle_613 : decode cX12_middle 613 = .ok (.i2l, 1) := dl_o133 kcX12_middle (by decide +kernel)
theorem dX12_middle_614 : decode cX12_middle 614 = .ok (.invokevirtual 564, 3) := dl_o182 kcX12_middle (by decide +kernel)
theorem dX12_middle_617 : decode cX12_middle 617 = .ok (.return_, 1) := dl_o177 kcX12_middle (by decide +kernel)
theorem dX12_middle_618 : decode cX12_middle 618 = .ok (.aload_n 0, 1) := dl_o42 kcX12_middle (by decide +kernel)
theorem dX12_middle_619 : decode cX12_middle 619 = .ok (.iload_n 1, 1) := dl_o27 kcX12_middle (by decide +kernel)
theorem dX12_middle_620 : decode cX12_middle 620 = .ok (.bipush 77, 2) := dl_o16 kcX12_middle 77 (by decide +kernel) (by decide +kernel)
theorem dX12_middle_622 : decode cX12_middle 622 = .ok (.if_icmp .ne 7, 3) := dl_o160 kcX12_middle 7 (by decide +kernel) (by decide +kernel)
theorem dX12_middle_625 : decode cX12_middle 625 = .ok (.iconst 1, 1) := dl_o4 kcX12_middle (by decide +kernel)
theorem dX12_middle_626 : decode cX12_middle 626 = .ok (.goto 4, 3) := dl_o167 kcX12_middle 4 (by decide +kernel) (by decide +kernel)
theorem dX12_middle_629 : decode cX12_middle 629 = .ok (.iconst 0, 1) := dl_o3 kcX12_middle (by decide +kernel)
theorem dX12_middle_630 : decode cX12_middle 630 = .ok (.putfield 683, 3) := dl_o181 kcX12_middle (by decide +kernel)
theorem dX12_middle_633 : decode cX12_middle 633 = .ok (.return_, 1) := dl_o177 kcX12_middle (by decide +kernel)
theorem dX12_middle_634 : decode cX12_middle 634 = .ok (.aload_n 0, 1) := dl_o42 kcX12_middle (by decide +kernel)
theorem dX12_middle_635 : decode cX12_middle 635 = .ok (.iload_n 1, 1) := dl_o27 kcX12_middle (by decide +kernel)
theorem dX12_middle_636 : decode cX12_middle 636 = .ok (.invokevirtual 687, 3) := dl_o182 kcX12_middle (by decide +kernel)
theorem dX12_middle_639 : decode cX12_middle 639 = .ok (.return_, 1) := dl_o177 kcX12_middle (by decide +kernel)
def B_X12_middle_168 (N : Nat)  (l1 : Int32) (V : sv_V) : Option sv_V := (F_X12_likeReference N l1 V).bind (fun V1 => some V1)
set_option maxRecDepth 20000 in
theorem tB_X12_middle_168 {g : sx_G} (hG : sx_Go g) {P : Option Value → sv_V → Prop} {Vr : sv_V} (hP : P none Vr) {N : Nat}   {l1 : Int32} {V : sv_V} (h : B_X12_middle_168 N  l1 V = some Vr) : sv_N g qX12_middle 7 168 [(0, .ref 146), (1, .int l1)] [] V P := by
  unfold B_X12_middle_168 at h
  refine sx_aload_n (pc := 168) dX12_middle_168 sx_m0 ?_
  refine sx_iload_n (pc := 169) dX12_middle_169 sx_m1 ?_
  obtain ⟨V1, g2, h⟩ := sx_bnd h
  refine sv_cV (pc := 170) (y := qX12_likeReference) (o := none) (as := [.int l1]) (V1 := V1) hG dX12_middle_170 l_X12_662 y0X12_likeReference yvX12_likeReference rfl (Nat.le_of_ble_eq_true rfl) lay_146 kr_12 (by decide) (Nat.le_of_ble_eq_true rfl) rfl rfl rfl (t_X12_likeReference hG ⟨rfl, rfl⟩ g2) ?_
  exact sv_vret (pc := 173) dX12_middle_173 rfl h hP
def B_X12_middle_174 (N : Nat)  (l1 : Int32) (V : sv_V) : Option sv_V := (F_X12_loops N l1 V).bind (fun V3 => some V3)
set_option maxRecDepth 20000 in
theorem tB_X12_middle_174 {g : sx_G} (hG : sx_Go g) {P : Option Value → sv_V → Prop} {Vr : sv_V} (hP : P none Vr) {N : Nat}   {l1 : Int32} {V : sv_V} (h : B_X12_middle_174 N  l1 V = some Vr) : sv_N g qX12_middle 7 174 [(0, .ref 146), (1, .int l1)] [] V P := by
  unfold B_X12_middle_174 at h
  refine sx_aload_n (pc := 174) dX12_middle_174 sx_m0 ?_
  refine sx_iload_n (pc := 175) dX12_middle_175 sx_m1 ?_
  obtain ⟨V3, g4, h⟩ := sx_bnd h
  refine sv_cV (pc := 176) (y := qX12_loops) (o := none) (as := [.int l1]) (V1 := V3) hG dX12_middle_176 l_X12_665 y0X12_loops yvX12_loops rfl (Nat.le_of_ble_eq_true rfl) lay_146 kr_12 (by decide) (Nat.le_of_ble_eq_true rfl) rfl rfl rfl (t_X12_loops hG ⟨rfl, rfl⟩ g4) ?_
  exact sv_vret (pc := 179) dX12_middle_179 rfl h hP
def B_X12_middle_180 (N : Nat)  (l1 : Int32) (V : sv_V) : Option sv_V := (F_X12_toDistance l1 V).bind (fun V5 => some V5)
set_option maxRecDepth 20000 in
theorem tB_X12_middle_180 {g : sx_G} (hG : sx_Go g) {P : Option Value → sv_V → Prop} {Vr : sv_V} (hP : P none Vr) {N : Nat}   {l1 : Int32} {V : sv_V} (h : B_X12_middle_180 N  l1 V = some Vr) : sv_N g qX12_middle 7 180 [(0, .ref 146), (1, .int l1)] [] V P := by
  unfold B_X12_middle_180 at h
  refine sx_aload_n (pc := 180) dX12_middle_180 sx_m0 ?_
  refine sx_iload_n (pc := 181) dX12_middle_181 sx_m1 ?_
  obtain ⟨V5, g6, h⟩ := sx_bnd h
  refine sv_cV (pc := 182) (y := qX12_toDistance) (o := none) (as := [.int l1]) (V1 := V5) hG dX12_middle_182 l_X12_668 y0X12_toDistance yvX12_toDistance rfl (Nat.le_of_ble_eq_true rfl) lay_146 kr_12 (by decide) (Nat.le_of_ble_eq_true rfl) rfl rfl rfl (t_X12_toDistance hG ⟨rfl, rfl⟩ g6) ?_
  exact sv_vret (pc := 185) dX12_middle_185 rfl h hP
def B_X12_middle_198 (N : Nat)  (l1 : Int32) (V : sv_V) : Option sv_V := (F_X12_toCvt l1 V).bind (fun V7 => some V7)
set_option maxRecDepth 20000 in
theorem tB_X12_middle_198 {g : sx_G} (hG : sx_Go g) {P : Option Value → sv_V → Prop} {Vr : sv_V} (hP : P none Vr) {N : Nat}   {l1 : Int32} {V : sv_V} (h : B_X12_middle_198 N  l1 V = some Vr) : sv_N g qX12_middle 7 198 [(0, .ref 146), (1, .int l1)] [] V P := by
  unfold B_X12_middle_198 at h
  refine sx_aload_n (pc := 198) dX12_middle_198 sx_m0 ?_
  refine sx_iload_n (pc := 199) dX12_middle_199 sx_m1 ?_
  obtain ⟨V7, g8, h⟩ := sx_bnd h
  refine sv_cV (pc := 200) (y := qX12_toCvt) (o := none) (as := [.int l1]) (V1 := V7) hG dX12_middle_200 l_X12_671 y0X12_toCvt yvX12_toCvt rfl (Nat.le_of_ble_eq_true rfl) lay_146 kr_12 (by decide) (Nat.le_of_ble_eq_true rfl) rfl rfl rfl (t_X12_toCvt hG ⟨rfl, rfl⟩ g8) ?_
  exact sv_vret (pc := 203) dX12_middle_203 rfl h hP
def B_X12_middle_248 (N : Nat)  (s1 : Int32) (s2 : Int32) (V : sv_V) : Option sv_V := (F_X12_pushBytes N s1 s2 ((V.1 146 93) + (1 : Int32)) V).bind (fun V9 => some V9)
set_option maxRecDepth 20000 in
theorem tB_X12_middle_248 {g : sx_G} (hG : sx_Go g) {P : Option Value → sv_V → Prop} {Vr : sv_V} (hP : P none Vr) {N : Nat}   {s1 : Int32} {s2 : Int32} {V : sv_V} (h : B_X12_middle_248 N  s1 s2 V = some Vr) : sv_N g qX12_middle 7 248 [(0, .ref 146)] [.int s2, .int s1, .ref 146] V P := by
  unfold B_X12_middle_248 at h
  refine sx_aload_n (pc := 248) dX12_middle_248 sx_m0 ?_
  refine sv_getI (pc := 249) hG dX12_middle_249 f_12_496 lay_146 rfl ?_
  refine sx_iconst (pc := 252) (v := 1) dX12_middle_252 (by decide) ?_
  refine sx_iadd (pc := 253) dX12_middle_253 ?_
  obtain ⟨V9, g10, h⟩ := sx_bnd h
  refine sv_cV (pc := 254) (y := qX12_pushBytes) (o := none) (as := [.int s1, .int s2, .int ((V.1 146 93) + (1 : Int32))]) (V1 := V9) hG dX12_middle_254 l_X12_551 y0X12_pushBytes yvX12_pushBytes rfl (Nat.le_of_ble_eq_true rfl) lay_146 kr_12 (by decide) (Nat.le_of_ble_eq_true rfl) rfl rfl rfl (t_X12_pushBytes hG ⟨rfl, rfl⟩ g10) ?_
  exact sv_vret (pc := 257) dX12_middle_257 rfl h hP
def B_X12_middle_204 (N : Nat)  (l1 : Int32) (V : sv_V) : Option sv_V := if sx_in (V.1 146 92) 3 = true then if (V.1 146 93) < (V.1 175 (V.1 146 92).toNatClampNeg) then ((F_X12_codeByte (V.1 146 93) V).bind (fun (x15, V13) => if l1 = (65 : Int32) then (B_X12_middle_248 N  x15 (1 : Int32) V13) else (B_X12_middle_248 N  x15 (0 : Int32) V13))) else ((F_X12_fail (4 : Int32) V).bind (fun V17 => some V17)) else none
set_option maxRecDepth 20000 in
theorem tB_X12_middle_204 {g : sx_G} (hG : sx_Go g) {P : Option Value → sv_V → Prop} {Vr : sv_V} (hP : P none Vr) {N : Nat}   {l1 : Int32} {V : sv_V} (h : B_X12_middle_204 N  l1 V = some Vr) : sv_N g qX12_middle 7 204 [(0, .ref 146), (1, .int l1)] [] V P := by
  unfold B_X12_middle_204 at h
  refine sx_aload_n (pc := 204) dX12_middle_204 sx_m0 ?_
  refine sv_getI (pc := 205) hG dX12_middle_205 f_12_496 lay_146 rfl ?_
  refine sx_aload_n (pc := 208) dX12_middle_208 sx_m0 ?_
  refine sv_getA (pc := 209) hG dX12_middle_209 f_12_97 lay_146 rfl cr_146_90 ?_
  refine sx_aload_n (pc := 212) dX12_middle_212 sx_m0 ?_
  refine sv_getI (pc := 213) hG dX12_middle_213 f_12_427 lay_146 rfl ?_
  obtain ⟨g11, h⟩ := sx_grd h
  refine sv_iald (pc := 216) hG dX12_middle_216 lay_175 g11 ?_
  refine sx_icmp_lt (pc := 217) (tgt := 228) dX12_middle_217 (by decide) (fun c12 => ?_) (fun c12 => ?_)
  · have h := sx_pos c12 h
    refine sx_aload_n (pc := 228) dX12_middle_228 sx_m0 ?_
    refine sx_aload_n (pc := 229) dX12_middle_229 sx_m0 ?_
    refine sx_aload_n (pc := 230) dX12_middle_230 sx_m0 ?_
    refine sv_getI (pc := 231) hG dX12_middle_231 f_12_496 lay_146 rfl ?_
    obtain ⟨⟨x15, V13⟩, g14, h⟩ := sx_bnd h
    refine sv_cV (pc := 234) (y := qX12_codeByte) (o := (some (.int x15))) (as := [.int (V.1 146 93)]) (V1 := V13) hG dX12_middle_234 l_X12_430 y0X12_codeByte yvX12_codeByte rfl (Nat.le_of_ble_eq_true rfl) lay_146 kr_12 (by decide) (Nat.le_of_ble_eq_true rfl) rfl rfl rfl (t_X12_codeByte hG ⟨rfl, rfl⟩ g14) ?_
    refine sx_iload_n (pc := 237) dX12_middle_237 sx_m1 ?_
    refine sx_bipush (pc := 238) (v := 65) dX12_middle_238 (by decide) ?_
    refine sx_icmp_ne (pc := 240) (tgt := 247) dX12_middle_240 (by decide) (fun c16 => ?_) (fun c16 => ?_)
    · have h := sx_neg c16 h
      refine sx_iconst (pc := 247) (v := 0) dX12_middle_247 (by decide) ?_
      refine sx_wk (sx_s1 sx_m0 sx_s0) ?_
      exact tB_X12_middle_248 hG hP  h
    · have h := sx_pos c16 h
      refine sx_iconst (pc := 243) (v := 1) dX12_middle_243 (by decide) ?_
      refine sx_goto (pc := 244) (tgt := 248) dX12_middle_244 (by decide) ?_
      refine sx_wk (sx_s1 sx_m0 sx_s0) ?_
      exact tB_X12_middle_248 hG hP  h
  · have h := sx_neg c12 h
    refine sx_aload_n (pc := 220) dX12_middle_220 sx_m0 ?_
    refine sx_iconst (pc := 221) (v := 4) dX12_middle_221 (by decide) ?_
    obtain ⟨V17, g18, h⟩ := sx_bnd h
    refine sv_cV (pc := 222) (y := qX12_fail) (o := none) (as := [.int (4 : Int32)]) (V1 := V17) hG dX12_middle_222 l_X12_421 y0X12_fail yvX12_fail rfl (Nat.le_of_ble_eq_true rfl) lay_146 kr_12 (by decide) (Nat.le_of_ble_eq_true rfl) rfl rfl rfl (t_X12_fail hG ⟨rfl, rfl⟩ g18) ?_
    refine sx_goto (pc := 225) (tgt := 257) dX12_middle_225 (by decide) ?_
    exact sv_vret (pc := 257) dX12_middle_257 rfl h hP
def B_X12_middle_288 (N : Nat)   (V : sv_V) : Option sv_V := (F_X12_fail (6 : Int32) V).bind (fun V19 => some V19)
set_option maxRecDepth 20000 in
theorem tB_X12_middle_288 {g : sx_G} (hG : sx_Go g) {P : Option Value → sv_V → Prop} {Vr : sv_V} (hP : P none Vr) {N : Nat}    {V : sv_V} (h : B_X12_middle_288 N   V = some Vr) : sv_N g qX12_middle 7 288 [(0, .ref 146)] [] V P := by
  unfold B_X12_middle_288 at h
  refine sx_aload_n (pc := 288) dX12_middle_288 sx_m0 ?_
  refine sx_bipush (pc := 289) (v := 6) dX12_middle_289 (by decide) ?_
  obtain ⟨V19, g20, h⟩ := sx_bnd h
  refine sv_cV (pc := 291) (y := qX12_fail) (o := none) (as := [.int (6 : Int32)]) (V1 := V19) hG dX12_middle_291 l_X12_421 y0X12_fail yvX12_fail rfl (Nat.le_of_ble_eq_true rfl) lay_146 kr_12 (by decide) (Nat.le_of_ble_eq_true rfl) rfl rfl rfl (t_X12_fail hG ⟨rfl, rfl⟩ g20) ?_
  refine sx_goto (pc := 294) (tgt := 304) dX12_middle_294 (by decide) ?_
  exact sv_vret (pc := 304) dX12_middle_304 rfl h hP
def B_X12_middle_330 (N : Nat)   (V : sv_V) : Option sv_V := (F_X12_fail (6 : Int32) V).bind (fun V21 => some V21)
set_option maxRecDepth 20000 in
theorem tB_X12_middle_330 {g : sx_G} (hG : sx_Go g) {P : Option Value → sv_V → Prop} {Vr : sv_V} (hP : P none Vr) {N : Nat}    {V : sv_V} (h : B_X12_middle_330 N   V = some Vr) : sv_N g qX12_middle 7 330 [(0, .ref 146)] [] V P := by
  unfold B_X12_middle_330 at h
  refine sx_aload_n (pc := 330) dX12_middle_330 sx_m0 ?_
  refine sx_bipush (pc := 331) (v := 6) dX12_middle_331 (by decide) ?_
  obtain ⟨V21, g22, h⟩ := sx_bnd h
  refine sv_cV (pc := 333) (y := qX12_fail) (o := none) (as := [.int (6 : Int32)]) (V1 := V21) hG dX12_middle_333 l_X12_421 y0X12_fail yvX12_fail rfl (Nat.le_of_ble_eq_true rfl) lay_146 kr_12 (by decide) (Nat.le_of_ble_eq_true rfl) rfl rfl rfl (t_X12_fail hG ⟨rfl, rfl⟩ g22) ?_
  refine sx_goto (pc := 336) (tgt := 350) dX12_middle_336 (by decide) ?_
  exact sv_vret (pc := 350) dX12_middle_350 rfl h hP
def B_X12_middle_456 (N : Nat)  (s1 : Int64) (V : sv_V) : Option sv_V := (F_X12_push s1 V).bind (fun V23 => some V23)
set_option maxRecDepth 20000 in
theorem tB_X12_middle_456 {g : sx_G} (hG : sx_Go g) {P : Option Value → sv_V → Prop} {Vr : sv_V} (hP : P none Vr) {N : Nat}   {s1 : Int64} {V : sv_V} (h : B_X12_middle_456 N  s1 V = some Vr) : sv_N g qX12_middle 7 456 [] [.long s1, .ref 146] V P := by
  unfold B_X12_middle_456 at h
  obtain ⟨V23, g24, h⟩ := sx_bnd h
  refine sv_cV (pc := 456) (y := qX12_push) (o := none) (as := [.long s1]) (V1 := V23) hG dX12_middle_456 l_X12_564 y0X12_push yvX12_push rfl (Nat.le_of_ble_eq_true rfl) lay_146 kr_12 (by decide) (Nat.le_of_ble_eq_true rfl) rfl rfl rfl (t_X12_push hG ⟨rfl, rfl⟩ g24) ?_
  exact sv_vret (pc := 459) dX12_middle_459 rfl h hP
def B_X12_middle_388 (N : Nat)  (l1 : Int32) (V : sv_V) : Option sv_V := (F_X12_has (1 : Int32) V).bind (fun (x27, V25) => if x27 = 0 then (some V25) else ((F_X12_pop  V25).bind (fun (x31, V29) => (F_X12_pointOf (V25.1 146 74) x31 V29).bind (fun (x34, V32) => if (V32.1 146 59) = 0 then (if l1 = (70 : Int32) then ((F_X12_longOf x34 V32).bind (fun (x44, V42) => B_X12_middle_456 N  x44.toInt64 V42)) else (if sx_in x34 204 = true then if sx_in x34 204 = true then (F_X12_by (V32.1 166 x34.toNatClampNeg) (V32.1 167 x34.toNatClampNeg) (V32.1 146 67) (V32.1 146 68) V32).bind (fun (x41, V39) => B_X12_middle_456 N  x41.toInt64 V39) else none else none)) else (some V32)))))
set_option maxRecDepth 20000 in
theorem tB_X12_middle_388 {g : sx_G} (hG : sx_Go g) {P : Option Value → sv_V → Prop} {Vr : sv_V} (hP : P none Vr) {N : Nat}   {l1 : Int32} {V : sv_V} (h : B_X12_middle_388 N  l1 V = some Vr) : sv_N g qX12_middle 7 388 [(0, .ref 146), (1, .int l1)] [] V P := by
  unfold B_X12_middle_388 at h
  refine sx_aload_n (pc := 388) dX12_middle_388 sx_m0 ?_
  refine sx_iconst (pc := 389) (v := 1) dX12_middle_389 (by decide) ?_
  obtain ⟨⟨x27, V25⟩, g26, h⟩ := sx_bnd h
  refine sv_cV (pc := 390) (y := qX12_has) (o := (some (.int x27))) (as := [.int (1 : Int32)]) (V1 := V25) hG dX12_middle_390 l_X12_576 y0X12_has yvX12_has rfl (Nat.le_of_ble_eq_true rfl) lay_146 kr_12 (by decide) (Nat.le_of_ble_eq_true rfl) rfl rfl rfl (t_X12_has hG ⟨rfl, rfl⟩ g26) ?_
  refine sx_if_eq (pc := 393) (tgt := 459) dX12_middle_393 (by decide) (fun c28 => ?_) (fun c28 => ?_)
  · have h := sx_pos c28 h
    exact sv_vret (pc := 459) dX12_middle_459 rfl h hP
  · have h := sx_neg c28 h
    refine sx_aload_n (pc := 396) dX12_middle_396 sx_m0 ?_
    refine sx_aload_n (pc := 397) dX12_middle_397 sx_m0 ?_
    refine sv_getI (pc := 398) hG dX12_middle_398 f_12_466 lay_146 rfl ?_
    refine sx_aload_n (pc := 401) dX12_middle_401 sx_m0 ?_
    obtain ⟨⟨x31, V29⟩, g30, h⟩ := sx_bnd h
    refine sv_cV (pc := 402) (y := qX12_pop) (o := (some (.int x31))) (as := []) (V1 := V29) hG dX12_middle_402 l_X12_579 y0X12_pop yvX12_pop rfl (Nat.le_of_ble_eq_true rfl) lay_146 kr_12 (by decide) (Nat.le_of_ble_eq_true rfl) rfl rfl rfl (t_X12_pop hG ⟨rfl, rfl⟩ g30) ?_
    obtain ⟨⟨x34, V32⟩, g33, h⟩ := sx_bnd h
    refine sv_cV (pc := 405) (y := qX12_pointOf) (o := (some (.int x34))) (as := [.int (V25.1 146 74), .int x31]) (V1 := V32) hG dX12_middle_405 l_X12_582 y0X12_pointOf yvX12_pointOf rfl (Nat.le_of_ble_eq_true rfl) lay_146 kr_12 (by decide) (Nat.le_of_ble_eq_true rfl) rfl rfl rfl (t_X12_pointOf hG ⟨rfl, rfl⟩ g33) ?_
    refine sx_istore_n (pc := 408) (lo' := [(2, .int x34), (0, .ref 146), (1, .int l1)]) dX12_middle_408 (by decide) rfl ?_
    refine sx_aload_n (pc := 409) dX12_middle_409 sx_m1 ?_
    refine sv_getI (pc := 410) hG dX12_middle_410 f_12_409 lay_146 rfl ?_
    refine sx_if_ne (pc := 413) (tgt := 459) dX12_middle_413 (by decide) (fun c35 => ?_) (fun c35 => ?_)
    · have h := sx_neg c35 h
      exact sv_vret (pc := 459) dX12_middle_459 rfl h hP
    · have h := sx_pos c35 h
      refine sx_aload_n (pc := 416) dX12_middle_416 sx_m1 ?_
      refine sx_iload_n (pc := 417) dX12_middle_417 sx_m2 ?_
      refine sx_bipush (pc := 418) (v := 70) dX12_middle_418 (by decide) ?_
      refine sx_icmp_ne (pc := 420) (tgt := 432) dX12_middle_420 (by decide) (fun c36 => ?_) (fun c36 => ?_)
      · have h := sx_neg c36 h
        refine sx_aload_n (pc := 432) dX12_middle_432 sx_m1 ?_
        refine sv_getA (pc := 433) hG dX12_middle_433 f_12_70 lay_146 rfl cr_146_46 ?_
        refine sx_iload_n (pc := 436) dX12_middle_436 sx_m0 ?_
        obtain ⟨g37, h⟩ := sx_grd h
        refine sv_iald (pc := 437) hG dX12_middle_437 lay_166 g37 ?_
        refine sx_aload_n (pc := 438) dX12_middle_438 sx_m1 ?_
        refine sv_getA (pc := 439) hG dX12_middle_439 f_12_73 lay_146 rfl cr_146_47 ?_
        refine sx_iload_n (pc := 442) dX12_middle_442 sx_m0 ?_
        obtain ⟨g38, h⟩ := sx_grd h
        refine sv_iald (pc := 443) hG dX12_middle_443 lay_167 g38 ?_
        refine sx_aload_n (pc := 444) dX12_middle_444 sx_m1 ?_
        refine sv_getI (pc := 445) hG dX12_middle_445 f_12_445 lay_146 rfl ?_
        refine sx_aload_n (pc := 448) dX12_middle_448 sx_m1 ?_
        refine sv_getI (pc := 449) hG dX12_middle_449 f_12_448 lay_146 rfl ?_
        obtain ⟨⟨x41, V39⟩, g40, h⟩ := sx_bnd h
        refine sv_cS (pc := 452) (y := qX12_by) (o := (some (.int x41))) (as := [.int (V32.1 166 x34.toNatClampNeg), .int (V32.1 167 x34.toNatClampNeg), .int (V32.1 146 67), .int (V32.1 146 68)]) (V1 := V39) dX12_middle_452 l_X12_520 y0X12_by ysX12_by rfl (Nat.le_of_ble_eq_true rfl) (by decide) (Nat.le_of_ble_eq_true rfl) rfl rfl rfl (t_X12_by hG ⟨rfl, rfl⟩ g40) ?_
        refine sx_i2l (pc := 455) dX12_middle_455 ?_
        refine sx_wk sx_s0 ?_
        exact tB_X12_middle_456 hG hP  h
      · have h := sx_pos c36 h
        refine sx_aload_n (pc := 423) dX12_middle_423 sx_m1 ?_
        refine sx_iload_n (pc := 424) dX12_middle_424 sx_m0 ?_
        obtain ⟨⟨x44, V42⟩, g43, h⟩ := sx_bnd h
        refine sv_cV (pc := 425) (y := qX12_longOf) (o := (some (.int x44))) (as := [.int x34]) (V1 := V42) hG dX12_middle_425 l_X12_644 y0X12_longOf yvX12_longOf rfl (Nat.le_of_ble_eq_true rfl) lay_146 kr_12 (by decide) (Nat.le_of_ble_eq_true rfl) rfl rfl rfl (t_X12_longOf hG ⟨rfl, rfl⟩ g43) ?_
        refine sx_i2l (pc := 428) dX12_middle_428 ?_
        refine sx_goto (pc := 429) (tgt := 456) dX12_middle_429 (by decide) ?_
        refine sx_wk sx_s0 ?_
        exact tB_X12_middle_456 hG hP  h
def B_X12_middle_604 (N : Nat)  (s1 : Int64) (V : sv_V) : Option sv_V := (F_X12_push s1 V).bind (fun V45 => some V45)
set_option maxRecDepth 20000 in
theorem tB_X12_middle_604 {g : sx_G} (hG : sx_Go g) {P : Option Value → sv_V → Prop} {Vr : sv_V} (hP : P none Vr) {N : Nat}   {s1 : Int64} {V : sv_V} (h : B_X12_middle_604 N  s1 V = some Vr) : sv_N g qX12_middle 7 604 [] [.long s1, .ref 146] V P := by
  unfold B_X12_middle_604 at h
  obtain ⟨V45, g46, h⟩ := sx_bnd h
  refine sv_cV (pc := 604) (y := qX12_push) (o := none) (as := [.long s1]) (V1 := V45) hG dX12_middle_604 l_X12_564 y0X12_push yvX12_push rfl (Nat.le_of_ble_eq_true rfl) lay_146 kr_12 (by decide) (Nat.le_of_ble_eq_true rfl) rfl rfl rfl (t_X12_push hG ⟨rfl, rfl⟩ g46) ?_
  exact sv_vret (pc := 607) dX12_middle_607 rfl h hP
def B_X12_middle_539 (N : Nat)  (l1 : Int32) (V : sv_V) : Option sv_V := (F_X12_has (2 : Int32) V).bind (fun (x49, V47) => if x49 = 0 then (some V47) else ((F_X12_pop  V47).bind (fun (x53, V51) => (F_X12_pointOf (V47.1 146 73) x53 V51).bind (fun (x56, V54) => (F_X12_pop  V54).bind (fun (x59, V57) => (F_X12_pointOf (V54.1 146 72) x59 V57).bind (fun (x62, V60) => if (V60.1 146 59) = 0 then (if l1 = (73 : Int32) then ((F_X12_between x62 x56 V60).bind (fun (x70, V68) => B_X12_middle_604 N  x70.toInt64 V68)) else ((F_X12_originally x62 x56 V60).bind (fun (x67, V65) => B_X12_middle_604 N  x67.toInt64 V65))) else (some V60)))))))
set_option maxRecDepth 20000 in
theorem tB_X12_middle_539 {g : sx_G} (hG : sx_Go g) {P : Option Value → sv_V → Prop} {Vr : sv_V} (hP : P none Vr) {N : Nat}   {l1 : Int32} {V : sv_V} (h : B_X12_middle_539 N  l1 V = some Vr) : sv_N g qX12_middle 7 539 [(0, .ref 146), (1, .int l1)] [] V P := by
  unfold B_X12_middle_539 at h
  refine sx_aload_n (pc := 539) dX12_middle_539 sx_m0 ?_
  refine sx_iconst (pc := 540) (v := 2) dX12_middle_540 (by decide) ?_
  obtain ⟨⟨x49, V47⟩, g48, h⟩ := sx_bnd h
  refine sv_cV (pc := 541) (y := qX12_has) (o := (some (.int x49))) (as := [.int (2 : Int32)]) (V1 := V47) hG dX12_middle_541 l_X12_576 y0X12_has yvX12_has rfl (Nat.le_of_ble_eq_true rfl) lay_146 kr_12 (by decide) (Nat.le_of_ble_eq_true rfl) rfl rfl rfl (t_X12_has hG ⟨rfl, rfl⟩ g48) ?_
  refine sx_if_eq (pc := 544) (tgt := 607) dX12_middle_544 (by decide) (fun c50 => ?_) (fun c50 => ?_)
  · have h := sx_pos c50 h
    exact sv_vret (pc := 607) dX12_middle_607 rfl h hP
  · have h := sx_neg c50 h
    refine sx_aload_n (pc := 547) dX12_middle_547 sx_m0 ?_
    refine sx_aload_n (pc := 548) dX12_middle_548 sx_m0 ?_
    refine sv_getI (pc := 549) hG dX12_middle_549 f_12_463 lay_146 rfl ?_
    refine sx_aload_n (pc := 552) dX12_middle_552 sx_m0 ?_
    obtain ⟨⟨x53, V51⟩, g52, h⟩ := sx_bnd h
    refine sv_cV (pc := 553) (y := qX12_pop) (o := (some (.int x53))) (as := []) (V1 := V51) hG dX12_middle_553 l_X12_579 y0X12_pop yvX12_pop rfl (Nat.le_of_ble_eq_true rfl) lay_146 kr_12 (by decide) (Nat.le_of_ble_eq_true rfl) rfl rfl rfl (t_X12_pop hG ⟨rfl, rfl⟩ g52) ?_
    obtain ⟨⟨x56, V54⟩, g55, h⟩ := sx_bnd h
    refine sv_cV (pc := 556) (y := qX12_pointOf) (o := (some (.int x56))) (as := [.int (V47.1 146 73), .int x53]) (V1 := V54) hG dX12_middle_556 l_X12_582 y0X12_pointOf yvX12_pointOf rfl (Nat.le_of_ble_eq_true rfl) lay_146 kr_12 (by decide) (Nat.le_of_ble_eq_true rfl) rfl rfl rfl (t_X12_pointOf hG ⟨rfl, rfl⟩ g55) ?_
    refine sx_istore_n (pc := 559) (lo' := [(2, .int x56), (0, .ref 146), (1, .int l1)]) dX12_middle_559 (by decide) rfl ?_
    refine sx_aload_n (pc := 560) dX12_middle_560 sx_m1 ?_
    refine sx_aload_n (pc := 561) dX12_middle_561 sx_m1 ?_
    refine sv_getI (pc := 562) hG dX12_middle_562 f_12_460 lay_146 rfl ?_
    refine sx_aload_n (pc := 565) dX12_middle_565 sx_m1 ?_
    obtain ⟨⟨x59, V57⟩, g58, h⟩ := sx_bnd h
    refine sv_cV (pc := 566) (y := qX12_pop) (o := (some (.int x59))) (as := []) (V1 := V57) hG dX12_middle_566 l_X12_579 y0X12_pop yvX12_pop rfl (Nat.le_of_ble_eq_true rfl) lay_146 kr_12 (by decide) (Nat.le_of_ble_eq_true rfl) rfl rfl rfl (t_X12_pop hG ⟨rfl, rfl⟩ g58) ?_
    obtain ⟨⟨x62, V60⟩, g61, h⟩ := sx_bnd h
    refine sv_cV (pc := 569) (y := qX12_pointOf) (o := (some (.int x62))) (as := [.int (V54.1 146 72), .int x59]) (V1 := V60) hG dX12_middle_569 l_X12_582 y0X12_pointOf yvX12_pointOf rfl (Nat.le_of_ble_eq_true rfl) lay_146 kr_12 (by decide) (Nat.le_of_ble_eq_true rfl) rfl rfl rfl (t_X12_pointOf hG ⟨rfl, rfl⟩ g61) ?_
    refine sx_istore_n (pc := 572) (lo' := [(3, .int x62), (2, .int x56), (0, .ref 146), (1, .int l1)]) dX12_middle_572 (by decide) rfl ?_
    refine sx_aload_n (pc := 573) dX12_middle_573 sx_m2 ?_
    refine sv_getI (pc := 574) hG dX12_middle_574 f_12_409 lay_146 rfl ?_
    refine sx_if_ne (pc := 577) (tgt := 607) dX12_middle_577 (by decide) (fun c63 => ?_) (fun c63 => ?_)
    · have h := sx_neg c63 h
      exact sv_vret (pc := 607) dX12_middle_607 rfl h hP
    · have h := sx_pos c63 h
      refine sx_aload_n (pc := 580) dX12_middle_580 sx_m2 ?_
      refine sx_iload_n (pc := 581) dX12_middle_581 sx_m3 ?_
      refine sx_bipush (pc := 582) (v := 73) dX12_middle_582 (by decide) ?_
      refine sx_icmp_ne (pc := 584) (tgt := 597) dX12_middle_584 (by decide) (fun c64 => ?_) (fun c64 => ?_)
      · have h := sx_neg c64 h
        refine sx_aload_n (pc := 597) dX12_middle_597 sx_m2 ?_
        refine sx_iload_n (pc := 598) dX12_middle_598 sx_m0 ?_
        refine sx_iload_n (pc := 599) dX12_middle_599 sx_m1 ?_
        obtain ⟨⟨x67, V65⟩, g66, h⟩ := sx_bnd h
        refine sv_cV (pc := 600) (y := qX12_originally) (o := (some (.int x67))) (as := [.int x62, .int x56]) (V1 := V65) hG dX12_middle_600 l_X12_680 y0X12_originally yvX12_originally rfl (Nat.le_of_ble_eq_true rfl) lay_146 kr_12 (by decide) (Nat.le_of_ble_eq_true rfl) rfl rfl rfl (t_X12_originally hG ⟨rfl, rfl⟩ g66) ?_
        refine sx_i2l (pc := 603) dX12_middle_603 ?_
        refine sx_wk sx_s0 ?_
        exact tB_X12_middle_604 hG hP  h
      · have h := sx_pos c64 h
        refine sx_aload_n (pc := 587) dX12_middle_587 sx_m2 ?_
        refine sx_iload_n (pc := 588) dX12_middle_588 sx_m0 ?_
        refine sx_iload_n (pc := 589) dX12_middle_589 sx_m1 ?_
        obtain ⟨⟨x70, V68⟩, g69, h⟩ := sx_bnd h
        refine sv_cV (pc := 590) (y := qX12_between) (o := (some (.int x70))) (as := [.int x62, .int x56]) (V1 := V68) hG dX12_middle_590 l_X12_627 y0X12_between yvX12_between rfl (Nat.le_of_ble_eq_true rfl) lay_146 kr_12 (by decide) (Nat.le_of_ble_eq_true rfl) rfl rfl rfl (t_X12_between hG ⟨rfl, rfl⟩ g69) ?_
        refine sx_i2l (pc := 593) dX12_middle_593 ?_
        refine sx_goto (pc := 594) (tgt := 604) dX12_middle_594 (by decide) ?_
        refine sx_wk sx_s0 ?_
        exact tB_X12_middle_604 hG hP  h
def B_X12_middle_608 (N : Nat)   (V : sv_V) : Option sv_V := (F_X12_push ((V.1 146 62).toInt64) V).bind (fun V71 => some V71)
set_option maxRecDepth 20000 in
theorem tB_X12_middle_608 {g : sx_G} (hG : sx_Go g) {P : Option Value → sv_V → Prop} {Vr : sv_V} (hP : P none Vr) {N : Nat}    {V : sv_V} (h : B_X12_middle_608 N   V = some Vr) : sv_N g qX12_middle 7 608 [(0, .ref 146)] [] V P := by
  unfold B_X12_middle_608 at h
  refine sx_aload_n (pc := 608) dX12_middle_608 sx_m0 ?_
  refine sx_aload_n (pc := 609) dX12_middle_609 sx_m0 ?_
  refine sv_getI (pc := 610) hG dX12_middle_610 f_12_621 lay_146 rfl ?_
  refine sx_i2l (pc := 613) dX12_middle_613 ?_
  obtain ⟨V71, g72, h⟩ := sx_bnd h
  refine sv_cV (pc := 614) (y := qX12_push) (o := none) (as := [.long ((V.1 146 62).toInt64)]) (V1 := V71) hG dX12_middle_614 l_X12_564 y0X12_push yvX12_push rfl (Nat.le_of_ble_eq_true rfl) lay_146 kr_12 (by decide) (Nat.le_of_ble_eq_true rfl) rfl rfl rfl (t_X12_push hG ⟨rfl, rfl⟩ g72) ?_
  exact sv_vret (pc := 617) dX12_middle_617 rfl h hP
def B_X12_middle_618 (N : Nat)  (l1 : Int32) (V : sv_V) : Option sv_V := if l1 = (77 : Int32) then (sx_let (sv_I V 146 84 (1 : Int32)) (fun V75 => some V75)) else (sx_let (sv_I V 146 84 (0 : Int32)) (fun V74 => some V74))
set_option maxRecDepth 20000 in
theorem tB_X12_middle_618 {g : sx_G} (hG : sx_Go g) {P : Option Value → sv_V → Prop} {Vr : sv_V} (hP : P none Vr) {N : Nat}   {l1 : Int32} {V : sv_V} (h : B_X12_middle_618 N  l1 V = some Vr) : sv_N g qX12_middle 7 618 [(0, .ref 146), (1, .int l1)] [] V P := by
  unfold B_X12_middle_618 at h
  refine sx_aload_n (pc := 618) dX12_middle_618 sx_m0 ?_
  refine sx_iload_n (pc := 619) dX12_middle_619 sx_m1 ?_
  refine sx_bipush (pc := 620) (v := 77) dX12_middle_620 (by decide) ?_
  refine sx_icmp_ne (pc := 622) (tgt := 629) dX12_middle_622 (by decide) (fun c73 => ?_) (fun c73 => ?_)
  · have h := sx_neg c73 h
    refine sx_iconst (pc := 629) (v := 0) dX12_middle_629 (by decide) ?_
    obtain ⟨V74, hV74⟩ : ∃ z : sv_V, z = sv_I V 146 84 (0 : Int32) := ⟨_, rfl⟩
    have h := sx_letE hV74 h
    refine sv_putZ (pc := 630) hG dX12_middle_630 f_12_683 lay_146 rfl rfl hV74 ?_
    exact sv_vret (pc := 633) dX12_middle_633 rfl h hP
  · have h := sx_pos c73 h
    refine sx_iconst (pc := 625) (v := 1) dX12_middle_625 (by decide) ?_
    refine sx_goto (pc := 626) (tgt := 630) dX12_middle_626 (by decide) ?_
    obtain ⟨V75, hV75⟩ : ∃ z : sv_V, z = sv_I V 146 84 (1 : Int32) := ⟨_, rfl⟩
    have h := sx_letE hV75 h
    refine sv_putZ (pc := 630) hG dX12_middle_630 f_12_683 lay_146 rfl rfl hV75 ?_
    exact sv_vret (pc := 633) dX12_middle_633 rfl h hP
def F_X12_middle (N : Nat) (l1 : Int32) (V : sv_V) : Option sv_V := if l1 = 48 then ((F_X12_followAll N 167 169 (2 : Int32) V).bind (fun V77 => some V77)) else (if l1 = 49 then ((F_X12_followAll N 166 168 (1 : Int32) V).bind (fun V80 => some V80)) else (if l1 = 50 then (B_X12_middle_168 N  l1 V) else (if l1 = 51 then (B_X12_middle_168 N  l1 V) else (if l1 = 52 then (B_X12_middle_168 N  l1 V) else (if l1 = 53 then (B_X12_middle_168 N  l1 V) else (if l1 = 54 then (B_X12_middle_168 N  l1 V) else (if l1 = 55 then (B_X12_middle_168 N  l1 V) else (if l1 = 56 then (B_X12_middle_174 N  l1 V) else (if l1 = 57 then (B_X12_middle_174 N  l1 V) else (if l1 = 58 then (B_X12_middle_180 N  l1 V) else (if l1 = 59 then (B_X12_middle_180 N  l1 V) else (if l1 = 60 then (B_X12_middle_174 N  l1 V) else (if l1 = 61 then ((F_X12_setRounding (61 : Int32) (32 : Int32) (0 : Int32) (16 : Int32) V).bind (fun V94 => some V94)) else (if l1 = 62 then (B_X12_middle_198 N  l1 V) else (if l1 = 63 then (B_X12_middle_198 N  l1 V) else (if l1 = 64 then (B_X12_middle_204 N  l1 V) else (if l1 = 65 then (B_X12_middle_204 N  l1 V) else (if l1 = 66 then ((F_X12_has (2 : Int32) V).bind (fun (x103, V101) => if x103 = 0 then (some V101) else ((F_X12_pop  V101).bind (fun (x107, V105) => (F_X12_pop  V105).bind (fun (x110, V108) => if x110 < 0 then (B_X12_middle_288 N   V108) else (if x110 < (V108.1 146 15) then (if sx_in x110 64 = true then sx_let (sv_I V108 165 x110.toNatClampNeg x107) (fun V114 => some V114) else none) else (B_X12_middle_288 N   V108))))))) else (if l1 = 67 then ((F_X12_has (1 : Int32) V).bind (fun (x118, V116) => if x118 = 0 then (some V116) else ((F_X12_pop  V116).bind (fun (x122, V120) => if x122 < 0 then (B_X12_middle_330 N   V120) else (if x122 < (V120.1 146 15) then (if sx_in x122 64 = true then (F_X12_push ((V120.1 165 x122.toNatClampNeg).toInt64) V120).bind (fun V126 => some V126) else none) else (B_X12_middle_330 N   V120)))))) else (if l1 = 68 then ((F_X12_setCvt (0 : Int32) V).bind (fun V129 => some V129)) else (if l1 = 69 then ((F_X12_has (1 : Int32) V).bind (fun (x134, V132) => if x134 = 0 then (some V132) else ((F_X12_pop  V132).bind (fun (x138, V136) => (F_X12_cvtOf x138 V136).bind (fun (x141, V139) => if (V139.1 146 59) = 0 then ((F_X12_push x141.toInt64 V139).bind (fun V143 => some V143)) else (some V139)))))) else (if l1 = 70 then (B_X12_middle_388 N  l1 V) else (if l1 = 71 then (B_X12_middle_388 N  l1 V) else (if l1 = 72 then ((F_X12_has (2 : Int32) V).bind (fun (x150, V148) => if x150 = 0 then (some V148) else ((F_X12_pop  V148).bind (fun (x154, V152) => (F_X12_pop  V152).bind (fun (x157, V155) => (F_X12_pointOf (V152.1 146 74) x157 V155).bind (fun (x160, V158) => if (V158.1 146 59) = 0 then ((F_X12_longOf x160 V158).bind (fun (x164, V162) => (F_X12_move x160 (x154.toInt64 - x164.toInt64) V162).bind (fun V165 => if (V165.1 146 74) = 0 then (if sx_in x160 204 = true then if sx_in x160 204 = true then sx_let (sv_I V165 166 x160.toNatClampNeg (V165.1 168 x160.toNatClampNeg)) (fun V170 => if sx_in x160 204 = true then if sx_in x160 204 = true then sx_let (sv_I V170 167 x160.toNatClampNeg (V170.1 169 x160.toNatClampNeg)) (fun V173 => some V173) else none else none) else none else none) else (some V165)))) else (some V158))))))) else (if l1 = 73 then (B_X12_middle_539 N  l1 V) else (if l1 = 74 then (B_X12_middle_539 N  l1 V) else (if l1 = 75 then (B_X12_middle_608 N   V) else (if l1 = 76 then (B_X12_middle_608 N   V) else (if l1 = 77 then (B_X12_middle_618 N  l1 V) else (if l1 = 78 then (B_X12_middle_618 N  l1 V) else ((F_X12_tests N l1 V).bind (fun V180 => some V180))))))))))))))))))))))))))))))))
set_option maxRecDepth 20000 in
theorem t_X12_middle {g : sx_G} (hG : sx_Go g) {P : Option Value → sv_V → Prop} {Vr : sv_V} (hP : P none Vr) {N : Nat} {l1 : Int32} {V : sv_V} (h : F_X12_middle N l1 V = some Vr) : sv_N g qX12_middle 7 0 [(0, .ref 146), (1, .int l1)] [] V P := by
  unfold F_X12_middle at h
  refine sx_iload_n (pc := 0) dX12_middle_0 sx_m1 ?_
  by_cases c76 : l1 = 48
  · have h := sx_pos c76 h
    refine sx_tabI (pc := 1) (off := 139) (tgt := 140) dX12_middle_1 (by rw [c76]; decide) (by rw [c76]; decide) (by rw [c76]; rfl) (by decide) ?_
    refine sx_aload_n (pc := 140) dX12_middle_140 sx_m0 ?_
    refine sx_aload_n (pc := 141) dX12_middle_141 sx_m0 ?_
    refine sv_getA (pc := 142) hG dX12_middle_142 f_12_73 lay_146 rfl cr_146_47 ?_
    refine sx_aload_n (pc := 145) dX12_middle_145 sx_m0 ?_
    refine sv_getA (pc := 146) hG dX12_middle_146 f_12_79 lay_146 rfl cr_146_49 ?_
    refine sx_iconst (pc := 149) (v := 2) dX12_middle_149 (by decide) ?_
    obtain ⟨V77, g78, h⟩ := sx_bnd h
    refine sv_cV (pc := 150) (y := qX12_followAll) (o := none) (as := [.ref 167, .ref 169, .int (2 : Int32)]) (V1 := V77) hG dX12_middle_150 l_X12_658 y0X12_followAll yvX12_followAll rfl (Nat.le_of_ble_eq_true rfl) lay_146 kr_12 (by decide) (Nat.le_of_ble_eq_true rfl) rfl rfl rfl (t_X12_followAll hG ⟨rfl, rfl⟩ g78) ?_
    exact sv_vret (pc := 153) dX12_middle_153 rfl h hP
  have h := sx_neg c76 h
  by_cases c79 : l1 = 49
  · have h := sx_pos c79 h
    refine sx_tabI (pc := 1) (off := 153) (tgt := 154) dX12_middle_1 (by rw [c79]; decide) (by rw [c79]; decide) (by rw [c79]; rfl) (by decide) ?_
    refine sx_aload_n (pc := 154) dX12_middle_154 sx_m0 ?_
    refine sx_aload_n (pc := 155) dX12_middle_155 sx_m0 ?_
    refine sv_getA (pc := 156) hG dX12_middle_156 f_12_70 lay_146 rfl cr_146_46 ?_
    refine sx_aload_n (pc := 159) dX12_middle_159 sx_m0 ?_
    refine sv_getA (pc := 160) hG dX12_middle_160 f_12_76 lay_146 rfl cr_146_48 ?_
    refine sx_iconst (pc := 163) (v := 1) dX12_middle_163 (by decide) ?_
    obtain ⟨V80, g81, h⟩ := sx_bnd h
    refine sv_cV (pc := 164) (y := qX12_followAll) (o := none) (as := [.ref 166, .ref 168, .int (1 : Int32)]) (V1 := V80) hG dX12_middle_164 l_X12_658 y0X12_followAll yvX12_followAll rfl (Nat.le_of_ble_eq_true rfl) lay_146 kr_12 (by decide) (Nat.le_of_ble_eq_true rfl) rfl rfl rfl (t_X12_followAll hG ⟨rfl, rfl⟩ g81) ?_
    exact sv_vret (pc := 167) dX12_middle_167 rfl h hP
  have h := sx_neg c79 h
  by_cases c82 : l1 = 50
  · have h := sx_pos c82 h
    refine sx_tabI (pc := 1) (off := 167) (tgt := 168) dX12_middle_1 (by rw [c82]; decide) (by rw [c82]; decide) (by rw [c82]; rfl) (by decide) ?_
    refine sx_wk (sx_s1 sx_m0 (sx_s1 sx_m1 sx_s0)) ?_
    exact tB_X12_middle_168 hG hP  h
  have h := sx_neg c82 h
  by_cases c83 : l1 = 51
  · have h := sx_pos c83 h
    refine sx_tabI (pc := 1) (off := 167) (tgt := 168) dX12_middle_1 (by rw [c83]; decide) (by rw [c83]; decide) (by rw [c83]; rfl) (by decide) ?_
    refine sx_wk (sx_s1 sx_m0 (sx_s1 sx_m1 sx_s0)) ?_
    exact tB_X12_middle_168 hG hP  h
  have h := sx_neg c83 h
  by_cases c84 : l1 = 52
  · have h := sx_pos c84 h
    refine sx_tabI (pc := 1) (off := 167) (tgt := 168) dX12_middle_1 (by rw [c84]; decide) (by rw [c84]; decide) (by rw [c84]; rfl) (by decide) ?_
    refine sx_wk (sx_s1 sx_m0 (sx_s1 sx_m1 sx_s0)) ?_
    exact tB_X12_middle_168 hG hP  h
  have h := sx_neg c84 h
  by_cases c85 : l1 = 53
  · have h := sx_pos c85 h
    refine sx_tabI (pc := 1) (off := 167) (tgt := 168) dX12_middle_1 (by rw [c85]; decide) (by rw [c85]; decide) (by rw [c85]; rfl) (by decide) ?_
    refine sx_wk (sx_s1 sx_m0 (sx_s1 sx_m1 sx_s0)) ?_
    exact tB_X12_middle_168 hG hP  h
  have h := sx_neg c85 h
  by_cases c86 : l1 = 54
  · have h := sx_pos c86 h
    refine sx_tabI (pc := 1) (off := 167) (tgt := 168) dX12_middle_1 (by rw [c86]; decide) (by rw [c86]; decide) (by rw [c86]; rfl) (by decide) ?_
    refine sx_wk (sx_s1 sx_m0 (sx_s1 sx_m1 sx_s0)) ?_
    exact tB_X12_middle_168 hG hP  h
  have h := sx_neg c86 h
  by_cases c87 : l1 = 55
  · have h := sx_pos c87 h
    refine sx_tabI (pc := 1) (off := 167) (tgt := 168) dX12_middle_1 (by rw [c87]; decide) (by rw [c87]; decide) (by rw [c87]; rfl) (by decide) ?_
    refine sx_wk (sx_s1 sx_m0 (sx_s1 sx_m1 sx_s0)) ?_
    exact tB_X12_middle_168 hG hP  h
  have h := sx_neg c87 h
  by_cases c88 : l1 = 56
  · have h := sx_pos c88 h
    refine sx_tabI (pc := 1) (off := 173) (tgt := 174) dX12_middle_1 (by rw [c88]; decide) (by rw [c88]; decide) (by rw [c88]; rfl) (by decide) ?_
    refine sx_wk (sx_s1 sx_m0 (sx_s1 sx_m1 sx_s0)) ?_
    exact tB_X12_middle_174 hG hP  h
  have h := sx_neg c88 h
  by_cases c89 : l1 = 57
  · have h := sx_pos c89 h
    refine sx_tabI (pc := 1) (off := 173) (tgt := 174) dX12_middle_1 (by rw [c89]; decide) (by rw [c89]; decide) (by rw [c89]; rfl) (by decide) ?_
    refine sx_wk (sx_s1 sx_m0 (sx_s1 sx_m1 sx_s0)) ?_
    exact tB_X12_middle_174 hG hP  h
  have h := sx_neg c89 h
  by_cases c90 : l1 = 58
  · have h := sx_pos c90 h
    refine sx_tabI (pc := 1) (off := 179) (tgt := 180) dX12_middle_1 (by rw [c90]; decide) (by rw [c90]; decide) (by rw [c90]; rfl) (by decide) ?_
    refine sx_wk (sx_s1 sx_m0 (sx_s1 sx_m1 sx_s0)) ?_
    exact tB_X12_middle_180 hG hP  h
  have h := sx_neg c90 h
  by_cases c91 : l1 = 59
  · have h := sx_pos c91 h
    refine sx_tabI (pc := 1) (off := 179) (tgt := 180) dX12_middle_1 (by rw [c91]; decide) (by rw [c91]; decide) (by rw [c91]; rfl) (by decide) ?_
    refine sx_wk (sx_s1 sx_m0 (sx_s1 sx_m1 sx_s0)) ?_
    exact tB_X12_middle_180 hG hP  h
  have h := sx_neg c91 h
  by_cases c92 : l1 = 60
  · have h := sx_pos c92 h
    refine sx_tabI (pc := 1) (off := 173) (tgt := 174) dX12_middle_1 (by rw [c92]; decide) (by rw [c92]; decide) (by rw [c92]; rfl) (by decide) ?_
    refine sx_wk (sx_s1 sx_m0 (sx_s1 sx_m1 sx_s0)) ?_
    exact tB_X12_middle_174 hG hP  h
  have h := sx_neg c92 h
  by_cases c93 : l1 = 61
  · have h := sx_pos c93 h
    refine sx_tabI (pc := 1) (off := 185) (tgt := 186) dX12_middle_1 (by rw [c93]; decide) (by rw [c93]; decide) (by rw [c93]; rfl) (by decide) ?_
    refine sx_aload_n (pc := 186) dX12_middle_186 sx_m0 ?_
    refine sx_bipush (pc := 187) (v := 61) dX12_middle_187 (by decide) ?_
    refine sx_bipush (pc := 189) (v := 32) dX12_middle_189 (by decide) ?_
    refine sx_iconst (pc := 191) (v := 0) dX12_middle_191 (by decide) ?_
    refine sx_bipush (pc := 192) (v := 16) dX12_middle_192 (by decide) ?_
    obtain ⟨V94, g95, h⟩ := sx_bnd h
    refine sv_cV (pc := 194) (y := qX12_setRounding) (o := none) (as := [.int (61 : Int32), .int (32 : Int32), .int (0 : Int32), .int (16 : Int32)]) (V1 := V94) hG dX12_middle_194 l_X12_472 y0X12_setRounding yvX12_setRounding rfl (Nat.le_of_ble_eq_true rfl) lay_146 kr_12 (by decide) (Nat.le_of_ble_eq_true rfl) rfl rfl rfl (t_X12_setRounding hG ⟨rfl, rfl⟩ g95) ?_
    exact sv_vret (pc := 197) dX12_middle_197 rfl h hP
  have h := sx_neg c93 h
  by_cases c96 : l1 = 62
  · have h := sx_pos c96 h
    refine sx_tabI (pc := 1) (off := 197) (tgt := 198) dX12_middle_1 (by rw [c96]; decide) (by rw [c96]; decide) (by rw [c96]; rfl) (by decide) ?_
    refine sx_wk (sx_s1 sx_m0 (sx_s1 sx_m1 sx_s0)) ?_
    exact tB_X12_middle_198 hG hP  h
  have h := sx_neg c96 h
  by_cases c97 : l1 = 63
  · have h := sx_pos c97 h
    refine sx_tabI (pc := 1) (off := 197) (tgt := 198) dX12_middle_1 (by rw [c97]; decide) (by rw [c97]; decide) (by rw [c97]; rfl) (by decide) ?_
    refine sx_wk (sx_s1 sx_m0 (sx_s1 sx_m1 sx_s0)) ?_
    exact tB_X12_middle_198 hG hP  h
  have h := sx_neg c97 h
  by_cases c98 : l1 = 64
  · have h := sx_pos c98 h
    refine sx_tabI (pc := 1) (off := 203) (tgt := 204) dX12_middle_1 (by rw [c98]; decide) (by rw [c98]; decide) (by rw [c98]; rfl) (by decide) ?_
    refine sx_wk (sx_s1 sx_m0 (sx_s1 sx_m1 sx_s0)) ?_
    exact tB_X12_middle_204 hG hP  h
  have h := sx_neg c98 h
  by_cases c99 : l1 = 65
  · have h := sx_pos c99 h
    refine sx_tabI (pc := 1) (off := 203) (tgt := 204) dX12_middle_1 (by rw [c99]; decide) (by rw [c99]; decide) (by rw [c99]; rfl) (by decide) ?_
    refine sx_wk (sx_s1 sx_m0 (sx_s1 sx_m1 sx_s0)) ?_
    exact tB_X12_middle_204 hG hP  h
  have h := sx_neg c99 h
  by_cases c100 : l1 = 66
  · have h := sx_pos c100 h
    refine sx_tabI (pc := 1) (off := 257) (tgt := 258) dX12_middle_1 (by rw [c100]; decide) (by rw [c100]; decide) (by rw [c100]; rfl) (by decide) ?_
    refine sx_aload_n (pc := 258) dX12_middle_258 sx_m0 ?_
    refine sx_iconst (pc := 259) (v := 2) dX12_middle_259 (by decide) ?_
    obtain ⟨⟨x103, V101⟩, g102, h⟩ := sx_bnd h
    refine sv_cV (pc := 260) (y := qX12_has) (o := (some (.int x103))) (as := [.int (2 : Int32)]) (V1 := V101) hG dX12_middle_260 l_X12_576 y0X12_has yvX12_has rfl (Nat.le_of_ble_eq_true rfl) lay_146 kr_12 (by decide) (Nat.le_of_ble_eq_true rfl) rfl rfl rfl (t_X12_has hG ⟨rfl, rfl⟩ g102) ?_
    refine sx_if_eq (pc := 263) (tgt := 304) dX12_middle_263 (by decide) (fun c104 => ?_) (fun c104 => ?_)
    · have h := sx_pos c104 h
      exact sv_vret (pc := 304) dX12_middle_304 rfl h hP
    · have h := sx_neg c104 h
      refine sx_aload_n (pc := 266) dX12_middle_266 sx_m0 ?_
      obtain ⟨⟨x107, V105⟩, g106, h⟩ := sx_bnd h
      refine sv_cV (pc := 267) (y := qX12_pop) (o := (some (.int x107))) (as := []) (V1 := V105) hG dX12_middle_267 l_X12_579 y0X12_pop yvX12_pop rfl (Nat.le_of_ble_eq_true rfl) lay_146 kr_12 (by decide) (Nat.le_of_ble_eq_true rfl) rfl rfl rfl (t_X12_pop hG ⟨rfl, rfl⟩ g106) ?_
      refine sx_istore_n (pc := 270) (lo' := [(2, .int x107), (0, .ref 146), (1, .int l1)]) dX12_middle_270 (by decide) rfl ?_
      refine sx_aload_n (pc := 271) dX12_middle_271 sx_m1 ?_
      obtain ⟨⟨x110, V108⟩, g109, h⟩ := sx_bnd h
      refine sv_cV (pc := 272) (y := qX12_pop) (o := (some (.int x110))) (as := []) (V1 := V108) hG dX12_middle_272 l_X12_579 y0X12_pop yvX12_pop rfl (Nat.le_of_ble_eq_true rfl) lay_146 kr_12 (by decide) (Nat.le_of_ble_eq_true rfl) rfl rfl rfl (t_X12_pop hG ⟨rfl, rfl⟩ g109) ?_
      refine sx_istore_n (pc := 275) (lo' := [(3, .int x110), (2, .int x107), (0, .ref 146), (1, .int l1)]) dX12_middle_275 (by decide) rfl ?_
      refine sx_iload_n (pc := 276) dX12_middle_276 sx_m0 ?_
      refine sx_if_lt (pc := 277) (tgt := 288) dX12_middle_277 (by decide) (fun c111 => ?_) (fun c111 => ?_)
      · have h := sx_pos c111 h
        refine sx_wk (sx_s1 sx_m2 sx_s0) ?_
        exact tB_X12_middle_288 hG hP  h
      · have h := sx_neg c111 h
        refine sx_iload_n (pc := 280) dX12_middle_280 sx_m0 ?_
        refine sx_aload_n (pc := 281) dX12_middle_281 sx_m2 ?_
        refine sv_getI (pc := 282) hG dX12_middle_282 f_12_319 lay_146 rfl ?_
        refine sx_icmp_lt (pc := 285) (tgt := 297) dX12_middle_285 (by decide) (fun c112 => ?_) (fun c112 => ?_)
        · have h := sx_pos c112 h
          refine sx_aload_n (pc := 297) dX12_middle_297 sx_m2 ?_
          refine sv_getA (pc := 298) hG dX12_middle_298 f_12_67 lay_146 rfl cr_146_45 ?_
          refine sx_iload_n (pc := 301) dX12_middle_301 sx_m0 ?_
          refine sx_iload_n (pc := 302) dX12_middle_302 sx_m1 ?_
          obtain ⟨g113, h⟩ := sx_grd h
          obtain ⟨V114, hV114⟩ : ∃ z : sv_V, z = sv_I V108 165 x110.toNatClampNeg x107 := ⟨_, rfl⟩
          have h := sx_letE hV114 h
          refine sv_iast (pc := 303) hG dX12_middle_303 lay_165 g113 hV114 ?_
          exact sv_vret (pc := 304) dX12_middle_304 rfl h hP
        · have h := sx_neg c112 h
          refine sx_wk (sx_s1 sx_m2 sx_s0) ?_
          exact tB_X12_middle_288 hG hP  h
  have h := sx_neg c100 h
  by_cases c115 : l1 = 67
  · have h := sx_pos c115 h
    refine sx_tabI (pc := 1) (off := 304) (tgt := 305) dX12_middle_1 (by rw [c115]; decide) (by rw [c115]; decide) (by rw [c115]; rfl) (by decide) ?_
    refine sx_aload_n (pc := 305) dX12_middle_305 sx_m0 ?_
    refine sx_iconst (pc := 306) (v := 1) dX12_middle_306 (by decide) ?_
    obtain ⟨⟨x118, V116⟩, g117, h⟩ := sx_bnd h
    refine sv_cV (pc := 307) (y := qX12_has) (o := (some (.int x118))) (as := [.int (1 : Int32)]) (V1 := V116) hG dX12_middle_307 l_X12_576 y0X12_has yvX12_has rfl (Nat.le_of_ble_eq_true rfl) lay_146 kr_12 (by decide) (Nat.le_of_ble_eq_true rfl) rfl rfl rfl (t_X12_has hG ⟨rfl, rfl⟩ g117) ?_
    refine sx_if_eq (pc := 310) (tgt := 350) dX12_middle_310 (by decide) (fun c119 => ?_) (fun c119 => ?_)
    · have h := sx_pos c119 h
      exact sv_vret (pc := 350) dX12_middle_350 rfl h hP
    · have h := sx_neg c119 h
      refine sx_aload_n (pc := 313) dX12_middle_313 sx_m0 ?_
      obtain ⟨⟨x122, V120⟩, g121, h⟩ := sx_bnd h
      refine sv_cV (pc := 314) (y := qX12_pop) (o := (some (.int x122))) (as := []) (V1 := V120) hG dX12_middle_314 l_X12_579 y0X12_pop yvX12_pop rfl (Nat.le_of_ble_eq_true rfl) lay_146 kr_12 (by decide) (Nat.le_of_ble_eq_true rfl) rfl rfl rfl (t_X12_pop hG ⟨rfl, rfl⟩ g121) ?_
      refine sx_istore_n (pc := 317) (lo' := [(2, .int x122), (0, .ref 146), (1, .int l1)]) dX12_middle_317 (by decide) rfl ?_
      refine sx_iload_n (pc := 318) dX12_middle_318 sx_m0 ?_
      refine sx_if_lt (pc := 319) (tgt := 330) dX12_middle_319 (by decide) (fun c123 => ?_) (fun c123 => ?_)
      · have h := sx_pos c123 h
        refine sx_wk (sx_s1 sx_m1 sx_s0) ?_
        exact tB_X12_middle_330 hG hP  h
      · have h := sx_neg c123 h
        refine sx_iload_n (pc := 322) dX12_middle_322 sx_m0 ?_
        refine sx_aload_n (pc := 323) dX12_middle_323 sx_m1 ?_
        refine sv_getI (pc := 324) hG dX12_middle_324 f_12_319 lay_146 rfl ?_
        refine sx_icmp_lt (pc := 327) (tgt := 339) dX12_middle_327 (by decide) (fun c124 => ?_) (fun c124 => ?_)
        · have h := sx_pos c124 h
          refine sx_aload_n (pc := 339) dX12_middle_339 sx_m1 ?_
          refine sx_aload_n (pc := 340) dX12_middle_340 sx_m1 ?_
          refine sv_getA (pc := 341) hG dX12_middle_341 f_12_67 lay_146 rfl cr_146_45 ?_
          refine sx_iload_n (pc := 344) dX12_middle_344 sx_m0 ?_
          obtain ⟨g125, h⟩ := sx_grd h
          refine sv_iald (pc := 345) hG dX12_middle_345 lay_165 g125 ?_
          refine sx_i2l (pc := 346) dX12_middle_346 ?_
          obtain ⟨V126, g127, h⟩ := sx_bnd h
          refine sv_cV (pc := 347) (y := qX12_push) (o := none) (as := [.long ((V120.1 165 x122.toNatClampNeg).toInt64)]) (V1 := V126) hG dX12_middle_347 l_X12_564 y0X12_push yvX12_push rfl (Nat.le_of_ble_eq_true rfl) lay_146 kr_12 (by decide) (Nat.le_of_ble_eq_true rfl) rfl rfl rfl (t_X12_push hG ⟨rfl, rfl⟩ g127) ?_
          exact sv_vret (pc := 350) dX12_middle_350 rfl h hP
        · have h := sx_neg c124 h
          refine sx_wk (sx_s1 sx_m1 sx_s0) ?_
          exact tB_X12_middle_330 hG hP  h
  have h := sx_neg c115 h
  by_cases c128 : l1 = 68
  · have h := sx_pos c128 h
    refine sx_tabI (pc := 1) (off := 350) (tgt := 351) dX12_middle_1 (by rw [c128]; decide) (by rw [c128]; decide) (by rw [c128]; rfl) (by decide) ?_
    refine sx_aload_n (pc := 351) dX12_middle_351 sx_m0 ?_
    refine sx_iconst (pc := 352) (v := 0) dX12_middle_352 (by decide) ?_
    obtain ⟨V129, g130, h⟩ := sx_bnd h
    refine sv_cV (pc := 353) (y := qX12_setCvt) (o := none) (as := [.int (0 : Int32)]) (V1 := V129) hG dX12_middle_353 l_X12_674 y0X12_setCvt yvX12_setCvt rfl (Nat.le_of_ble_eq_true rfl) lay_146 kr_12 (by decide) (Nat.le_of_ble_eq_true rfl) rfl rfl rfl (t_X12_setCvt hG ⟨rfl, rfl⟩ g130) ?_
    exact sv_vret (pc := 356) dX12_middle_356 rfl h hP
  have h := sx_neg c128 h
  by_cases c131 : l1 = 69
  · have h := sx_pos c131 h
    refine sx_tabI (pc := 1) (off := 356) (tgt := 357) dX12_middle_1 (by rw [c131]; decide) (by rw [c131]; decide) (by rw [c131]; rfl) (by decide) ?_
    refine sx_aload_n (pc := 357) dX12_middle_357 sx_m0 ?_
    refine sx_iconst (pc := 358) (v := 1) dX12_middle_358 (by decide) ?_
    obtain ⟨⟨x134, V132⟩, g133, h⟩ := sx_bnd h
    refine sv_cV (pc := 359) (y := qX12_has) (o := (some (.int x134))) (as := [.int (1 : Int32)]) (V1 := V132) hG dX12_middle_359 l_X12_576 y0X12_has yvX12_has rfl (Nat.le_of_ble_eq_true rfl) lay_146 kr_12 (by decide) (Nat.le_of_ble_eq_true rfl) rfl rfl rfl (t_X12_has hG ⟨rfl, rfl⟩ g133) ?_
    refine sx_if_eq (pc := 362) (tgt := 387) dX12_middle_362 (by decide) (fun c135 => ?_) (fun c135 => ?_)
    · have h := sx_pos c135 h
      exact sv_vret (pc := 387) dX12_middle_387 rfl h hP
    · have h := sx_neg c135 h
      refine sx_aload_n (pc := 365) dX12_middle_365 sx_m0 ?_
      refine sx_aload_n (pc := 366) dX12_middle_366 sx_m0 ?_
      obtain ⟨⟨x138, V136⟩, g137, h⟩ := sx_bnd h
      refine sv_cV (pc := 367) (y := qX12_pop) (o := (some (.int x138))) (as := []) (V1 := V136) hG dX12_middle_367 l_X12_579 y0X12_pop yvX12_pop rfl (Nat.le_of_ble_eq_true rfl) lay_146 kr_12 (by decide) (Nat.le_of_ble_eq_true rfl) rfl rfl rfl (t_X12_pop hG ⟨rfl, rfl⟩ g137) ?_
      obtain ⟨⟨x141, V139⟩, g140, h⟩ := sx_bnd h
      refine sv_cV (pc := 370) (y := qX12_cvtOf) (o := (some (.int x141))) (as := [.int x138]) (V1 := V139) hG dX12_middle_370 l_X12_677 y0X12_cvtOf yvX12_cvtOf rfl (Nat.le_of_ble_eq_true rfl) lay_146 kr_12 (by decide) (Nat.le_of_ble_eq_true rfl) rfl rfl rfl (t_X12_cvtOf hG ⟨rfl, rfl⟩ g140) ?_
      refine sx_istore_n (pc := 373) (lo' := [(2, .int x141), (0, .ref 146), (1, .int l1)]) dX12_middle_373 (by decide) rfl ?_
      refine sx_aload_n (pc := 374) dX12_middle_374 sx_m1 ?_
      refine sv_getI (pc := 375) hG dX12_middle_375 f_12_409 lay_146 rfl ?_
      refine sx_if_ne (pc := 378) (tgt := 387) dX12_middle_378 (by decide) (fun c142 => ?_) (fun c142 => ?_)
      · have h := sx_neg c142 h
        exact sv_vret (pc := 387) dX12_middle_387 rfl h hP
      · have h := sx_pos c142 h
        refine sx_aload_n (pc := 381) dX12_middle_381 sx_m1 ?_
        refine sx_iload_n (pc := 382) dX12_middle_382 sx_m0 ?_
        refine sx_i2l (pc := 383) dX12_middle_383 ?_
        obtain ⟨V143, g144, h⟩ := sx_bnd h
        refine sv_cV (pc := 384) (y := qX12_push) (o := none) (as := [.long x141.toInt64]) (V1 := V143) hG dX12_middle_384 l_X12_564 y0X12_push yvX12_push rfl (Nat.le_of_ble_eq_true rfl) lay_146 kr_12 (by decide) (Nat.le_of_ble_eq_true rfl) rfl rfl rfl (t_X12_push hG ⟨rfl, rfl⟩ g144) ?_
        exact sv_vret (pc := 387) dX12_middle_387 rfl h hP
  have h := sx_neg c131 h
  by_cases c145 : l1 = 70
  · have h := sx_pos c145 h
    refine sx_tabI (pc := 1) (off := 387) (tgt := 388) dX12_middle_1 (by rw [c145]; decide) (by rw [c145]; decide) (by rw [c145]; rfl) (by decide) ?_
    refine sx_wk (sx_s1 sx_m0 (sx_s1 sx_m1 sx_s0)) ?_
    exact tB_X12_middle_388 hG hP  h
  have h := sx_neg c145 h
  by_cases c146 : l1 = 71
  · have h := sx_pos c146 h
    refine sx_tabI (pc := 1) (off := 387) (tgt := 388) dX12_middle_1 (by rw [c146]; decide) (by rw [c146]; decide) (by rw [c146]; rfl) (by decide) ?_
    refine sx_wk (sx_s1 sx_m0 (sx_s1 sx_m1 sx_s0)) ?_
    exact tB_X12_middle_388 hG hP  h
  have h := sx_neg c146 h
  by_cases c147 : l1 = 72
  · have h := sx_pos c147 h
    refine sx_tabI (pc := 1) (off := 459) (tgt := 460) dX12_middle_1 (by rw [c147]; decide) (by rw [c147]; decide) (by rw [c147]; rfl) (by decide) ?_
    refine sx_aload_n (pc := 460) dX12_middle_460 sx_m0 ?_
    refine sx_iconst (pc := 461) (v := 2) dX12_middle_461 (by decide) ?_
    obtain ⟨⟨x150, V148⟩, g149, h⟩ := sx_bnd h
    refine sv_cV (pc := 462) (y := qX12_has) (o := (some (.int x150))) (as := [.int (2 : Int32)]) (V1 := V148) hG dX12_middle_462 l_X12_576 y0X12_has yvX12_has rfl (Nat.le_of_ble_eq_true rfl) lay_146 kr_12 (by decide) (Nat.le_of_ble_eq_true rfl) rfl rfl rfl (t_X12_has hG ⟨rfl, rfl⟩ g149) ?_
    refine sx_if_eq (pc := 465) (tgt := 538) dX12_middle_465 (by decide) (fun c151 => ?_) (fun c151 => ?_)
    · have h := sx_pos c151 h
      exact sv_vret (pc := 538) dX12_middle_538 rfl h hP
    · have h := sx_neg c151 h
      refine sx_aload_n (pc := 468) dX12_middle_468 sx_m0 ?_
      obtain ⟨⟨x154, V152⟩, g153, h⟩ := sx_bnd h
      refine sv_cV (pc := 469) (y := qX12_pop) (o := (some (.int x154))) (as := []) (V1 := V152) hG dX12_middle_469 l_X12_579 y0X12_pop yvX12_pop rfl (Nat.le_of_ble_eq_true rfl) lay_146 kr_12 (by decide) (Nat.le_of_ble_eq_true rfl) rfl rfl rfl (t_X12_pop hG ⟨rfl, rfl⟩ g153) ?_
      refine sx_istore_n (pc := 472) (lo' := [(2, .int x154), (0, .ref 146), (1, .int l1)]) dX12_middle_472 (by decide) rfl ?_
      refine sx_aload_n (pc := 473) dX12_middle_473 sx_m1 ?_
      refine sx_aload_n (pc := 474) dX12_middle_474 sx_m1 ?_
      refine sv_getI (pc := 475) hG dX12_middle_475 f_12_466 lay_146 rfl ?_
      refine sx_aload_n (pc := 478) dX12_middle_478 sx_m1 ?_
      obtain ⟨⟨x157, V155⟩, g156, h⟩ := sx_bnd h
      refine sv_cV (pc := 479) (y := qX12_pop) (o := (some (.int x157))) (as := []) (V1 := V155) hG dX12_middle_479 l_X12_579 y0X12_pop yvX12_pop rfl (Nat.le_of_ble_eq_true rfl) lay_146 kr_12 (by decide) (Nat.le_of_ble_eq_true rfl) rfl rfl rfl (t_X12_pop hG ⟨rfl, rfl⟩ g156) ?_
      obtain ⟨⟨x160, V158⟩, g159, h⟩ := sx_bnd h
      refine sv_cV (pc := 482) (y := qX12_pointOf) (o := (some (.int x160))) (as := [.int (V152.1 146 74), .int x157]) (V1 := V158) hG dX12_middle_482 l_X12_582 y0X12_pointOf yvX12_pointOf rfl (Nat.le_of_ble_eq_true rfl) lay_146 kr_12 (by decide) (Nat.le_of_ble_eq_true rfl) rfl rfl rfl (t_X12_pointOf hG ⟨rfl, rfl⟩ g159) ?_
      refine sx_istore_n (pc := 485) (lo' := [(3, .int x160), (2, .int x154), (0, .ref 146), (1, .int l1)]) dX12_middle_485 (by decide) rfl ?_
      refine sx_aload_n (pc := 486) dX12_middle_486 sx_m2 ?_
      refine sv_getI (pc := 487) hG dX12_middle_487 f_12_409 lay_146 rfl ?_
      refine sx_if_ne (pc := 490) (tgt := 538) dX12_middle_490 (by decide) (fun c161 => ?_) (fun c161 => ?_)
      · have h := sx_neg c161 h
        exact sv_vret (pc := 538) dX12_middle_538 rfl h hP
      · have h := sx_pos c161 h
        refine sx_aload_n (pc := 493) dX12_middle_493 sx_m2 ?_
        refine sx_iload_n (pc := 494) dX12_middle_494 sx_m0 ?_
        refine sx_iload_n (pc := 495) dX12_middle_495 sx_m1 ?_
        refine sx_i2l (pc := 496) dX12_middle_496 ?_
        refine sx_aload_n (pc := 497) dX12_middle_497 sx_m2 ?_
        refine sx_iload_n (pc := 498) dX12_middle_498 sx_m0 ?_
        obtain ⟨⟨x164, V162⟩, g163, h⟩ := sx_bnd h
        refine sv_cV (pc := 499) (y := qX12_longOf) (o := (some (.int x164))) (as := [.int x160]) (V1 := V162) hG dX12_middle_499 l_X12_644 y0X12_longOf yvX12_longOf rfl (Nat.le_of_ble_eq_true rfl) lay_146 kr_12 (by decide) (Nat.le_of_ble_eq_true rfl) rfl rfl rfl (t_X12_longOf hG ⟨rfl, rfl⟩ g163) ?_
        refine sx_i2l (pc := 502) dX12_middle_502 ?_
        refine sx_lsub (pc := 503) dX12_middle_503 ?_
        obtain ⟨V165, g166, h⟩ := sx_bnd h
        refine sv_cV (pc := 504) (y := qX12_move) (o := none) (as := [.int x160, .long (x154.toInt64 - x164.toInt64)]) (V1 := V165) hG dX12_middle_504 l_X12_630 y0X12_move yvX12_move rfl (Nat.le_of_ble_eq_true rfl) lay_146 kr_12 (by decide) (Nat.le_of_ble_eq_true rfl) rfl rfl rfl (t_X12_move hG ⟨rfl, rfl⟩ g166) ?_
        refine sx_aload_n (pc := 507) dX12_middle_507 sx_m2 ?_
        refine sv_getI (pc := 508) hG dX12_middle_508 f_12_466 lay_146 rfl ?_
        refine sx_if_ne (pc := 511) (tgt := 538) dX12_middle_511 (by decide) (fun c167 => ?_) (fun c167 => ?_)
        · have h := sx_neg c167 h
          exact sv_vret (pc := 538) dX12_middle_538 rfl h hP
        · have h := sx_pos c167 h
          refine sx_aload_n (pc := 514) dX12_middle_514 sx_m2 ?_
          refine sv_getA (pc := 515) hG dX12_middle_515 f_12_70 lay_146 rfl cr_146_46 ?_
          refine sx_iload_n (pc := 518) dX12_middle_518 sx_m0 ?_
          refine sx_aload_n (pc := 519) dX12_middle_519 sx_m2 ?_
          refine sv_getA (pc := 520) hG dX12_middle_520 f_12_76 lay_146 rfl cr_146_48 ?_
          refine sx_iload_n (pc := 523) dX12_middle_523 sx_m0 ?_
          obtain ⟨g168, h⟩ := sx_grd h
          refine sv_iald (pc := 524) hG dX12_middle_524 lay_168 g168 ?_
          obtain ⟨g169, h⟩ := sx_grd h
          obtain ⟨V170, hV170⟩ : ∃ z : sv_V, z = sv_I V165 166 x160.toNatClampNeg (V165.1 168 x160.toNatClampNeg) := ⟨_, rfl⟩
          have h := sx_letE hV170 h
          refine sv_iast (pc := 525) hG dX12_middle_525 lay_166 g169 hV170 ?_
          refine sx_aload_n (pc := 526) dX12_middle_526 sx_m2 ?_
          refine sv_getA (pc := 527) hG dX12_middle_527 f_12_73 lay_146 rfl cr_146_47 ?_
          refine sx_iload_n (pc := 530) dX12_middle_530 sx_m0 ?_
          refine sx_aload_n (pc := 531) dX12_middle_531 sx_m2 ?_
          refine sv_getA (pc := 532) hG dX12_middle_532 f_12_79 lay_146 rfl cr_146_49 ?_
          refine sx_iload_n (pc := 535) dX12_middle_535 sx_m0 ?_
          obtain ⟨g171, h⟩ := sx_grd h
          refine sv_iald (pc := 536) hG dX12_middle_536 lay_169 g171 ?_
          obtain ⟨g172, h⟩ := sx_grd h
          obtain ⟨V173, hV173⟩ : ∃ z : sv_V, z = sv_I V170 167 x160.toNatClampNeg (V170.1 169 x160.toNatClampNeg) := ⟨_, rfl⟩
          have h := sx_letE hV173 h
          refine sv_iast (pc := 537) hG dX12_middle_537 lay_167 g172 hV173 ?_
          exact sv_vret (pc := 538) dX12_middle_538 rfl h hP
  have h := sx_neg c147 h
  by_cases c174 : l1 = 73
  · have h := sx_pos c174 h
    refine sx_tabI (pc := 1) (off := 538) (tgt := 539) dX12_middle_1 (by rw [c174]; decide) (by rw [c174]; decide) (by rw [c174]; rfl) (by decide) ?_
    refine sx_wk (sx_s1 sx_m0 (sx_s1 sx_m1 sx_s0)) ?_
    exact tB_X12_middle_539 hG hP  h
  have h := sx_neg c174 h
  by_cases c175 : l1 = 74
  · have h := sx_pos c175 h
    refine sx_tabI (pc := 1) (off := 538) (tgt := 539) dX12_middle_1 (by rw [c175]; decide) (by rw [c175]; decide) (by rw [c175]; rfl) (by decide) ?_
    refine sx_wk (sx_s1 sx_m0 (sx_s1 sx_m1 sx_s0)) ?_
    exact tB_X12_middle_539 hG hP  h
  have h := sx_neg c175 h
  by_cases c176 : l1 = 75
  · have h := sx_pos c176 h
    refine sx_tabI (pc := 1) (off := 607) (tgt := 608) dX12_middle_1 (by rw [c176]; decide) (by rw [c176]; decide) (by rw [c176]; rfl) (by decide) ?_
    refine sx_wk (sx_s1 sx_m0 sx_s0) ?_
    exact tB_X12_middle_608 hG hP  h
  have h := sx_neg c176 h
  by_cases c177 : l1 = 76
  · have h := sx_pos c177 h
    refine sx_tabI (pc := 1) (off := 607) (tgt := 608) dX12_middle_1 (by rw [c177]; decide) (by rw [c177]; decide) (by rw [c177]; rfl) (by decide) ?_
    refine sx_wk (sx_s1 sx_m0 sx_s0) ?_
    exact tB_X12_middle_608 hG hP  h
  have h := sx_neg c177 h
  by_cases c178 : l1 = 77
  · have h := sx_pos c178 h
    refine sx_tabI (pc := 1) (off := 617) (tgt := 618) dX12_middle_1 (by rw [c178]; decide) (by rw [c178]; decide) (by rw [c178]; rfl) (by decide) ?_
    refine sx_wk (sx_s1 sx_m0 (sx_s1 sx_m1 sx_s0)) ?_
    exact tB_X12_middle_618 hG hP  h
  have h := sx_neg c178 h
  by_cases c179 : l1 = 78
  · have h := sx_pos c179 h
    refine sx_tabI (pc := 1) (off := 617) (tgt := 618) dX12_middle_1 (by rw [c179]; decide) (by rw [c179]; decide) (by rw [c179]; rfl) (by decide) ?_
    refine sx_wk (sx_s1 sx_m0 (sx_s1 sx_m1 sx_s0)) ?_
    exact tB_X12_middle_618 hG hP  h
  have h := sx_neg c179 h
  refine sx_tabO (pc := 1) (tgt := 634) dX12_middle_1 (by have ec76 := lv_neT (a := 48) c76 rfl; have ec79 := lv_neT (a := 49) c79 rfl; have ec82 := lv_neT (a := 50) c82 rfl; have ec83 := lv_neT (a := 51) c83 rfl; have ec84 := lv_neT (a := 52) c84 rfl; have ec85 := lv_neT (a := 53) c85 rfl; have ec86 := lv_neT (a := 54) c86 rfl; have ec87 := lv_neT (a := 55) c87 rfl; have ec88 := lv_neT (a := 56) c88 rfl; have ec89 := lv_neT (a := 57) c89 rfl; have ec90 := lv_neT (a := 58) c90 rfl; have ec91 := lv_neT (a := 59) c91 rfl; have ec92 := lv_neT (a := 60) c92 rfl; have ec93 := lv_neT (a := 61) c93 rfl; have ec96 := lv_neT (a := 62) c96 rfl; have ec97 := lv_neT (a := 63) c97 rfl; have ec98 := lv_neT (a := 64) c98 rfl; have ec99 := lv_neT (a := 65) c99 rfl; have ec100 := lv_neT (a := 66) c100 rfl; have ec115 := lv_neT (a := 67) c115 rfl; have ec128 := lv_neT (a := 68) c128 rfl; have ec131 := lv_neT (a := 69) c131 rfl; have ec145 := lv_neT (a := 70) c145 rfl; have ec146 := lv_neT (a := 71) c146 rfl; have ec147 := lv_neT (a := 72) c147 rfl; have ec174 := lv_neT (a := 73) c174 rfl; have ec175 := lv_neT (a := 74) c175 rfl; have ec176 := lv_neT (a := 75) c176 rfl; have ec177 := lv_neT (a := 76) c177 rfl; have ec178 := lv_neT (a := 77) c178 rfl; have ec179 := lv_neT (a := 78) c179 rfl; omega) (by decide) ?_
  refine sx_aload_n (pc := 634) dX12_middle_634 sx_m0 ?_
  refine sx_iload_n (pc := 635) dX12_middle_635 sx_m1 ?_
  obtain ⟨V180, g181, h⟩ := sx_bnd h
  refine sv_cV (pc := 636) (y := qX12_tests) (o := none) (as := [.int l1]) (V1 := V180) hG dX12_middle_636 l_X12_687 y0X12_tests yvX12_tests rfl (Nat.le_of_ble_eq_true rfl) lay_146 kr_12 (by decide) (Nat.le_of_ble_eq_true rfl) rfl rfl rfl (t_X12_tests hG ⟨rfl, rfl⟩ g181) ?_
  exact sv_vret (pc := 639) dX12_middle_639 rfl h hP
def ncX12_load : Nat := 3706166073101688122374073667948016204349791604293340591716489039797715203371624775715506926608592589609369852768770373949335614083024421076600429933212132446264537815254776692240067233789448857847890568294641958136362
theorem kcX12_load : CK cX12_load ncX12_load 90 := ⟨by decide +kernel, by decide +kernel⟩
theorem dX12_load_0 : decode cX12_load 0 = .ok (.aload_n 0, 1) := dl_o42 kcX12_load (by decide +kernel)
theorem dX12_load_1 : decode cX12_load 1 = .ok (.aload_n 0, 1) := dl_o42 kcX12_load (by decide +kernel)
theorem dX12_load_2 : decode cX12_load 2 = .ok (.getfield 910, 3) := dl_o180 kcX12_load (by decide +kernel)
theorem dX12_load_5 : decode cX12_load 5 = .ok (.putfield 206, 3) := dl_o181 kcX12_load (by decide +kernel)
theorem dX12_load_8 : decode cX12_load 8 = .ok (.iconst 0, 1) := dl_o3 kcX12_load (by decide +kernel)
theorem dX12_load_9 : decode cX12_load 9 = .ok (.istore_n 1, 1) := dl_o60 kcX12_load (by decide +kernel)
theorem dX12_load_10 : decode cX12_load 10 = .ok (.iload_n 1, 1) := dl_o27 kcX12_load (by decide +kernel)
theorem dX12_load_11 : decode cX12_load 11 = .ok (.aload_n 0, 1) := dl_o42 kcX12_load (by decide +kernel)
theorem dX12_load_12 : decode cX12_load 12 = .ok (.getfield 206, 3) := dl_o180 kcX12_load (by decide +kernel)
theorem dX12_load_15 : decode cX12_load 15 = .ok (.if_icmp .ge 21, 3) := dl_o162 kcX12_load 21 (by decide +kernel) (by decide +kernel)
theorem dX12_load_18 : decode cX12_load 18 = .ok (.aload_n 0, 1) := dl_o42 kcX12_load (by decide +kernel)
theorem dX12_load_19 : decode cX12_load 19 = .ok (.getfield 13, 3) := dl_o180 kcX12_load (by decide +kernel)
theorem dX12_load_22 : decode cX12_load 22 = .ok (.iload_n 1, 1) := dl_o27 kcX12_load (by decide +kernel)
theorem dX12_load_23 : decode cX12_load 23 = .ok (.aload_n 0, 1) := dl_o42 kcX12_load (by decide +kernel)
theorem dX12_load_24 : decode cX12_load 24 = .ok (.getfield 7, 3) := dl_o180 kcX12_load (by decide +kernel)
theorem dX12_load_27 : decode cX12_load 27 = .ok (.iload_n 1, 1) := dl_o27 kcX12_load (by decide +kernel)
theorem dX12_load_28 : decode cX12_load 28 = .ok (.baload, 1) := dl_o51 kcX12_load (by decide +kernel)
theorem dX12_load_29 : decode cX12_load 29 = .ok (.bastore, 1) := dl_o84 kcX12_load (by decide +kernel)
theorem dX12_load_30 : decode cX12_load 30 = .ok (.iinc 1 1, 3) := by decide +kernel
theorem dX12_load_33 : decode cX12_load 33 = .ok (.goto (-23), 3) := dl_o167 kcX12_load 65513 (by decide +kernel) (by decide +kernel)
theorem dX12_load_36 : decode cX12_load 36 = .ok (.aload_n 0, 1) := dl_o42 kcX12_load (by decide +kernel)
theorem dX12_load_37 : decode cX12_load 37 = .ok (.iconst 0, 1) := dl_o3 kcX12_load (by decide +kernel)
theorem dX12_load_38 : decode cX12_load 38 = .ok (.putfield 767, 3) := dl_o181 kcX12_load (by decide +kernel)
theorem dX12_load_41 : decode cX12_load 41 = .ok (.aload_n 0, 1) := dl_o42 kcX12_load (by decide +kernel)
theorem dX12_load_42 : decode cX12_load 42 = .ok (.iconst 0, 1) := dl_o3 kcX12_load (by decide +kernel)
theorem dX12_load_43 : decode cX12_load 43 = .ok (.putfield 764, 3) := dl_o181 kcX12_load (by decide +kernel)
theorem dX12_load_46 : decode cX12_load 46 = .ok (.aload_n 0, 1) := dl_o42 kcX12_load (by decide +kernel)
theorem dX12_load_47 : decode cX12_load 47 = .ok (.iconst 0, 1) := dl_o3 kcX12_load (by decide +kernel)
theorem dX12_load_48 : decode cX12_load 48 = .ok (.putfield 759, 3) := dl_o181 kcX12_load (by decide +kernel)
theorem dX12_load_51 : decode cX12_load 51 = .ok (.aload_n 0, 1) := dl_o42 kcX12_load (by decide +kernel)
theorem dX12_load_52 : decode cX12_load 52 = .ok (.iconst 0, 1) := dl_o3 kcX12_load (by decide +kernel)
theorem dX12_load_53 : decode cX12_load 53 = .ok (.putfield 621, 3) := dl_o181 kcX12_load (by decide +kernel)
theorem dX12_load_56 : decode cX12_load 56 = .ok (.aload_n 0, 1) := dl_o42 kcX12_load (by decide +kernel)
theorem dX12_load_57 : decode cX12_load 57 = .ok (.iconst 0, 1) := dl_o3 kcX12_load (by decide +kernel)
theorem dX12_load_58 : decode cX12_load 58 = .ok (.putfield 424, 3) := dl_o181 kcX12_load (by decide +kernel)
theorem dX12_load_61 : decode cX12_load 61 = .ok (.aload_n 0, 1) := dl_o42 kcX12_load (by decide +kernel)
theorem dX12_load_62 : decode cX12_load 62 = .ok (.iconst 0, 1) := dl_o3 kcX12_load (by decide +kernel)
theorem dX12_load_63 : decode cX12_load 63 = .ok (.putfield 216, 3) := dl_o181 kcX12_load (by decide +kernel)
theorem dX12_load_66 : decode cX12_load 66 = .ok (.aload_n 0, 1) := dl_o42 kcX12_load (by decide +kernel)
theorem dX12_load_67 : decode cX12_load 67 = .ok (.invokevirtual 913, 3) := dl_o182 kcX12_load (by decide +kernel)
theorem dX12_load_70 : decode cX12_load 70 = .ok (.istore_n 1, 1) := dl_o60 kcX12_load (by decide +kernel)
theorem dX12_load_71 : decode cX12_load 71 = .ok (.iload_n 1, 1) := dl_o27 kcX12_load (by decide +kernel)
theorem dX12_load_72 : decode cX12_load 72 = .ok (.ifCond .le 8, 3) := dl_o158 kcX12_load 8 (by decide +kernel) (by decide +kernel)
theorem dX12_load_75 : decode cX12_load 75 = .ok (.bipush (-100), 2) := dl_o16 kcX12_load 156 (by decide +kernel) (by decide +kernel)
theorem dX12_load_77 : decode cX12_load 77 = .ok (.iload_n 1, 1) := dl_o27 kcX12_load (by decide +kernel)
theorem dX12_load_78 : decode cX12_load 78 = .ok (.isub, 1) := dl_o100 kcX12_load (by decide +kernel)
theorem dX12_load_79 : decode cX12_load 79 = .ok (.ireturn, 1) := dl_o172 kcX12_load (by decide +kernel)
theorem dX12_load_80 : decode cX12_load 80 = .ok (.aload_n 0, 1) := dl_o42 kcX12_load (by decide +kernel)
theorem dX12_load_81 : decode cX12_load 81 = .ok (.iconst 1, 1) := dl_o4 kcX12_load (by decide +kernel)
theorem dX12_load_82 : decode cX12_load 82 = .ok (.putfield 759, 3) := dl_o181 kcX12_load (by decide +kernel)
theorem dX12_load_85 : decode cX12_load 85 = .ok (.aload_n 0, 1) := dl_o42 kcX12_load (by decide +kernel)
theorem dX12_load_86 : decode cX12_load 86 = .ok (.getfield 260, 3) := dl_o180 kcX12_load (by decide +kernel)
theorem dX12_load_89 : decode cX12_load 89 = .ok (.ireturn, 1) := dl_o172 kcX12_load (by decide +kernel)
def B_X12_load_10 (N : Nat) (k10 : Int32 → sv_V → Option (Int32 × sv_V)) (l1 : Int32) (V : sv_V) : Option (Int32 × sv_V) := if (V.1 146 3) ≤ l1 then (sx_let (sv_I V 146 107 (0 : Int32)) (fun V2 => sx_let (sv_I V2 146 108 (0 : Int32)) (fun V3 => sx_let (sv_I V3 146 4 (0 : Int32)) (fun V4 => sx_let (sv_I V4 146 62 (0 : Int32)) (fun V5 => sx_let (sv_I V5 146 57 (0 : Int32)) (fun V6 => sx_let (sv_I V6 146 5 (0 : Int32)) (fun V7 => (F_X12_check N  V7).bind (fun (x10, V8) => if x10 ≤ 0 then (sx_let (sv_I V8 146 4 (1 : Int32)) (fun V12 => some (V12.1 146 12, V12))) else (some ((-100 : Int32) - x10, V8)))))))))) else (if sx_in l1 12000 = true then if sx_in l1 12000 = true then sx_let (sv_I V 148 l1.toNatClampNeg (V.1 147 l1.toNatClampNeg).toInt8.toInt32) (fun V15 => sx_let (l1 + 1) (fun x16 => k10 x16 V15)) else none else none)
set_option maxRecDepth 20000 in
theorem tB_X12_load_10 {g : sx_G} (hG : sx_Go g) {P : Option Value → sv_V → Prop} {r : Int32} {Vr : sv_V} (hP : P (some (.int r)) Vr) {N : Nat} {k10 : Int32 → sv_V → Option (Int32 × sv_V)} (hk10 : ∀ (l1 : Int32) (V : sv_V), k10 l1 V = some (r, Vr) → sv_N g qX12_load 9 10 [(0, .ref 146), (1, .int l1)] [] V P) {l1 : Int32} {V : sv_V} (h : B_X12_load_10 N k10 l1 V = some (r, Vr)) : sv_N g qX12_load 9 10 [(0, .ref 146), (1, .int l1)] [] V P := by
  unfold B_X12_load_10 at h
  refine sx_iload_n (pc := 10) dX12_load_10 sx_m1 ?_
  refine sx_aload_n (pc := 11) dX12_load_11 sx_m0 ?_
  refine sv_getI (pc := 12) hG dX12_load_12 f_12_206 lay_146 rfl ?_
  refine sx_icmp_ge (pc := 15) (tgt := 36) dX12_load_15 (by decide) (fun c1 => ?_) (fun c1 => ?_)
  · have h := sx_pos c1 h
    refine sx_aload_n (pc := 36) dX12_load_36 sx_m0 ?_
    refine sx_iconst (pc := 37) (v := 0) dX12_load_37 (by decide) ?_
    obtain ⟨V2, hV2⟩ : ∃ z : sv_V, z = sv_I V 146 107 (0 : Int32) := ⟨_, rfl⟩
    have h := sx_letE hV2 h
    refine sv_putZ (pc := 38) hG dX12_load_38 f_12_767 lay_146 rfl rfl hV2 ?_
    refine sx_aload_n (pc := 41) dX12_load_41 sx_m0 ?_
    refine sx_iconst (pc := 42) (v := 0) dX12_load_42 (by decide) ?_
    obtain ⟨V3, hV3⟩ : ∃ z : sv_V, z = sv_I V2 146 108 (0 : Int32) := ⟨_, rfl⟩
    have h := sx_letE hV3 h
    refine sv_putZ (pc := 43) hG dX12_load_43 f_12_764 lay_146 rfl rfl hV3 ?_
    refine sx_aload_n (pc := 46) dX12_load_46 sx_m0 ?_
    refine sx_iconst (pc := 47) (v := 0) dX12_load_47 (by decide) ?_
    obtain ⟨V4, hV4⟩ : ∃ z : sv_V, z = sv_I V3 146 4 (0 : Int32) := ⟨_, rfl⟩
    have h := sx_letE hV4 h
    refine sv_putZ (pc := 48) hG dX12_load_48 f_12_759 lay_146 rfl rfl hV4 ?_
    refine sx_aload_n (pc := 51) dX12_load_51 sx_m0 ?_
    refine sx_iconst (pc := 52) (v := 0) dX12_load_52 (by decide) ?_
    obtain ⟨V5, hV5⟩ : ∃ z : sv_V, z = sv_I V4 146 62 (0 : Int32) := ⟨_, rfl⟩
    have h := sx_letE hV5 h
    refine sv_putI (pc := 53) hG dX12_load_53 f_12_621 lay_146 rfl hV5 ?_
    refine sx_aload_n (pc := 56) dX12_load_56 sx_m0 ?_
    refine sx_iconst (pc := 57) (v := 0) dX12_load_57 (by decide) ?_
    obtain ⟨V6, hV6⟩ : ∃ z : sv_V, z = sv_I V5 146 57 (0 : Int32) := ⟨_, rfl⟩
    have h := sx_letE hV6 h
    refine sv_putI (pc := 58) hG dX12_load_58 f_12_424 lay_146 rfl hV6 ?_
    refine sx_aload_n (pc := 61) dX12_load_61 sx_m0 ?_
    refine sx_iconst (pc := 62) (v := 0) dX12_load_62 (by decide) ?_
    obtain ⟨V7, hV7⟩ : ∃ z : sv_V, z = sv_I V6 146 5 (0 : Int32) := ⟨_, rfl⟩
    have h := sx_letE hV7 h
    refine sv_putI (pc := 63) hG dX12_load_63 f_12_216 lay_146 rfl hV7 ?_
    refine sx_aload_n (pc := 66) dX12_load_66 sx_m0 ?_
    obtain ⟨⟨x10, V8⟩, g9, h⟩ := sx_bnd h
    refine sv_cV (pc := 67) (y := qX12_check) (o := (some (.int x10))) (as := []) (V1 := V8) hG dX12_load_67 l_X12_913 y0X12_check yvX12_check rfl (Nat.le_of_ble_eq_true rfl) lay_146 kr_12 (by decide) (Nat.le_of_ble_eq_true rfl) rfl rfl rfl (t_X12_check hG ⟨rfl, rfl⟩ g9) ?_
    refine sx_istore_n (pc := 70) (lo' := [(1, .int x10), (0, .ref 146)]) dX12_load_70 (by decide) rfl ?_
    refine sx_iload_n (pc := 71) dX12_load_71 sx_m0 ?_
    refine sx_if_le (pc := 72) (tgt := 80) dX12_load_72 (by decide) (fun c11 => ?_) (fun c11 => ?_)
    · have h := sx_pos c11 h
      refine sx_aload_n (pc := 80) dX12_load_80 sx_m1 ?_
      refine sx_iconst (pc := 81) (v := 1) dX12_load_81 (by decide) ?_
      obtain ⟨V12, hV12⟩ : ∃ z : sv_V, z = sv_I V8 146 4 (1 : Int32) := ⟨_, rfl⟩
      have h := sx_letE hV12 h
      refine sv_putZ (pc := 82) hG dX12_load_82 f_12_759 lay_146 rfl rfl hV12 ?_
      refine sx_aload_n (pc := 85) dX12_load_85 sx_m1 ?_
      refine sv_getI (pc := 86) hG dX12_load_86 f_12_260 lay_146 rfl ?_
      exact sv_iret (pc := 89) dX12_load_89 rfl h hP
    · have h := sx_neg c11 h
      refine sx_bipush (pc := 75) (v := (-100)) dX12_load_75 (by decide) ?_
      refine sx_iload_n (pc := 77) dX12_load_77 sx_m0 ?_
      refine sx_isub (pc := 78) dX12_load_78 ?_
      exact sv_iret (pc := 79) dX12_load_79 rfl h hP
  · have h := sx_neg c1 h
    refine sx_aload_n (pc := 18) dX12_load_18 sx_m0 ?_
    refine sv_getA (pc := 19) hG dX12_load_19 f_12_13 lay_146 rfl cr_146_2 ?_
    refine sx_iload_n (pc := 22) dX12_load_22 sx_m1 ?_
    refine sx_aload_n (pc := 23) dX12_load_23 sx_m0 ?_
    refine sv_getA (pc := 24) hG dX12_load_24 f_12_7 lay_146 rfl cr_146_0 ?_
    refine sx_iload_n (pc := 27) dX12_load_27 sx_m1 ?_
    obtain ⟨g13, h⟩ := sx_grd h
    refine sv_bald (pc := 28) hG dX12_load_28 lay_147 g13 ?_
    obtain ⟨g14, h⟩ := sx_grd h
    obtain ⟨V15, hV15⟩ : ∃ z : sv_V, z = sv_I V 148 l1.toNatClampNeg (V.1 147 l1.toNatClampNeg).toInt8.toInt32 := ⟨_, rfl⟩
    have h := sx_letE hV15 h
    refine sv_bast (pc := 29) hG dX12_load_29 lay_148 g14 hV15 ?_
    obtain ⟨x16, hx16⟩ : ∃ z : Int32, z = l1 + 1 := ⟨_, rfl⟩
    have h := sx_letE hx16 h
    refine sx_iinc (pc := 30) (v := x16) (lo' := [(1, .int x16), (0, .ref 146)]) dX12_load_30 sx_m1 (by rw [hx16]; rfl) (by decide) rfl ?_
    refine sx_goto (pc := 33) (tgt := 10) dX12_load_33 (by decide) ?_
    refine sx_wk (sx_s1 sx_m1 (sx_s1 sx_m0 sx_s0)) ?_
    exact hk10 _ _ h
theorem tL_X12_load_10 {g : sx_G} (hG : sx_Go g) {P : Option Value → sv_V → Prop} {r : Int32} {Vr : sv_V} (hP : P (some (.int r)) Vr) {N : Nat}   : ∀ (n : Nat) (l1 : Int32) (V : sv_V), sx_lp2 (B_X12_load_10 N ) n l1 V = some (r, Vr) → sv_N g qX12_load 9 10 [(0, .ref 146), (1, .int l1)] [] V P :=
  sx_lp2_ind (fun k0 ih _ V h => tB_X12_load_10 hG hP ih h)
def F_X12_load (N : Nat)  (V : sv_V) : Option (Int32 × sv_V) := sx_let (sv_I V 146 3 (V.1 146 1)) (fun V17 => sx_lp2 (B_X12_load_10 N ) N (0 : Int32) V17)
set_option maxRecDepth 20000 in
theorem t_X12_load {g : sx_G} (hG : sx_Go g) {P : Option Value → sv_V → Prop} {r : Int32} {Vr : sv_V} (hP : P (some (.int r)) Vr) {N : Nat}  {V : sv_V} (h : F_X12_load N  V = some (r, Vr)) : sv_N g qX12_load 9 0 [(0, .ref 146)] [] V P := by
  unfold F_X12_load at h
  refine sx_aload_n (pc := 0) dX12_load_0 sx_m0 ?_
  refine sx_aload_n (pc := 1) dX12_load_1 sx_m0 ?_
  refine sv_getI (pc := 2) hG dX12_load_2 f_12_910 lay_146 rfl ?_
  obtain ⟨V17, hV17⟩ : ∃ z : sv_V, z = sv_I V 146 3 (V.1 146 1) := ⟨_, rfl⟩
  have h := sx_letE hV17 h
  refine sv_putI (pc := 5) hG dX12_load_5 f_12_206 lay_146 rfl hV17 ?_
  refine sx_iconst (pc := 8) (v := 0) dX12_load_8 (by decide) ?_
  refine sx_istore_n (pc := 9) (lo' := [(1, .int (0 : Int32)), (0, .ref 146)]) dX12_load_9 (by decide) rfl ?_
  refine sx_wk (sx_s1 sx_m1 (sx_s1 sx_m0 sx_s0)) ?_
  exact tL_X12_load_10 hG hP  N _ _ h
def ncX5_runForSize : Nat := 54874355237596980198602709802
theorem kcX5_runForSize : CK cX5_runForSize ncX5_runForSize 12 := ⟨by decide +kernel, by decide +kernel⟩
theorem dX5_runForSize_0 : decode cX5_runForSize 0 = .ok (.aload_n 0, 1) := dl_o42 kcX5_runForSize (by decide +kernel)
theorem dX5_runForSize_1 : decode cX5_runForSize 1 = .ok (.iload_n 1, 1) := dl_o27 kcX5_runForSize (by decide +kernel)
theorem dX5_runForSize_2 : decode cX5_runForSize 2 = .ok (.iload_n 2, 1) := dl_o28 kcX5_runForSize (by decide +kernel)
theorem dX5_runForSize_3 : decode cX5_runForSize 3 = .ok (.aload_n 3, 1) := dl_o45 kcX5_runForSize (by decide +kernel)
theorem dX5_runForSize_4 : decode cX5_runForSize 4 = .ok (.aload_n 0, 1) := dl_o42 kcX5_runForSize (by decide +kernel)
theorem dX5_runForSize_5 : decode cX5_runForSize 5 = .ok (.getfield 30, 3) := dl_o180 kcX5_runForSize (by decide +kernel)
theorem dX5_runForSize_8 : decode cX5_runForSize 8 = .ok (.invokevirtual 79, 3) := dl_o182 kcX5_runForSize (by decide +kernel)
theorem dX5_runForSize_11 : decode cX5_runForSize 11 = .ok (.return_, 1) := dl_o177 kcX5_runForSize (by decide +kernel)
def F_X5_runForSize (N : Nat) (l1 : Int32) (l2 : Int32) (l3 : Nat) (V : sv_V) : Option sv_V := (F_X5_run N l1 l2 l3 82 V).bind (fun V1 => some V1)
set_option maxRecDepth 20000 in
theorem t_X5_runForSize {g : sx_G} (hG : sx_Go g) {P : Option Value → sv_V → Prop} {Vr : sv_V} (hP : P none Vr) {N : Nat} {l1 : Int32} {l2 : Int32} {l3 : Nat} {V : sv_V} (h : F_X5_runForSize N l1 l2 l3 V = some Vr) : sv_N g qX5_runForSize 5 0 [(0, .ref 69), (1, .int l1), (2, .int l2), (3, .ref l3)] [] V P := by
  unfold F_X5_runForSize at h
  refine sx_aload_n (pc := 0) dX5_runForSize_0 sx_m0 ?_
  refine sx_iload_n (pc := 1) dX5_runForSize_1 sx_m1 ?_
  refine sx_iload_n (pc := 2) dX5_runForSize_2 sx_m2 ?_
  refine sx_aload_n (pc := 3) dX5_runForSize_3 sx_m3 ?_
  refine sx_aload_n (pc := 4) dX5_runForSize_4 sx_m0 ?_
  refine sv_getO (pc := 5) hG dX5_runForSize_5 f_5_30 lay_69 rfl cr_69_3 ?_
  obtain ⟨V1, g2, h⟩ := sx_bnd h
  refine sv_cV (pc := 8) (y := qX5_run) (o := none) (as := [.int l1, .int l2, .ref l3, .ref 82]) (V1 := V1) hG dX5_runForSize_8 l_X5_79 y0X5_run yvX5_run rfl (Nat.le_of_ble_eq_true rfl) lay_69 kr_5 (by decide) (Nat.le_of_ble_eq_true rfl) rfl rfl rfl (t_X5_run hG ⟨rfl, rfl⟩ g2) ?_
  exact sv_vret (pc := 11) dX5_runForSize_11 rfl h hP
def ncX6_setSize : Nat := 2699534980445535978995784997191012401423675240005460667171313764070642117834598991613447128308346355293730019502719073166029245755729165738957619710204630614562093033325516591052634845707131328526940222289471613710412135372946360445194915149744483212184403527785014528111041364511600312903527278880749417980208184995193747724110206295524684049298031402
theorem kcX6_setSize : CK cX6_setSize ncX6_setSize 146 := ⟨by decide +kernel, by decide +kernel⟩
theorem dX6_setSize_0 : decode cX6_setSize 0 = .ok (.aload_n 0, 1) := dl_o42 kcX6_setSize (by decide +kernel)
theorem dX6_setSize_1 : decode cX6_setSize 1 = .ok (.iconst 0, 1) := dl_o3 kcX6_setSize (by decide +kernel)
theorem dX6_setSize_2 : decode cX6_setSize 2 = .ok (.putfield 58, 3) := dl_o181 kcX6_setSize (by decide +kernel)
theorem dX6_setSize_5 : decode cX6_setSize 5 = .ok (.aload_n 0, 1) := dl_o42 kcX6_setSize (by decide +kernel)
theorem dX6_setSize_6 : decode cX6_setSize 6 = .ok (.iconst 0, 1) := dl_o3 kcX6_setSize (by decide +kernel)
theorem dX6_setSize_7 : decode cX6_setSize 7 = .ok (.putfield 54, 3) := dl_o181 kcX6_setSize (by decide +kernel)
theorem dX6_setSize_10 : decode cX6_setSize 10 = .ok (.aload_n 0, 1) := dl_o42 kcX6_setSize (by decide +kernel)
theorem dX6_setSize_11 : decode cX6_setSize 11 = .ok (.getfield 12, 3) := dl_o180 kcX6_setSize (by decide +kernel)
theorem dX6_setSize_14 : decode cX6_setSize 14 = .ok (.aload_n 0, 1) := dl_o42 kcX6_setSize (by decide +kernel)
theorem dX6_setSize_15 : decode cX6_setSize 15 = .ok (.getfield 34, 3) := dl_o180 kcX6_setSize (by decide +kernel)
theorem dX6_setSize_18 : decode cX6_setSize 18 = .ok (.iload_n 1, 1) := dl_o27 kcX6_setSize (by decide +kernel)
theorem dX6_setSize_19 : decode cX6_setSize 19 = .ok (.invokevirtual 72, 3) := dl_o182 kcX6_setSize (by decide +kernel)
theorem dX6_setSize_22 : decode cX6_setSize 22 = .ok (.aload_n 0, 1) := dl_o42 kcX6_setSize (by decide +kernel)
theorem dX6_setSize_23 : decode cX6_setSize 23 = .ok (.getfield 47, 3) := dl_o180 kcX6_setSize (by decide +kernel)
theorem dX6_setSize_26 : decode cX6_setSize 26 = .ok (.iload_n 1, 1) := dl_o27 kcX6_setSize (by decide +kernel)
theorem dX6_setSize_27 : decode cX6_setSize 27 = .ok (.invokevirtual 76, 3) := dl_o182 kcX6_setSize (by decide +kernel)
theorem dX6_setSize_30 : decode cX6_setSize 30 = .ok (.aload_n 0, 1) := dl_o42 kcX6_setSize (by decide +kernel)
theorem dX6_setSize_31 : decode cX6_setSize 31 = .ok (.getfield 47, 3) := dl_o180 kcX6_setSize (by decide +kernel)
theorem dX6_setSize_34 : decode cX6_setSize 34 = .ok (.aload_n 0, 1) := dl_o42 kcX6_setSize (by decide +kernel)
theorem dX6_setSize_35 : decode cX6_setSize 35 = .ok (.getfield 34, 3) := dl_o180 kcX6_setSize (by decide +kernel)
theorem dX6_setSize_38 : decode cX6_setSize 38 = .ok (.getfield 80, 3) := dl_o180 kcX6_setSize (by decide +kernel)
theorem dX6_setSize_41 : decode cX6_setSize 41 = .ok (.bipush 9, 2) := dl_o16 kcX6_setSize 9 (by decide +kernel) (by decide +kernel)
theorem dX6_setSize_43 : decode cX6_setSize 43 = .ok (.iaload, 1) := dl_o46 kcX6_setSize (by decide +kernel)
theorem dX6_setSize_44 : decode cX6_setSize 44 = .ok (.aload_n 0, 1) := dl_o42 kcX6_setSize (by decide +kernel)
theorem dX6_setSize_45 : decode cX6_setSize 45 = .ok (.getfield 34, 3) := dl_o180 kcX6_setSize (by decide +kernel)
theorem dX6_setSize_48 : decode cX6_setSize 48 = .ok (.getfield 85, 3) := dl_o180 kcX6_setSize (by decide +kernel)
theorem dX6_setSize_51 : decode cX6_setSize 51 = .ok (.bipush 9, 2) := dl_o16 kcX6_setSize 9 (by decide +kernel) (by decide +kernel)
theorem dX6_setSize_53 : decode cX6_setSize 53 = .ok (.iaload, 1) := dl_o46 kcX6_setSize (by decide +kernel)
theorem dX6_setSize_54 : decode cX6_setSize 54 = .ok (.aload_n 0, 1) := dl_o42 kcX6_setSize (by decide +kernel)
theorem dX6_setSize_55 : decode cX6_setSize 55 = .ok (.getfield 12, 3) := dl_o180 kcX6_setSize (by decide +kernel)
theorem dX6_setSize_58 : decode cX6_setSize 58 = .ok (.invokevirtual 88, 3) := dl_o182 kcX6_setSize (by decide +kernel)
theorem dX6_setSize_61 : decode cX6_setSize 61 = .ok (.aload_n 0, 1) := dl_o42 kcX6_setSize (by decide +kernel)
theorem dX6_setSize_62 : decode cX6_setSize 62 = .ok (.getfield 47, 3) := dl_o180 kcX6_setSize (by decide +kernel)
theorem dX6_setSize_65 : decode cX6_setSize 65 = .ok (.getfield 92, 3) := dl_o180 kcX6_setSize (by decide +kernel)
theorem dX6_setSize_68 : decode cX6_setSize 68 = .ok (.ifCond .ne 34, 3) := dl_o154 kcX6_setSize 34 (by decide +kernel) (by decide +kernel)
theorem dX6_setSize_71 : decode cX6_setSize 71 = .ok (.aload_n 0, 1) := dl_o42 kcX6_setSize (by decide +kernel)
theorem dX6_setSize_72 : decode cX6_setSize 72 = .ok (.getfield 47, 3) := dl_o180 kcX6_setSize (by decide +kernel)
theorem dX6_setSize_75 : decode cX6_setSize 75 = .ok (.aload_n 0, 1) := dl_o42 kcX6_setSize (by decide +kernel)
theorem dX6_setSize_76 : decode cX6_setSize 76 = .ok (.getfield 34, 3) := dl_o180 kcX6_setSize (by decide +kernel)
theorem dX6_setSize_79 : decode cX6_setSize 79 = .ok (.getfield 80, 3) := dl_o180 kcX6_setSize (by decide +kernel)
theorem dX6_setSize_82 : decode cX6_setSize 82 = .ok (.bipush 10, 2) := dl_o16 kcX6_setSize 10 (by decide +kernel) (by decide +kernel)
theorem dX6_setSize_84 : decode cX6_setSize 84 = .ok (.iaload, 1) := dl_o46 kcX6_setSize (by decide +kernel)
theorem dX6_setSize_85 : decode cX6_setSize 85 = .ok (.aload_n 0, 1) := dl_o42 kcX6_setSize (by decide +kernel)
theorem dX6_setSize_86 : decode cX6_setSize 86 = .ok (.getfield 34, 3) := dl_o180 kcX6_setSize (by decide +kernel)
theorem dX6_setSize_89 : decode cX6_setSize 89 = .ok (.getfield 85, 3) := dl_o180 kcX6_setSize (by decide +kernel)
theorem dX6_setSize_92 : decode cX6_setSize 92 = .ok (.bipush 10, 2) := dl_o16 kcX6_setSize 10 (by decide +kernel) (by decide +kernel)
theorem dX6_setSize_94 : decode cX6_setSize 94 = .ok (.iaload, 1) := dl_o46 kcX6_setSize (by decide +kernel)
theorem dX6_setSize_95 : decode cX6_setSize 95 = .ok (.aload_n 0, 1) := dl_o42 kcX6_setSize (by decide +kernel)
theorem dX6_setSize_96 : decode cX6_setSize 96 = .ok (.getfield 12, 3) := dl_o180 kcX6_setSize (by decide +kernel)
theorem dX6_setSize_99 : decode cX6_setSize 99 = .ok (.invokevirtual 88, 3) := dl_o182 kcX6_setSize (by decide +kernel)
theorem dX6_setSize_102 : decode cX6_setSize 102 = .ok (.aload_n 0, 1) := dl_o42 kcX6_setSize (by decide +kernel)
theorem dX6_setSize_103 : decode cX6_setSize 103 = .ok (.getfield 47, 3) := dl_o180 kcX6_setSize (by decide +kernel)
theorem dX6_setSize_106 : decode cX6_setSize 106 = .ok (.getfield 92, 3) := dl_o180 kcX6_setSize (by decide +kernel)
theorem dX6_setSize_109 : decode cX6_setSize 109 = .ok (.ifCond .eq 24, 3) := dl_o153 kcX6_setSize 24 (by decide +kernel) (by decide +kernel)
theorem dX6_setSize_112 : decode cX6_setSize 112 = .ok (.aload_n 0, 1) := dl_o42 kcX6_setSize (by decide +kernel)
theorem dX6_setSize_113 : decode cX6_setSize 113 = .ok (.dup, 1) := dl_o89 kcX6_setSize (by decide +kernel)
theorem dX6_setSize_114 : decode cX6_setSize 114 = .ok (.getfield 95, 3) := dl_o180 kcX6_setSize (by decide +kernel)
theorem dX6_setSize_117 : decode cX6_setSize 117 = .ok (.iconst 1, 1) := dl_o4 kcX6_setSize (by decide +kernel)
theorem dX6_setSize_118 : decode cX6_setSize 118 = .ok (.iadd, 1) := dl_o96 kcX6_setSize (by decide +kernel)
theorem dX6_setSize_119 : decode cX6_setSize 119 = .ok (.putfield 95, 3) := dl_o181 kcX6_setSize (by decide +kernel)
theorem dX6_setSize_122 : decode cX6_setSize 122 = .ok (.bipush (-100), 2) := dl_o16 kcX6_setSize 156 (by decide +kernel) (by decide +kernel)
theorem dX6_setSize_124 : decode cX6_setSize 124 = .ok (.aload_n 0, 1) := dl_o42 kcX6_setSize (by decide +kernel)
theorem dX6_setSize_125 : decode cX6_setSize 125 = .ok (.getfield 47, 3) := dl_o180 kcX6_setSize (by decide +kernel)
theorem dX6_setSize_128 : decode cX6_setSize 128 = .ok (.getfield 92, 3) := dl_o180 kcX6_setSize (by decide +kernel)
theorem dX6_setSize_131 : decode cX6_setSize 131 = .ok (.isub, 1) := dl_o100 kcX6_setSize (by decide +kernel)
theorem dX6_setSize_132 : decode cX6_setSize 132 = .ok (.ireturn, 1) := dl_o172 kcX6_setSize (by decide +kernel)
theorem dX6_setSize_133 : decode cX6_setSize 133 = .ok (.aload_n 0, 1) := dl_o42 kcX6_setSize (by decide +kernel)
theorem dX6_setSize_134 : decode cX6_setSize 134 = .ok (.iload_n 1, 1) := dl_o27 kcX6_setSize (by decide +kernel)
theorem dX6_setSize_135 : decode cX6_setSize 135 = .ok (.putfield 54, 3) := dl_o181 kcX6_setSize (by decide +kernel)
theorem dX6_setSize_138 : decode cX6_setSize 138 = .ok (.aload_n 0, 1) := dl_o42 kcX6_setSize (by decide +kernel)
theorem dX6_setSize_139 : decode cX6_setSize 139 = .ok (.getfield 47, 3) := dl_o180 kcX6_setSize (by decide +kernel)
theorem dX6_setSize_142 : decode cX6_setSize 142 = .ok (.getfield 98, 3) := dl_o180 kcX6_setSize (by decide +kernel)
theorem dX6_setSize_145 : decode cX6_setSize 145 = .ok (.ireturn, 1) := dl_o172 kcX6_setSize (by decide +kernel)
def B_X6_setSize_102 (N : Nat)  (l1 : Int32) (V : sv_V) : Option (Int32 × sv_V) := if (V.1 69 14) = 0 then (sx_let (sv_I V 30 7 l1) (fun V2 => some (V2.1 69 13, V2))) else (sx_let (sv_I V 30 11 ((V.1 30 11) + (1 : Int32))) (fun V3 => some ((-100 : Int32) - (V3.1 69 14), V3)))
set_option maxRecDepth 20000 in
theorem tB_X6_setSize_102 {g : sx_G} (hG : sx_Go g) {P : Option Value → sv_V → Prop} {r : Int32} {Vr : sv_V} (hP : P (some (.int r)) Vr) {N : Nat}   {l1 : Int32} {V : sv_V} (h : B_X6_setSize_102 N  l1 V = some (r, Vr)) : sv_N g qX6_setSize 6 102 [(0, .ref 30), (1, .int l1)] [] V P := by
  unfold B_X6_setSize_102 at h
  refine sx_aload_n (pc := 102) dX6_setSize_102 sx_m0 ?_
  refine sv_getO (pc := 103) hG dX6_setSize_103 f_6_47 lay_30 rfl cr_30_2 ?_
  refine sv_getI (pc := 106) hG dX6_setSize_106 f_6_92 lay_69 rfl ?_
  refine sx_if_eq (pc := 109) (tgt := 133) dX6_setSize_109 (by decide) (fun c1 => ?_) (fun c1 => ?_)
  · have h := sx_pos c1 h
    refine sx_aload_n (pc := 133) dX6_setSize_133 sx_m0 ?_
    refine sx_iload_n (pc := 134) dX6_setSize_134 sx_m1 ?_
    obtain ⟨V2, hV2⟩ : ∃ z : sv_V, z = sv_I V 30 7 l1 := ⟨_, rfl⟩
    have h := sx_letE hV2 h
    refine sv_putI (pc := 135) hG dX6_setSize_135 f_6_54 lay_30 rfl hV2 ?_
    refine sx_aload_n (pc := 138) dX6_setSize_138 sx_m0 ?_
    refine sv_getO (pc := 139) hG dX6_setSize_139 f_6_47 lay_30 rfl cr_30_2 ?_
    refine sv_getI (pc := 142) hG dX6_setSize_142 f_6_98 lay_69 rfl ?_
    exact sv_iret (pc := 145) dX6_setSize_145 rfl h hP
  · have h := sx_neg c1 h
    refine sx_aload_n (pc := 112) dX6_setSize_112 sx_m0 ?_
    refine sx_dup (pc := 113) dX6_setSize_113 rfl ?_
    refine sv_getI (pc := 114) hG dX6_setSize_114 f_6_95 lay_30 rfl ?_
    refine sx_iconst (pc := 117) (v := 1) dX6_setSize_117 (by decide) ?_
    refine sx_iadd (pc := 118) dX6_setSize_118 ?_
    obtain ⟨V3, hV3⟩ : ∃ z : sv_V, z = sv_I V 30 11 ((V.1 30 11) + (1 : Int32)) := ⟨_, rfl⟩
    have h := sx_letE hV3 h
    refine sv_putI (pc := 119) hG dX6_setSize_119 f_6_95 lay_30 rfl hV3 ?_
    refine sx_bipush (pc := 122) (v := (-100)) dX6_setSize_122 (by decide) ?_
    refine sx_aload_n (pc := 124) dX6_setSize_124 sx_m0 ?_
    refine sv_getO (pc := 125) hG dX6_setSize_125 f_6_47 lay_30 rfl cr_30_2 ?_
    refine sv_getI (pc := 128) hG dX6_setSize_128 f_6_92 lay_69 rfl ?_
    refine sx_isub (pc := 131) dX6_setSize_131 ?_
    exact sv_iret (pc := 132) dX6_setSize_132 rfl h hP
def F_X6_setSize (N : Nat) (l1 : Int32) (V : sv_V) : Option (Int32 × sv_V) := sx_let (sv_I V 30 8 (0 : Int32)) (fun V4 => sx_let (sv_I V4 30 7 (0 : Int32)) (fun V5 => (F_X7_renew N 31 l1 V5).bind (fun V6 => (F_X5_beginSize N l1 V6).bind (fun V8 => (F_X5_runForSize N (V8.1 4 (9 : Int32).toNatClampNeg) (V8.1 5 (9 : Int32).toNatClampNeg) 31 V8).bind (fun V10 => if (V10.1 69 14) = 0 then ((F_X5_runForSize N (V10.1 4 (10 : Int32).toNatClampNeg) (V10.1 5 (10 : Int32).toNatClampNeg) 31 V10).bind (fun V13 => B_X6_setSize_102 N  l1 V13)) else (B_X6_setSize_102 N  l1 V10))))))
set_option maxRecDepth 20000 in
theorem t_X6_setSize {g : sx_G} (hG : sx_Go g) {P : Option Value → sv_V → Prop} {r : Int32} {Vr : sv_V} (hP : P (some (.int r)) Vr) {N : Nat} {l1 : Int32} {V : sv_V} (h : F_X6_setSize N l1 V = some (r, Vr)) : sv_N g qX6_setSize 6 0 [(0, .ref 30), (1, .int l1)] [] V P := by
  unfold F_X6_setSize at h
  refine sx_aload_n (pc := 0) dX6_setSize_0 sx_m0 ?_
  refine sx_iconst (pc := 1) (v := 0) dX6_setSize_1 (by decide) ?_
  obtain ⟨V4, hV4⟩ : ∃ z : sv_V, z = sv_I V 30 8 (0 : Int32) := ⟨_, rfl⟩
  have h := sx_letE hV4 h
  refine sv_putZ (pc := 2) hG dX6_setSize_2 f_6_58 lay_30 rfl rfl hV4 ?_
  refine sx_aload_n (pc := 5) dX6_setSize_5 sx_m0 ?_
  refine sx_iconst (pc := 6) (v := 0) dX6_setSize_6 (by decide) ?_
  obtain ⟨V5, hV5⟩ : ∃ z : sv_V, z = sv_I V4 30 7 (0 : Int32) := ⟨_, rfl⟩
  have h := sx_letE hV5 h
  refine sv_putI (pc := 7) hG dX6_setSize_7 f_6_54 lay_30 rfl hV5 ?_
  refine sx_aload_n (pc := 10) dX6_setSize_10 sx_m0 ?_
  refine sv_getO (pc := 11) hG dX6_setSize_11 f_6_12 lay_30 rfl cr_30_3 ?_
  refine sx_aload_n (pc := 14) dX6_setSize_14 sx_m0 ?_
  refine sv_getO (pc := 15) hG dX6_setSize_15 f_6_34 lay_30 rfl cr_30_0 ?_
  refine sx_iload_n (pc := 18) dX6_setSize_18 sx_m1 ?_
  obtain ⟨V6, g7, h⟩ := sx_bnd h
  refine sv_cV (pc := 19) (y := qX7_renew) (o := none) (as := [.ref 2, .int l1]) (V1 := V6) hG dX6_setSize_19 l_X6_72 y0X7_renew yvX7_renew rfl (Nat.le_of_ble_eq_true rfl) lay_31 kr_7 (by decide) (Nat.le_of_ble_eq_true rfl) rfl rfl rfl (t_X7_renew hG ⟨rfl, rfl⟩ g7) ?_
  refine sx_aload_n (pc := 22) dX6_setSize_22 sx_m0 ?_
  refine sv_getO (pc := 23) hG dX6_setSize_23 f_6_47 lay_30 rfl cr_30_2 ?_
  refine sx_iload_n (pc := 26) dX6_setSize_26 sx_m1 ?_
  obtain ⟨V8, g9, h⟩ := sx_bnd h
  refine sv_cV (pc := 27) (y := qX5_beginSize) (o := none) (as := [.int l1]) (V1 := V8) hG dX6_setSize_27 l_X6_76 y0X5_beginSize yvX5_beginSize rfl (Nat.le_of_ble_eq_true rfl) lay_69 kr_5 (by decide) (Nat.le_of_ble_eq_true rfl) rfl rfl rfl (t_X5_beginSize hG ⟨rfl, rfl⟩ g9) ?_
  refine sx_aload_n (pc := 30) dX6_setSize_30 sx_m0 ?_
  refine sv_getO (pc := 31) hG dX6_setSize_31 f_6_47 lay_30 rfl cr_30_2 ?_
  refine sx_aload_n (pc := 34) dX6_setSize_34 sx_m0 ?_
  refine sv_getO (pc := 35) hG dX6_setSize_35 f_6_34 lay_30 rfl cr_30_0 ?_
  refine sv_getA (pc := 38) hG dX6_setSize_38 f_6_80 lay_2 rfl cr_2_3 ?_
  refine sx_bipush (pc := 41) (v := 9) dX6_setSize_41 (by decide) ?_
  refine sv_iald (pc := 43) hG dX6_setSize_43 lay_4 (by decide) ?_
  refine sx_aload_n (pc := 44) dX6_setSize_44 sx_m0 ?_
  refine sv_getO (pc := 45) hG dX6_setSize_45 f_6_34 lay_30 rfl cr_30_0 ?_
  refine sv_getA (pc := 48) hG dX6_setSize_48 f_6_85 lay_2 rfl cr_2_4 ?_
  refine sx_bipush (pc := 51) (v := 9) dX6_setSize_51 (by decide) ?_
  refine sv_iald (pc := 53) hG dX6_setSize_53 lay_5 (by decide) ?_
  refine sx_aload_n (pc := 54) dX6_setSize_54 sx_m0 ?_
  refine sv_getO (pc := 55) hG dX6_setSize_55 f_6_12 lay_30 rfl cr_30_3 ?_
  obtain ⟨V10, g11, h⟩ := sx_bnd h
  refine sv_cV (pc := 58) (y := qX5_runForSize) (o := none) (as := [.int (V8.1 4 (9 : Int32).toNatClampNeg), .int (V8.1 5 (9 : Int32).toNatClampNeg), .ref 31]) (V1 := V10) hG dX6_setSize_58 l_X6_88 y0X5_runForSize yvX5_runForSize rfl (Nat.le_of_ble_eq_true rfl) lay_69 kr_5 (by decide) (Nat.le_of_ble_eq_true rfl) rfl rfl rfl (t_X5_runForSize hG ⟨rfl, rfl⟩ g11) ?_
  refine sx_aload_n (pc := 61) dX6_setSize_61 sx_m0 ?_
  refine sv_getO (pc := 62) hG dX6_setSize_62 f_6_47 lay_30 rfl cr_30_2 ?_
  refine sv_getI (pc := 65) hG dX6_setSize_65 f_6_92 lay_69 rfl ?_
  refine sx_if_ne (pc := 68) (tgt := 102) dX6_setSize_68 (by decide) (fun c12 => ?_) (fun c12 => ?_)
  · have h := sx_neg c12 h
    refine sx_wk (sx_s1 sx_m0 (sx_s1 sx_m1 sx_s0)) ?_
    exact tB_X6_setSize_102 hG hP  h
  · have h := sx_pos c12 h
    refine sx_aload_n (pc := 71) dX6_setSize_71 sx_m0 ?_
    refine sv_getO (pc := 72) hG dX6_setSize_72 f_6_47 lay_30 rfl cr_30_2 ?_
    refine sx_aload_n (pc := 75) dX6_setSize_75 sx_m0 ?_
    refine sv_getO (pc := 76) hG dX6_setSize_76 f_6_34 lay_30 rfl cr_30_0 ?_
    refine sv_getA (pc := 79) hG dX6_setSize_79 f_6_80 lay_2 rfl cr_2_3 ?_
    refine sx_bipush (pc := 82) (v := 10) dX6_setSize_82 (by decide) ?_
    refine sv_iald (pc := 84) hG dX6_setSize_84 lay_4 (by decide) ?_
    refine sx_aload_n (pc := 85) dX6_setSize_85 sx_m0 ?_
    refine sv_getO (pc := 86) hG dX6_setSize_86 f_6_34 lay_30 rfl cr_30_0 ?_
    refine sv_getA (pc := 89) hG dX6_setSize_89 f_6_85 lay_2 rfl cr_2_4 ?_
    refine sx_bipush (pc := 92) (v := 10) dX6_setSize_92 (by decide) ?_
    refine sv_iald (pc := 94) hG dX6_setSize_94 lay_5 (by decide) ?_
    refine sx_aload_n (pc := 95) dX6_setSize_95 sx_m0 ?_
    refine sv_getO (pc := 96) hG dX6_setSize_96 f_6_12 lay_30 rfl cr_30_3 ?_
    obtain ⟨V13, g14, h⟩ := sx_bnd h
    refine sv_cV (pc := 99) (y := qX5_runForSize) (o := none) (as := [.int (V10.1 4 (10 : Int32).toNatClampNeg), .int (V10.1 5 (10 : Int32).toNatClampNeg), .ref 31]) (V1 := V13) hG dX6_setSize_99 l_X6_88 y0X5_runForSize yvX5_runForSize rfl (Nat.le_of_ble_eq_true rfl) lay_69 kr_5 (by decide) (Nat.le_of_ble_eq_true rfl) rfl rfl rfl (t_X5_runForSize hG ⟨rfl, rfl⟩ g14) ?_
    refine sx_wk (sx_s1 sx_m0 (sx_s1 sx_m1 sx_s0)) ?_
    exact tB_X6_setSize_102 hG hP  h
def ncX6_build : Nat := 22475626529539638352120189050500542472436491761038858505564998235036679867469140505844244622911352581039910236516451046832974001104502939884481936328737655011524680310421530811523031727181981106952814799241086129728792106438938116797049413383371813667261418583513951356725176542320797115045438734314826027495547664764344801233000238402330068595214825562654835064105629408698966171366758276395391468251771052405866069140547557937907334191459207196
theorem kcX6_build : CK cX6_build ncX6_build 185 := ⟨by decide +kernel, by decide +kernel⟩
theorem dX6_build_0 : decode cX6_build 0 = .ok (.iload_n 2, 1) := dl_o28 kcX6_build (by decide +kernel)
theorem dX6_build_1 : decode cX6_build 1 = .ok (.iconst 5, 1) := dl_o8 kcX6_build (by decide +kernel)
theorem dX6_build_2 : decode cX6_build 2 = .ok (.if_icmp .ge 14, 3) := dl_o162 kcX6_build 14 (by decide +kernel) (by decide +kernel)
theorem dX6_build_5 : decode cX6_build 5 = .ok (.aload_n 0, 1) := dl_o42 kcX6_build (by decide +kernel)
theorem dX6_build_6 : decode cX6_build 6 = .ok (.getfield 34, 3) := dl_o180 kcX6_build (by decide +kernel)
theorem dX6_build_9 : decode cX6_build 9 = .ok (.iload_n 1, 1) := dl_o27 kcX6_build (by decide +kernel)
theorem dX6_build_10 : decode cX6_build 10 = .ok (.invokevirtual 139, 3) := dl_o182 kcX6_build (by decide +kernel)
theorem dX6_build_13 : decode cX6_build 13 = .ok (.ifCond .ne 14, 3) := dl_o154 kcX6_build 14 (by decide +kernel) (by decide +kernel)
theorem dX6_build_16 : decode cX6_build 16 = .ok (.aload_n 0, 1) := dl_o42 kcX6_build (by decide +kernel)
theorem dX6_build_17 : decode cX6_build 17 = .ok (.getfield 47, 3) := dl_o180 kcX6_build (by decide +kernel)
theorem dX6_build_20 : decode cX6_build 20 = .ok (.bipush 12, 2) := dl_o16 kcX6_build 12 (by decide +kernel) (by decide +kernel)
theorem dX6_build_22 : decode cX6_build 22 = .ok (.invokevirtual 129, 3) := dl_o182 kcX6_build (by decide +kernel)
theorem dX6_build_25 : decode cX6_build 25 = .ok (.iconst 0, 1) := dl_o3 kcX6_build (by decide +kernel)
theorem dX6_build_26 : decode cX6_build 26 = .ok (.ireturn, 1) := dl_o172 kcX6_build (by decide +kernel)
theorem dX6_build_27 : decode cX6_build 27 = .ok (.aload_n 0, 1) := dl_o42 kcX6_build (by decide +kernel)
theorem dX6_build_28 : decode cX6_build 28 = .ok (.getfield 23, 3) := dl_o180 kcX6_build (by decide +kernel)
theorem dX6_build_31 : decode cX6_build 31 = .ok (.iload_n 2, 1) := dl_o28 kcX6_build (by decide +kernel)
theorem dX6_build_32 : decode cX6_build 32 = .ok (.aaload, 1) := dl_o50 kcX6_build (by decide +kernel)
theorem dX6_build_33 : decode cX6_build 33 = .ok (.astore_n 3, 1) := dl_o78 kcX6_build (by decide +kernel)
theorem dX6_build_34 : decode cX6_build 34 = .ok (.aload_n 0, 1) := dl_o42 kcX6_build (by decide +kernel)
theorem dX6_build_35 : decode cX6_build 35 = .ok (.iload_n 1, 1) := dl_o27 kcX6_build (by decide +kernel)
theorem dX6_build_36 : decode cX6_build 36 = .ok (.aload_n 3, 1) := dl_o45 kcX6_build (by decide +kernel)
theorem dX6_build_37 : decode cX6_build 37 = .ok (.invokevirtual 142, 3) := dl_o182 kcX6_build (by decide +kernel)
theorem dX6_build_40 : decode cX6_build 40 = .ok (.aload_n 0, 1) := dl_o42 kcX6_build (by decide +kernel)
theorem dX6_build_41 : decode cX6_build 41 = .ok (.getfield 34, 3) := dl_o180 kcX6_build (by decide +kernel)
theorem dX6_build_44 : decode cX6_build 44 = .ok (.getfield 111, 3) := dl_o180 kcX6_build (by decide +kernel)
theorem dX6_build_47 : decode cX6_build 47 = .ok (.iconst 5, 1) := dl_o8 kcX6_build (by decide +kernel)
theorem dX6_build_48 : decode cX6_build 48 = .ok (.aaload, 1) := dl_o50 kcX6_build (by decide +kernel)
theorem dX6_build_49 : decode cX6_build 49 = .ok (.iload_n 1, 1) := dl_o27 kcX6_build (by decide +kernel)
theorem dX6_build_50 : decode cX6_build 50 = .ok (.iaload, 1) := dl_o46 kcX6_build (by decide +kernel)
theorem dX6_build_51 : decode cX6_build 51 = .ok (.ifCond .le 14, 3) := dl_o158 kcX6_build 14 (by decide +kernel) (by decide +kernel)
theorem dX6_build_54 : decode cX6_build 54 = .ok (.aload_n 0, 1) := dl_o42 kcX6_build (by decide +kernel)
theorem dX6_build_55 : decode cX6_build 55 = .ok (.iload_n 1, 1) := dl_o27 kcX6_build (by decide +kernel)
theorem dX6_build_56 : decode cX6_build 56 = .ok (.iload_n 2, 1) := dl_o28 kcX6_build (by decide +kernel)
theorem dX6_build_57 : decode cX6_build 57 = .ok (.invokevirtual 146, 3) := dl_o182 kcX6_build (by decide +kernel)
theorem dX6_build_60 : decode cX6_build 60 = .ok (.ifCond .ne 25, 3) := dl_o154 kcX6_build 25 (by decide +kernel) (by decide +kernel)
theorem dX6_build_63 : decode cX6_build 63 = .ok (.iconst 0, 1) := dl_o3 kcX6_build (by decide +kernel)
theorem dX6_build_64 : decode cX6_build 64 = .ok (.ireturn, 1) := dl_o172 kcX6_build (by decide +kernel)
theorem dX6_build_65 : decode cX6_build 65 = .ok (.aload_n 0, 1) := dl_o42 kcX6_build (by decide +kernel)
theorem dX6_build_66 : decode cX6_build 66 = .ok (.getfield 34, 3) := dl_o180 kcX6_build (by decide +kernel)
theorem dX6_build_69 : decode cX6_build 69 = .ok (.getfield 111, 3) := dl_o180 kcX6_build (by decide +kernel)
theorem dX6_build_72 : decode cX6_build 72 = .ok (.iconst 1, 1) := dl_o4 kcX6_build (by decide +kernel)
theorem dX6_build_73 : decode cX6_build 73 = .ok (.aaload, 1) := dl_o50 kcX6_build (by decide +kernel)
theorem dX6_build_74 : decode cX6_build 74 = .ok (.iload_n 1, 1) := dl_o27 kcX6_build (by decide +kernel)
theorem dX6_build_75 : decode cX6_build 75 = .ok (.iaload, 1) := dl_o46 kcX6_build (by decide +kernel)
theorem dX6_build_76 : decode cX6_build 76 = .ok (.ifCond .le 9, 3) := dl_o158 kcX6_build 9 (by decide +kernel) (by decide +kernel)
theorem dX6_build_79 : decode cX6_build 79 = .ok (.aload_n 0, 1) := dl_o42 kcX6_build (by decide +kernel)
theorem dX6_build_80 : decode cX6_build 80 = .ok (.iload_n 1, 1) := dl_o27 kcX6_build (by decide +kernel)
theorem dX6_build_81 : decode cX6_build 81 = .ok (.aload_n 3, 1) := dl_o45 kcX6_build (by decide +kernel)
theorem dX6_build_82 : decode cX6_build 82 = .ok (.invokevirtual 149, 3) := dl_o182 kcX6_build (by decide +kernel)
theorem dX6_build_85 : decode cX6_build 85 = .ok (.aload_n 3, 1) := dl_o45 kcX6_build (by decide +kernel)
theorem dX6_build_86 : decode cX6_build 86 = .ok (.ldc 152, 2) := dl_o18 kcX6_build (by decide +kernel)
theorem dX6_build_88 : decode cX6_build 88 = .ok (.invokevirtual 125, 3) := dl_o182 kcX6_build (by decide +kernel)
theorem dX6_build_91 : decode cX6_build 91 = .ok (.ifCond .ne 14, 3) := dl_o154 kcX6_build 14 (by decide +kernel) (by decide +kernel)
theorem dX6_build_94 : decode cX6_build 94 = .ok (.aload_n 0, 1) := dl_o42 kcX6_build (by decide +kernel)
theorem dX6_build_95 : decode cX6_build 95 = .ok (.getfield 47, 3) := dl_o180 kcX6_build (by decide +kernel)
theorem dX6_build_98 : decode cX6_build 98 = .ok (.bipush 13, 2) := dl_o16 kcX6_build 13 (by decide +kernel) (by decide +kernel)
theorem dX6_build_100 : decode cX6_build 100 = .ok (.invokevirtual 129, 3) := dl_o182 kcX6_build (by decide +kernel)
theorem dX6_build_103 : decode cX6_build 103 = .ok (.iconst 0, 1) := dl_o3 kcX6_build (by decide +kernel)
theorem dX6_build_104 : decode cX6_build 104 = .ok (.ireturn, 1) := dl_o172 kcX6_build (by decide +kernel)
theorem dX6_build_105 : decode cX6_build 105 = .ok (.aload_n 0, 1) := dl_o42 kcX6_build (by decide +kernel)
theorem dX6_build_106 : decode cX6_build 106 = .ok (.getfield 34, 3) := dl_o180 kcX6_build (by decide +kernel)
theorem dX6_build_109 : decode cX6_build 109 = .ok (.getfield 111, 3) := dl_o180 kcX6_build (by decide +kernel)
theorem dX6_build_112 : decode cX6_build 112 = .ok (.bipush 7, 2) := dl_o16 kcX6_build 7 (by decide +kernel) (by decide +kernel)
theorem dX6_build_114 : decode cX6_build 114 = .ok (.aaload, 1) := dl_o50 kcX6_build (by decide +kernel)
theorem dX6_build_115 : decode cX6_build 115 = .ok (.iload_n 1, 1) := dl_o27 kcX6_build (by decide +kernel)
theorem dX6_build_116 : decode cX6_build 116 = .ok (.iaload, 1) := dl_o46 kcX6_build (by decide +kernel)
theorem dX6_build_117 : decode cX6_build 117 = .ok (.istore 4, 2) := dl_o54 kcX6_build (by decide +kernel)
theorem dX6_build_119 : decode cX6_build 119 = .ok (.iload 4, 2) := dl_o21 kcX6_build (by decide +kernel)
theorem dX6_build_121 : decode cX6_build 121 = .ok (.ifCond .le 48, 3) := dl_o158 kcX6_build 48 (by decide +kernel) (by decide +kernel)
theorem dX6_build_124 : decode cX6_build 124 = .ok (.aload_n 0, 1) := dl_o42 kcX6_build (by decide +kernel)
theorem dX6_build_125 : decode cX6_build 125 = .ok (.getfield 18, 3) := dl_o180 kcX6_build (by decide +kernel)
theorem dX6_build_128 : decode cX6_build 128 = .ok (.aload_n 0, 1) := dl_o42 kcX6_build (by decide +kernel)
theorem dX6_build_129 : decode cX6_build 129 = .ok (.getfield 12, 3) := dl_o180 kcX6_build (by decide +kernel)
theorem dX6_build_132 : decode cX6_build 132 = .ok (.invokevirtual 153, 3) := dl_o182 kcX6_build (by decide +kernel)
theorem dX6_build_135 : decode cX6_build 135 = .ok (.aload_n 3, 1) := dl_o45 kcX6_build (by decide +kernel)
theorem dX6_build_136 : decode cX6_build 136 = .ok (.invokevirtual 157, 3) := dl_o182 kcX6_build (by decide +kernel)
theorem dX6_build_139 : decode cX6_build 139 = .ok (.aload_n 0, 1) := dl_o42 kcX6_build (by decide +kernel)
theorem dX6_build_140 : decode cX6_build 140 = .ok (.getfield 47, 3) := dl_o180 kcX6_build (by decide +kernel)
theorem dX6_build_143 : decode cX6_build 143 = .ok (.aload_n 0, 1) := dl_o42 kcX6_build (by decide +kernel)
theorem dX6_build_144 : decode cX6_build 144 = .ok (.getfield 34, 3) := dl_o180 kcX6_build (by decide +kernel)
theorem dX6_build_147 : decode cX6_build 147 = .ok (.getfield 111, 3) := dl_o180 kcX6_build (by decide +kernel)
theorem dX6_build_150 : decode cX6_build 150 = .ok (.bipush 6, 2) := dl_o16 kcX6_build 6 (by decide +kernel) (by decide +kernel)
theorem dX6_build_152 : decode cX6_build 152 = .ok (.aaload, 1) := dl_o50 kcX6_build (by decide +kernel)
theorem dX6_build_153 : decode cX6_build 153 = .ok (.iload_n 1, 1) := dl_o27 kcX6_build (by decide +kernel)
theorem dX6_build_154 : decode cX6_build 154 = .ok (.iaload, 1) := dl_o46 kcX6_build (by decide +kernel)
theorem dX6_build_155 : decode cX6_build 155 = .ok (.iload 4, 2) := dl_o21 kcX6_build (by decide +kernel)
theorem dX6_build_157 : decode cX6_build 157 = .ok (.aload_n 0, 1) := dl_o42 kcX6_build (by decide +kernel)
theorem dX6_build_158 : decode cX6_build 158 = .ok (.getfield 18, 3) := dl_o180 kcX6_build (by decide +kernel)
theorem dX6_build_161 : decode cX6_build 161 = .ok (.aload_n 3, 1) := dl_o45 kcX6_build (by decide +kernel)
theorem dX6_build_162 : decode cX6_build 162 = .ok (.invokevirtual 160, 3) := dl_o182 kcX6_build (by decide +kernel)
theorem dX6_build_165 : decode cX6_build 165 = .ok (.aload_n 3, 1) := dl_o45 kcX6_build (by decide +kernel)
theorem dX6_build_166 : decode cX6_build 166 = .ok (.invokevirtual 164, 3) := dl_o182 kcX6_build (by decide +kernel)
theorem dX6_build_169 : decode cX6_build 169 = .ok (.aload_n 0, 1) := dl_o42 kcX6_build (by decide +kernel)
theorem dX6_build_170 : decode cX6_build 170 = .ok (.getfield 47, 3) := dl_o180 kcX6_build (by decide +kernel)
theorem dX6_build_173 : decode cX6_build 173 = .ok (.getfield 92, 3) := dl_o180 kcX6_build (by decide +kernel)
theorem dX6_build_176 : decode cX6_build 176 = .ok (.ifCond .ne 7, 3) := dl_o154 kcX6_build 7 (by decide +kernel) (by decide +kernel)
theorem dX6_build_179 : decode cX6_build 179 = .ok (.iconst 1, 1) := dl_o4 kcX6_build (by decide +kernel)
theorem dX6_build_180 : decode cX6_build 180 = .ok (.goto 4, 3) := dl_o167 kcX6_build 4 (by decide +kernel) (by decide +kernel)
theorem dX6_build_183 : decode cX6_build 183 = .ok (.iconst 0, 1) := dl_o3 kcX6_build (by decide +kernel)
theorem dX6_build_184 : decode cX6_build 184 = .ok (.ireturn, 1) := dl_o172 kcX6_build (by decide +kernel)
def B_X6_build_16 (N : Nat) (kb : Int32 → Int32 → sv_V → Option (Int32 × sv_V))   (V : sv_V) : Option (Int32 × sv_V) := (F_X5_failOutside (12 : Int32) V).bind (fun V1 => some ((0 : Int32), V1))
set_option maxRecDepth 20000 in
theorem tB_X6_build_16 {g : sx_G} (hG : sx_Go g) {P : Option Value → sv_V → Prop} {r : Int32} {Vr : sv_V} (hP : P (some (.int r)) Vr) {N : Nat} {D : Nat} {kb : Int32 → Int32 → sv_V → Option (Int32 × sv_V)} (hkb : ∀ (l1 : Int32) (l2 : Int32) (V : sv_V) (r : Int32) (Wr : sv_V), kb l1 l2 V = some (r, Wr) → ∀ P : Option Value → sv_V → Prop, P (some (.int r)) Wr → sv_N g qX6_build (30 + 2 * D) 0 [(0, .ref 30), (1, .int l1), (2, .int l2)] [] V P)    {V : sv_V} (h : B_X6_build_16 N kb   V = some (r, Vr)) : sv_N g qX6_build (30 + 2 * (D + 1)) 16 [(0, .ref 30)] [] V P := by
  unfold B_X6_build_16 at h
  refine sx_aload_n (pc := 16) dX6_build_16 sx_m0 ?_
  refine sv_getO (pc := 17) hG dX6_build_17 f_6_47 lay_30 rfl cr_30_2 ?_
  refine sx_bipush (pc := 20) (v := 12) dX6_build_20 (by decide) ?_
  obtain ⟨V1, g2, h⟩ := sx_bnd h
  refine sv_cV (pc := 22) (y := qX5_failOutside) (o := none) (as := [.int (12 : Int32)]) (V1 := V1) hG dX6_build_22 l_X6_129 y0X5_failOutside yvX5_failOutside rfl (Nat.le_of_ble_eq_true rfl) lay_69 kr_5 (by omega) (Nat.le_of_ble_eq_true rfl) rfl rfl rfl (t_X5_failOutside hG ⟨rfl, rfl⟩ g2) ?_
  refine sx_iconst (pc := 25) (v := 0) dX6_build_25 (by decide) ?_
  exact sv_zret (pc := 26) dX6_build_26 rfl rfl h hP
def B_X6_build_169 (N : Nat) (kb : Int32 → Int32 → sv_V → Option (Int32 × sv_V))   (V : sv_V) : Option (Int32 × sv_V) := if (V.1 69 14) = 0 then (some ((1 : Int32), V)) else (some ((0 : Int32), V))
set_option maxRecDepth 20000 in
theorem tB_X6_build_169 {g : sx_G} (hG : sx_Go g) {P : Option Value → sv_V → Prop} {r : Int32} {Vr : sv_V} (hP : P (some (.int r)) Vr) {N : Nat} {D : Nat} {kb : Int32 → Int32 → sv_V → Option (Int32 × sv_V)} (hkb : ∀ (l1 : Int32) (l2 : Int32) (V : sv_V) (r : Int32) (Wr : sv_V), kb l1 l2 V = some (r, Wr) → ∀ P : Option Value → sv_V → Prop, P (some (.int r)) Wr → sv_N g qX6_build (30 + 2 * D) 0 [(0, .ref 30), (1, .int l1), (2, .int l2)] [] V P)    {V : sv_V} (h : B_X6_build_169 N kb   V = some (r, Vr)) : sv_N g qX6_build (30 + 2 * (D + 1)) 169 [(0, .ref 30)] [] V P := by
  unfold B_X6_build_169 at h
  refine sx_aload_n (pc := 169) dX6_build_169 sx_m0 ?_
  refine sv_getO (pc := 170) hG dX6_build_170 f_6_47 lay_30 rfl cr_30_2 ?_
  refine sv_getI (pc := 173) hG dX6_build_173 f_6_92 lay_69 rfl ?_
  refine sx_if_ne (pc := 176) (tgt := 183) dX6_build_176 (by decide) (fun c3 => ?_) (fun c3 => ?_)
  · have h := sx_neg c3 h
    refine sx_iconst (pc := 183) (v := 0) dX6_build_183 (by decide) ?_
    exact sv_zret (pc := 184) dX6_build_184 rfl rfl h hP
  · have h := sx_pos c3 h
    refine sx_iconst (pc := 179) (v := 1) dX6_build_179 (by decide) ?_
    refine sx_goto (pc := 180) (tgt := 184) dX6_build_180 (by decide) ?_
    exact sv_zret (pc := 184) dX6_build_184 rfl rfl h hP
def B_X6_build_85 (N : Nat) (kb : Int32 → Int32 → sv_V → Option (Int32 × sv_V))  (l1 : Int32) (l3 : Nat) (V : sv_V) : Option (Int32 × sv_V) := (F_X8_liesWithin N l3 (1000000 : Int32) V).bind (fun (x6, V4) => if lay l3 = .inl 8 then if x6 = 0 then ((F_X5_failOutside (13 : Int32) V4).bind (fun V29 => some ((0 : Int32), V29))) else ((cr 7 (7 : Int32).toNatClampNeg).bind (fun b9 => (sv_len 0 b9).bind (fun n11 => if sx_in l1 n11 = true then sx_let (V4.1 b9 l1.toNatClampNeg) (fun x14 => if x14 ≤ 0 then (B_X6_build_169 N kb   V4) else ((F_X7_copyFrom 45 31 V4).bind (fun V16 => (F_X8_beginProgram N l3 V16).bind (fun V18 => (cr 7 (6 : Int32).toNatClampNeg).bind (fun b20 => (sv_len 0 b20).bind (fun n22 => if sx_in l1 n22 = true then (F_X5_run N (V18.1 b20 l1.toNatClampNeg) x14 45 l3 V18).bind (fun V25 => (F_X8_endProgram N l3 V25).bind (fun V27 => B_X6_build_169 N kb   V27)) else none)))))) else none))) else none)
set_option maxRecDepth 20000 in
theorem tB_X6_build_85 {g : sx_G} (hG : sx_Go g) {P : Option Value → sv_V → Prop} {r : Int32} {Vr : sv_V} (hP : P (some (.int r)) Vr) {N : Nat} {D : Nat} {kb : Int32 → Int32 → sv_V → Option (Int32 × sv_V)} (hkb : ∀ (l1 : Int32) (l2 : Int32) (V : sv_V) (r : Int32) (Wr : sv_V), kb l1 l2 V = some (r, Wr) → ∀ P : Option Value → sv_V → Prop, P (some (.int r)) Wr → sv_N g qX6_build (30 + 2 * D) 0 [(0, .ref 30), (1, .int l1), (2, .int l2)] [] V P)   {l1 : Int32} {l3 : Nat} {V : sv_V} (h : B_X6_build_85 N kb  l1 l3 V = some (r, Vr)) : sv_N g qX6_build (30 + 2 * (D + 1)) 85 [(0, .ref 30), (1, .int l1), (3, .ref l3)] [] V P := by
  unfold B_X6_build_85 at h
  refine sx_aload_n (pc := 85) dX6_build_85 sx_m2 ?_
  refine sx_ldc (pc := 86) dX6_build_86 k_X6_152 ?_
  obtain ⟨⟨x6, V4⟩, g5, h⟩ := sx_bnd h
  obtain ⟨g7, h⟩ := sx_grd h
  refine sv_cV (pc := 88) (y := qX8_liesWithin) (o := (some (.int x6))) (as := [.int (1000000 : Int32)]) (V1 := V4) hG dX6_build_88 l_X6_125 y0X8_liesWithin yvX8_liesWithin rfl (Nat.le_of_ble_eq_true rfl) g7 kr_8 (by omega) (Nat.le_of_ble_eq_true rfl) rfl rfl rfl (t_X8_liesWithin hG ⟨rfl, rfl⟩ g5) ?_
  refine sx_if_ne (pc := 91) (tgt := 105) dX6_build_91 (by decide) (fun c8 => ?_) (fun c8 => ?_)
  · have h := sx_neg c8 h
    refine sx_aload_n (pc := 105) dX6_build_105 sx_m0 ?_
    refine sv_getO (pc := 106) hG dX6_build_106 f_6_34 lay_30 rfl cr_30_0 ?_
    refine sv_getA (pc := 109) hG dX6_build_109 f_6_111 lay_2 rfl cr_2_16 ?_
    refine sx_bipush (pc := 112) (v := 7) dX6_build_112 (by decide) ?_
    obtain ⟨b9, g10, h⟩ := sx_bnd h
    refine sv_aald (pc := 114) hG dX6_build_114 (by decide) lay_7 (by decide) g10 ?_
    refine sx_iload_n (pc := 115) dX6_build_115 sx_m1 ?_
    obtain ⟨n11, g12, h⟩ := sx_bnd h
    obtain ⟨g13, h⟩ := sx_grd h
    refine sv_iald (pc := 116) hG dX6_build_116 (sv_len_e g12) g13 ?_
    refine sv_tI (fun x14 hx14 => ?_)
    have h := sx_letE hx14 h
    refine sx_istore (pc := 117) (lo' := [(4, .int x14), (0, .ref 30), (1, .int l1), (3, .ref l3)]) dX6_build_117 (by decide) rfl ?_
    refine sx_iload (pc := 119) dX6_build_119 sx_m0 ?_
    refine sx_if_le (pc := 121) (tgt := 169) dX6_build_121 (by decide) (fun c15 => ?_) (fun c15 => ?_)
    · have h := sx_pos c15 h
      refine sx_wk (sx_s1 sx_m1 sx_s0) ?_
      exact tB_X6_build_169 hG hP hkb  h
    · have h := sx_neg c15 h
      refine sx_aload_n (pc := 124) dX6_build_124 sx_m1 ?_
      refine sv_getO (pc := 125) hG dX6_build_125 f_6_18 lay_30 rfl cr_30_4 ?_
      refine sx_aload_n (pc := 128) dX6_build_128 sx_m1 ?_
      refine sv_getO (pc := 129) hG dX6_build_129 f_6_12 lay_30 rfl cr_30_3 ?_
      obtain ⟨V16, g17, h⟩ := sx_bnd h
      refine sv_cV (pc := 132) (y := qX7_copyFrom) (o := none) (as := [.ref 31]) (V1 := V16) hG dX6_build_132 l_X6_153 y0X7_copyFrom yvX7_copyFrom rfl (Nat.le_of_ble_eq_true rfl) lay_45 kr_7 (by omega) (Nat.le_of_ble_eq_true rfl) rfl rfl rfl (t_X7_copyFrom hG ⟨rfl, rfl⟩ g17) ?_
      refine sx_aload_n (pc := 135) dX6_build_135 sx_m3 ?_
      obtain ⟨V18, g19, h⟩ := sx_bnd h
      refine sv_cV (pc := 136) (y := qX8_beginProgram) (o := none) (as := []) (V1 := V18) hG dX6_build_136 l_X6_157 y0X8_beginProgram yvX8_beginProgram rfl (Nat.le_of_ble_eq_true rfl) g7 kr_8 (by omega) (Nat.le_of_ble_eq_true rfl) rfl rfl rfl (t_X8_beginProgram hG ⟨rfl, rfl⟩ g19) ?_
      refine sx_aload_n (pc := 139) dX6_build_139 sx_m1 ?_
      refine sv_getO (pc := 140) hG dX6_build_140 f_6_47 lay_30 rfl cr_30_2 ?_
      refine sx_aload_n (pc := 143) dX6_build_143 sx_m1 ?_
      refine sv_getO (pc := 144) hG dX6_build_144 f_6_34 lay_30 rfl cr_30_0 ?_
      refine sv_getA (pc := 147) hG dX6_build_147 f_6_111 lay_2 rfl cr_2_16 ?_
      refine sx_bipush (pc := 150) (v := 6) dX6_build_150 (by decide) ?_
      obtain ⟨b20, g21, h⟩ := sx_bnd h
      refine sv_aald (pc := 152) hG dX6_build_152 (by decide) lay_7 (by decide) g21 ?_
      refine sx_iload_n (pc := 153) dX6_build_153 sx_m2 ?_
      obtain ⟨n22, g23, h⟩ := sx_bnd h
      obtain ⟨g24, h⟩ := sx_grd h
      refine sv_iald (pc := 154) hG dX6_build_154 (sv_len_e g23) g24 ?_
      refine sx_iload (pc := 155) dX6_build_155 sx_m0 ?_
      refine sx_aload_n (pc := 157) dX6_build_157 sx_m1 ?_
      refine sv_getO (pc := 158) hG dX6_build_158 f_6_18 lay_30 rfl cr_30_4 ?_
      refine sx_aload_n (pc := 161) dX6_build_161 sx_m3 ?_
      obtain ⟨V25, g26, h⟩ := sx_bnd h
      refine sv_cV (pc := 162) (y := qX5_run) (o := none) (as := [.int (V18.1 b20 l1.toNatClampNeg), .int x14, .ref 45, .ref l3]) (V1 := V25) hG dX6_build_162 l_X6_160 y0X5_run yvX5_run rfl (Nat.le_of_ble_eq_true rfl) lay_69 kr_5 (by omega) (Nat.le_of_ble_eq_true rfl) rfl rfl rfl (t_X5_run hG ⟨rfl, rfl⟩ g26) ?_
      refine sx_aload_n (pc := 165) dX6_build_165 sx_m3 ?_
      obtain ⟨V27, g28, h⟩ := sx_bnd h
      refine sv_cV (pc := 166) (y := qX8_endProgram) (o := none) (as := []) (V1 := V27) hG dX6_build_166 l_X6_164 y0X8_endProgram yvX8_endProgram rfl (Nat.le_of_ble_eq_true rfl) g7 kr_8 (by omega) (Nat.le_of_ble_eq_true rfl) rfl rfl rfl (t_X8_endProgram hG ⟨rfl, rfl⟩ g28) ?_
      refine sx_wk (sx_s1 sx_m1 sx_s0) ?_
      exact tB_X6_build_169 hG hP hkb  h
  · have h := sx_pos c8 h
    refine sx_aload_n (pc := 94) dX6_build_94 sx_m0 ?_
    refine sv_getO (pc := 95) hG dX6_build_95 f_6_47 lay_30 rfl cr_30_2 ?_
    refine sx_bipush (pc := 98) (v := 13) dX6_build_98 (by decide) ?_
    obtain ⟨V29, g30, h⟩ := sx_bnd h
    refine sv_cV (pc := 100) (y := qX5_failOutside) (o := none) (as := [.int (13 : Int32)]) (V1 := V29) hG dX6_build_100 l_X6_129 y0X5_failOutside yvX5_failOutside rfl (Nat.le_of_ble_eq_true rfl) lay_69 kr_5 (by omega) (Nat.le_of_ble_eq_true rfl) rfl rfl rfl (t_X5_failOutside hG ⟨rfl, rfl⟩ g30) ?_
    refine sx_iconst (pc := 103) (v := 0) dX6_build_103 (by decide) ?_
    exact sv_zret (pc := 104) dX6_build_104 rfl rfl h hP
def G_X6_build (N : Nat) (kb : Int32 → Int32 → sv_V → Option (Int32 × sv_V)) (l1 : Int32) (l2 : Int32) (V : sv_V) : Option (Int32 × sv_V) := if (5 : Int32) ≤ l2 then (B_X6_build_16 N kb   V) else ((F_X2_hasGlyph l1 V).bind (fun (x34, V32) => if x34 = 0 then (B_X6_build_16 N kb   V32) else (if sx_in l2 5 = true then (cr 59 l2.toNatClampNeg).bind (fun b37 => (F_X6_beginOutline l1 b37 V32).bind (fun V39 => (cr 7 (5 : Int32).toNatClampNeg).bind (fun b41 => (sv_len 0 b41).bind (fun n43 => if sx_in l1 n43 = true then if (V39.1 b41 l1.toNatClampNeg) ≤ 0 then ((cr 7 (1 : Int32).toNatClampNeg).bind (fun b47 => (sv_len 0 b47).bind (fun n49 => if sx_in l1 n49 = true then if (V39.1 b47 l1.toNatClampNeg) ≤ 0 then (B_X6_build_85 N kb  l1 b37 V39) else ((F_X6_takeOutline N l1 b37 V39).bind (fun V53 => B_X6_build_85 N kb  l1 b37 V53)) else none))) else ((F_X6_addParts N kb l1 l2 V39).bind (fun (x57, V55) => if x57 = 0 then (some ((0 : Int32), V55)) else (B_X6_build_85 N kb  l1 b37 V55))) else none)))) else none)))
set_option maxRecDepth 20000 in
theorem tG_X6_build {g : sx_G} (hG : sx_Go g) {P : Option Value → sv_V → Prop} {r : Int32} {Vr : sv_V} (hP : P (some (.int r)) Vr) {N : Nat} {D : Nat} {kb : Int32 → Int32 → sv_V → Option (Int32 × sv_V)} (hkb : ∀ (l1 : Int32) (l2 : Int32) (V : sv_V) (r : Int32) (Wr : sv_V), kb l1 l2 V = some (r, Wr) → ∀ P : Option Value → sv_V → Prop, P (some (.int r)) Wr → sv_N g qX6_build (30 + 2 * D) 0 [(0, .ref 30), (1, .int l1), (2, .int l2)] [] V P) {l1 : Int32} {l2 : Int32} {V : sv_V} (h : G_X6_build N kb l1 l2 V = some (r, Vr)) : sv_N g qX6_build (30 + 2 * (D + 1)) 0 [(0, .ref 30), (1, .int l1), (2, .int l2)] [] V P := by
  unfold G_X6_build at h
  refine sx_iload_n (pc := 0) dX6_build_0 sx_m2 ?_
  refine sx_iconst (pc := 1) (v := 5) dX6_build_1 (by decide) ?_
  refine sx_icmp_ge (pc := 2) (tgt := 16) dX6_build_2 (by decide) (fun c31 => ?_) (fun c31 => ?_)
  · have h := sx_pos c31 h
    refine sx_wk (sx_s1 sx_m0 sx_s0) ?_
    exact tB_X6_build_16 hG hP hkb  h
  · have h := sx_neg c31 h
    refine sx_aload_n (pc := 5) dX6_build_5 sx_m0 ?_
    refine sv_getO (pc := 6) hG dX6_build_6 f_6_34 lay_30 rfl cr_30_0 ?_
    refine sx_iload_n (pc := 9) dX6_build_9 sx_m1 ?_
    obtain ⟨⟨x34, V32⟩, g33, h⟩ := sx_bnd h
    refine sv_cV (pc := 10) (y := qX2_hasGlyph) (o := (some (.int x34))) (as := [.int l1]) (V1 := V32) hG dX6_build_10 l_X6_139 y0X2_hasGlyph yvX2_hasGlyph rfl (Nat.le_of_ble_eq_true rfl) lay_2 kr_2 (by omega) (Nat.le_of_ble_eq_true rfl) rfl rfl rfl (t_X2_hasGlyph hG ⟨rfl, rfl⟩ g33) ?_
    refine sx_if_ne (pc := 13) (tgt := 27) dX6_build_13 (by decide) (fun c35 => ?_) (fun c35 => ?_)
    · have h := sx_neg c35 h
      refine sx_aload_n (pc := 27) dX6_build_27 sx_m0 ?_
      refine sv_getA (pc := 28) hG dX6_build_28 f_6_23 lay_30 rfl cr_30_5 ?_
      refine sx_iload_n (pc := 31) dX6_build_31 sx_m2 ?_
      obtain ⟨g36, h⟩ := sx_grd h
      obtain ⟨b37, g38, h⟩ := sx_bnd h
      refine sv_aald (pc := 32) hG dX6_build_32 (by decide) lay_59 g36 g38 ?_
      refine sx_astore_n (pc := 33) (lo' := [(3, .ref b37), (0, .ref 30), (1, .int l1), (2, .int l2)]) dX6_build_33 (by decide) rfl ?_
      refine sx_aload_n (pc := 34) dX6_build_34 sx_m1 ?_
      refine sx_iload_n (pc := 35) dX6_build_35 sx_m2 ?_
      refine sx_aload_n (pc := 36) dX6_build_36 sx_m0 ?_
      obtain ⟨V39, g40, h⟩ := sx_bnd h
      refine sv_cV (pc := 37) (y := qX6_beginOutline) (o := none) (as := [.int l1, .ref b37]) (V1 := V39) hG dX6_build_37 l_X6_142 y0X6_beginOutline yvX6_beginOutline rfl (Nat.le_of_ble_eq_true rfl) lay_30 kr_6 (by omega) (Nat.le_of_ble_eq_true rfl) rfl rfl rfl (t_X6_beginOutline hG ⟨rfl, rfl⟩ g40) ?_
      refine sx_aload_n (pc := 40) dX6_build_40 sx_m1 ?_
      refine sv_getO (pc := 41) hG dX6_build_41 f_6_34 lay_30 rfl cr_30_0 ?_
      refine sv_getA (pc := 44) hG dX6_build_44 f_6_111 lay_2 rfl cr_2_16 ?_
      refine sx_iconst (pc := 47) (v := 5) dX6_build_47 (by decide) ?_
      obtain ⟨b41, g42, h⟩ := sx_bnd h
      refine sv_aald (pc := 48) hG dX6_build_48 (by decide) lay_7 (by decide) g42 ?_
      refine sx_iload_n (pc := 49) dX6_build_49 sx_m2 ?_
      obtain ⟨n43, g44, h⟩ := sx_bnd h
      obtain ⟨g45, h⟩ := sx_grd h
      refine sv_iald (pc := 50) hG dX6_build_50 (sv_len_e g44) g45 ?_
      refine sx_if_le (pc := 51) (tgt := 65) dX6_build_51 (by decide) (fun c46 => ?_) (fun c46 => ?_)
      · have h := sx_pos c46 h
        refine sx_aload_n (pc := 65) dX6_build_65 sx_m1 ?_
        refine sv_getO (pc := 66) hG dX6_build_66 f_6_34 lay_30 rfl cr_30_0 ?_
        refine sv_getA (pc := 69) hG dX6_build_69 f_6_111 lay_2 rfl cr_2_16 ?_
        refine sx_iconst (pc := 72) (v := 1) dX6_build_72 (by decide) ?_
        obtain ⟨b47, g48, h⟩ := sx_bnd h
        refine sv_aald (pc := 73) hG dX6_build_73 (by decide) lay_7 (by decide) g48 ?_
        refine sx_iload_n (pc := 74) dX6_build_74 sx_m2 ?_
        obtain ⟨n49, g50, h⟩ := sx_bnd h
        obtain ⟨g51, h⟩ := sx_grd h
        refine sv_iald (pc := 75) hG dX6_build_75 (sv_len_e g50) g51 ?_
        refine sx_if_le (pc := 76) (tgt := 85) dX6_build_76 (by decide) (fun c52 => ?_) (fun c52 => ?_)
        · have h := sx_pos c52 h
          refine sx_wk (sx_s1 sx_m1 (sx_s1 sx_m2 (sx_s1 sx_m0 sx_s0))) ?_
          exact tB_X6_build_85 hG hP hkb  h
        · have h := sx_neg c52 h
          refine sx_aload_n (pc := 79) dX6_build_79 sx_m1 ?_
          refine sx_iload_n (pc := 80) dX6_build_80 sx_m2 ?_
          refine sx_aload_n (pc := 81) dX6_build_81 sx_m0 ?_
          obtain ⟨V53, g54, h⟩ := sx_bnd h
          refine sv_cV (pc := 82) (y := qX6_takeOutline) (o := none) (as := [.int l1, .ref b37]) (V1 := V53) hG dX6_build_82 l_X6_149 y0X6_takeOutline yvX6_takeOutline rfl (Nat.le_of_ble_eq_true rfl) lay_30 kr_6 (by omega) (Nat.le_of_ble_eq_true rfl) rfl rfl rfl (t_X6_takeOutline hG ⟨rfl, rfl⟩ g54) ?_
          refine sx_wk (sx_s1 sx_m1 (sx_s1 sx_m2 (sx_s1 sx_m0 sx_s0))) ?_
          exact tB_X6_build_85 hG hP hkb  h
      · have h := sx_neg c46 h
        refine sx_aload_n (pc := 54) dX6_build_54 sx_m1 ?_
        refine sx_iload_n (pc := 55) dX6_build_55 sx_m2 ?_
        refine sx_iload_n (pc := 56) dX6_build_56 sx_m3 ?_
        obtain ⟨⟨x57, V55⟩, g56, h⟩ := sx_bnd h
        refine sv_cV (pc := 57) (y := qX6_addParts) (o := (some (.int x57))) (as := [.int l1, .int l2]) (V1 := V55) hG dX6_build_57 l_X6_146 y0X6_addParts yvX6_addParts rfl (Nat.le_of_ble_eq_true rfl) lay_30 kr_6 (by omega) (Nat.le_of_ble_eq_true rfl) rfl rfl rfl (t_X6_addParts hG ⟨rfl, rfl⟩ hkb g56) ?_
        refine sx_if_ne (pc := 60) (tgt := 85) dX6_build_60 (by decide) (fun c58 => ?_) (fun c58 => ?_)
        · have h := sx_neg c58 h
          refine sx_wk (sx_s1 sx_m1 (sx_s1 sx_m2 (sx_s1 sx_m0 sx_s0))) ?_
          exact tB_X6_build_85 hG hP hkb  h
        · have h := sx_pos c58 h
          refine sx_iconst (pc := 63) (v := 0) dX6_build_63 (by decide) ?_
          exact sv_zret (pc := 64) dX6_build_64 rfl rfl h hP
    · have h := sx_pos c35 h
      refine sx_wk (sx_s1 sx_m0 sx_s0) ?_
      exact tB_X6_build_16 hG hP hkb  h
def F_X6_build (N : Nat) (l1 : Int32) (l2 : Int32) (V : sv_V) : Option (Int32 × sv_V) := sx_lp3 (G_X6_build N ) 8 l1 l2 V
theorem tD_X6_build {g : sx_G} (hG : sx_Go g) {N : Nat} : ∀ (D : Nat) (l1 : Int32) (l2 : Int32) (V : sv_V) (r : Int32) (Vr : sv_V), sx_lp3 (G_X6_build N ) D l1 l2 V = some (r, Vr) → ∀ P : Option Value → sv_V → Prop, P (some (.int r)) Vr → sv_N g qX6_build (30 + 2 * D) 0 [(0, .ref 30), (1, .int l1), (2, .int l2)] [] V P := by
  intro D
  induction D with
  | zero => intro l1 l2 V r Vr h; cases h
  | succ D ih => intro l1 l2 V r Vr h P hP; exact tG_X6_build hG hP ih h
theorem t_X6_build {g : sx_G} (hG : sx_Go g) {P : Option Value → sv_V → Prop} {r : Int32} {Vr : sv_V} (hP : P (some (.int r)) Vr) {N : Nat} {l1 : Int32} {l2 : Int32} {V : sv_V} (h : F_X6_build N l1 l2 V = some (r, Vr)) : sv_N g qX6_build 46 0 [(0, .ref 30), (1, .int l1), (2, .int l2)] [] V P := tD_X6_build hG 8 l1 l2 V r Vr h P hP
def ncX11_size : Nat := 335155936297537871560684094907695220826808089968840494604027955885639251623079439283242
theorem kcX11_size : CK cX11_size ncX11_size 36 := ⟨by decide +kernel, by decide +kernel⟩
theorem dX11_size_0 : decode cX11_size 0 = .ok (.aload_n 0, 1) := dl_o42 kcX11_size (by decide +kernel)
theorem dX11_size_1 : decode cX11_size 1 = .ok (.getfield 16, 3) := dl_o180 kcX11_size (by decide +kernel)
theorem dX11_size_4 : decode cX11_size 4 = .ok (.getfield 67, 3) := dl_o180 kcX11_size (by decide +kernel)
theorem dX11_size_7 : decode cX11_size 7 = .ok (.ifCond .ne 6, 3) := dl_o154 kcX11_size 6 (by decide +kernel) (by decide +kernel)
theorem dX11_size_10 : decode cX11_size 10 = .ok (.bipush (-3), 2) := dl_o16 kcX11_size 253 (by decide +kernel) (by decide +kernel)
theorem dX11_size_12 : decode cX11_size 12 = .ok (.ireturn, 1) := dl_o172 kcX11_size (by decide +kernel)
theorem dX11_size_13 : decode cX11_size 13 = .ok (.iload_n 1, 1) := dl_o27 kcX11_size (by decide +kernel)
theorem dX11_size_14 : decode cX11_size 14 = .ok (.iconst 4, 1) := dl_o7 kcX11_size (by decide +kernel)
theorem dX11_size_15 : decode cX11_size 15 = .ok (.if_icmp .lt 9, 3) := dl_o161 kcX11_size 9 (by decide +kernel) (by decide +kernel)
theorem dX11_size_18 : decode cX11_size 18 = .ok (.iload_n 1, 1) := dl_o27 kcX11_size (by decide +kernel)
theorem dX11_size_19 : decode cX11_size 19 = .ok (.bipush 48, 2) := dl_o16 kcX11_size 48 (by decide +kernel) (by decide +kernel)
theorem dX11_size_21 : decode cX11_size 21 = .ok (.if_icmp .le 6, 3) := dl_o164 kcX11_size 6 (by decide +kernel) (by decide +kernel)
theorem dX11_size_24 : decode cX11_size 24 = .ok (.bipush (-2), 2) := dl_o16 kcX11_size 254 (by decide +kernel) (by decide +kernel)
theorem dX11_size_26 : decode cX11_size 26 = .ok (.ireturn, 1) := dl_o172 kcX11_size (by decide +kernel)
theorem dX11_size_27 : decode cX11_size 27 = .ok (.aload_n 0, 1) := dl_o42 kcX11_size (by decide +kernel)
theorem dX11_size_28 : decode cX11_size 28 = .ok (.getfield 37, 3) := dl_o180 kcX11_size (by decide +kernel)
theorem dX11_size_31 : decode cX11_size 31 = .ok (.iload_n 1, 1) := dl_o27 kcX11_size (by decide +kernel)
theorem dX11_size_32 : decode cX11_size 32 = .ok (.invokevirtual 134, 3) := dl_o182 kcX11_size (by decide +kernel)
theorem dX11_size_35 : decode cX11_size 35 = .ok (.ireturn, 1) := dl_o172 kcX11_size (by decide +kernel)
def F_X11_size (N : Nat) (l1 : Int32) (V : sv_V) : Option (Int32 × sv_V) := if (V.1 2 2) = 0 then (some ((-3 : Int32), V)) else (if l1 < (4 : Int32) then (some ((-2 : Int32), V)) else (if l1 ≤ (48 : Int32) then ((F_X6_setSize N l1 V).bind (fun (x6, V4) => some (x6, V4))) else (some ((-2 : Int32), V))))
set_option maxRecDepth 20000 in
theorem t_X11_size {g : sx_G} (hG : sx_Go g) {P : Option Value → sv_V → Prop} {r : Int32} {Vr : sv_V} (hP : P (some (.int r)) Vr) {N : Nat} {l1 : Int32} {V : sv_V} (h : F_X11_size N l1 V = some (r, Vr)) : sv_N g qX11_size 7 0 [(0, .ref 0), (1, .int l1)] [] V P := by
  unfold F_X11_size at h
  refine sx_aload_n (pc := 0) dX11_size_0 sx_m0 ?_
  refine sv_getO (pc := 1) hG dX11_size_1 f_11_16 lay_0 rfl cr_0_2 ?_
  refine sv_getZ (pc := 4) hG dX11_size_4 f_11_67 lay_2 rfl ?_
  refine sx_if_ne (pc := 7) (tgt := 13) dX11_size_7 (by decide) (fun c1 => ?_) (fun c1 => ?_)
  · have h := sx_neg c1 h
    refine sx_iload_n (pc := 13) dX11_size_13 sx_m1 ?_
    refine sx_iconst (pc := 14) (v := 4) dX11_size_14 (by decide) ?_
    refine sx_icmp_lt (pc := 15) (tgt := 24) dX11_size_15 (by decide) (fun c2 => ?_) (fun c2 => ?_)
    · have h := sx_pos c2 h
      refine sx_bipush (pc := 24) (v := (-2)) dX11_size_24 (by decide) ?_
      exact sv_iret (pc := 26) dX11_size_26 rfl h hP
    · have h := sx_neg c2 h
      refine sx_iload_n (pc := 18) dX11_size_18 sx_m1 ?_
      refine sx_bipush (pc := 19) (v := 48) dX11_size_19 (by decide) ?_
      refine sx_icmp_le (pc := 21) (tgt := 27) dX11_size_21 (by decide) (fun c3 => ?_) (fun c3 => ?_)
      · have h := sx_pos c3 h
        refine sx_aload_n (pc := 27) dX11_size_27 sx_m0 ?_
        refine sv_getO (pc := 28) hG dX11_size_28 f_11_37 lay_0 rfl cr_0_4 ?_
        refine sx_iload_n (pc := 31) dX11_size_31 sx_m1 ?_
        obtain ⟨⟨x6, V4⟩, g5, h⟩ := sx_bnd h
        refine sv_cV (pc := 32) (y := qX6_setSize) (o := (some (.int x6))) (as := [.int l1]) (V1 := V4) hG dX11_size_32 l_X11_134 y0X6_setSize yvX6_setSize rfl (Nat.le_of_ble_eq_true rfl) lay_30 kr_6 (by decide) (Nat.le_of_ble_eq_true rfl) rfl rfl rfl (t_X6_setSize hG ⟨rfl, rfl⟩ g5) ?_
        exact sv_iret (pc := 35) dX11_size_35 rfl h hP
      · have h := sx_neg c3 h
        refine sx_bipush (pc := 24) (v := (-2)) dX11_size_24 (by decide) ?_
        exact sv_iret (pc := 26) dX11_size_26 rfl h hP
  · have h := sx_pos c1 h
    refine sx_bipush (pc := 10) (v := (-3)) dX11_size_10 (by decide) ?_
    exact sv_iret (pc := 12) dX11_size_12 rfl h hP
def ncX12_perform : Nat := 23963973822127839578950946542709755450523432367085072815473883478562903727507028439791616631514861069391915757196450017646251444388464382116584427742043084293830282675682206369219095511447493247987786063261984016525716677816199243162917089898815672258017830330699847057805595
theorem kcX12_perform : CK cX12_perform ncX12_perform 114 := ⟨by decide +kernel, by decide +kernel⟩
theorem dX12_perform_0 : decode cX12_perform 0 = .ok (.iload_n 1, 1) := dl_o27 kcX12_perform (by decide +kernel)
theorem dX12_perform_1 : decode cX12_perform 1 = .ok (.sipush 192, 3) := dl_o17 kcX12_perform 192 (by decide +kernel) (by decide +kernel)
theorem dX12_perform_4 : decode cX12_perform 4 = .ok (.if_icmp .lt 26, 3) := dl_o161 kcX12_perform 26 (by decide +kernel) (by decide +kernel)
theorem dX12_perform_7 : decode cX12_perform 7 = .ok (.iload_n 1, 1) := dl_o27 kcX12_perform (by decide +kernel)
theorem dX12_perform_8 : decode cX12_perform 8 = .ok (.sipush 224, 3) := dl_o17 kcX12_perform 224 (by decide +kernel) (by decide +kernel)
theorem dX12_perform_11 : decode cX12_perform 11 = .ok (.if_icmp .ge 11, 3) := dl_o162 kcX12_perform 11 (by decide +kernel) (by decide +kernel)
theorem dX12_perform_14 : decode cX12_perform 14 = .ok (.aload_n 0, 1) := dl_o42 kcX12_perform (by decide +kernel)
theorem dX12_perform_15 : decode cX12_perform 15 = .ok (.iload_n 1, 1) := dl_o27 kcX12_perform (by decide +kernel)
theorem dX12_perform_16 : decode cX12_perform 16 = .ok (.invokevirtual 545, 3) := dl_o182 kcX12_perform (by decide +kernel)
theorem dX12_perform_19 : decode cX12_perform 19 = .ok (.goto 94, 3) := dl_o167 kcX12_perform 94 (by decide +kernel) (by decide +kernel)
theorem dX12_perform_22 : decode cX12_perform 22 = .ok (.aload_n 0, 1) := dl_o42 kcX12_perform (by decide +kernel)
theorem dX12_perform_23 : decode cX12_perform 23 = .ok (.iload_n 1, 1) := dl_o27 kcX12_perform (by decide +kernel)
theorem dX12_perform_24 : decode cX12_perform 24 = .ok (.invokevirtual 548, 3) := dl_o182 kcX12_perform (by decide +kernel)
theorem dX12_perform_27 : decode cX12_perform 27 = .ok (.goto 86, 3) := dl_o167 kcX12_perform 86 (by decide +kernel) (by decide +kernel)
theorem dX12_perform_30 : decode cX12_perform 30 = .ok (.iload_n 1, 1) := dl_o27 kcX12_perform (by decide +kernel)
theorem dX12_perform_31 : decode cX12_perform 31 = .ok (.sipush 176, 3) := dl_o17 kcX12_perform 176 (by decide +kernel) (by decide +kernel)
theorem dX12_perform_34 : decode cX12_perform 34 = .ok (.if_icmp .lt 46, 3) := dl_o161 kcX12_perform 46 (by decide +kernel) (by decide +kernel)
theorem dX12_perform_37 : decode cX12_perform 37 = .ok (.aload_n 0, 1) := dl_o42 kcX12_perform (by decide +kernel)
theorem dX12_perform_38 : decode cX12_perform 38 = .ok (.iload_n 1, 1) := dl_o27 kcX12_perform (by decide +kernel)
theorem dX12_perform_39 : decode cX12_perform 39 = .ok (.sipush 184, 3) := dl_o17 kcX12_perform 184 (by decide +kernel) (by decide +kernel)
theorem dX12_perform_42 : decode cX12_perform 42 = .ok (.if_icmp .lt 11, 3) := dl_o161 kcX12_perform 11 (by decide +kernel) (by decide +kernel)
theorem dX12_perform_45 : decode cX12_perform 45 = .ok (.iload_n 1, 1) := dl_o27 kcX12_perform (by decide +kernel)
theorem dX12_perform_46 : decode cX12_perform 46 = .ok (.sipush 183, 3) := dl_o17 kcX12_perform 183 (by decide +kernel) (by decide +kernel)
theorem dX12_perform_49 : decode cX12_perform 49 = .ok (.isub, 1) := dl_o100 kcX12_perform (by decide +kernel)
theorem dX12_perform_50 : decode cX12_perform 50 = .ok (.goto 8, 3) := dl_o167 kcX12_perform 8 (by decide +kernel) (by decide +kernel)
theorem dX12_perform_53 : decode cX12_perform 53 = .ok (.iload_n 1, 1) := dl_o27 kcX12_perform (by decide +kernel)
theorem dX12_perform_54 : decode cX12_perform 54 = .ok (.sipush 175, 3) := dl_o17 kcX12_perform 175 (by decide +kernel) (by decide +kernel)
theorem dX12_perform_57 : decode cX12_perform 57 = .ok (.isub, 1) := dl_o100 kcX12_perform (by decide +kernel)
theorem dX12_perform_58 : decode cX12_perform 58 = .ok (.iload_n 1, 1) := dl_o27 kcX12_perform (by decide +kernel)
theorem dX12_perform_59 : decode cX12_perform 59 = .ok (.sipush 184, 3) := dl_o17 kcX12_perform 184 (by decide +kernel) (by decide +kernel)
theorem dX12_perform_62 : decode cX12_perform 62 = .ok (.if_icmp .lt 7, 3) := dl_o161 kcX12_perform 7 (by decide +kernel) (by decide +kernel)
theorem dX12_perform_65 : decode cX12_perform 65 = .ok (.iconst 1, 1) := dl_o4 kcX12_perform (by decide +kernel)
theorem dX12_perform_66 : decode cX12_perform 66 = .ok (.goto 4, 3) := dl_o167 kcX12_perform 4 (by decide +kernel) (by decide +kernel)
theorem dX12_perform_69 : decode cX12_perform 69 = .ok (.iconst 0, 1) := dl_o3 kcX12_perform (by decide +kernel)
theorem dX12_perform_70 : decode cX12_perform 70 = .ok (.aload_n 0, 1) := dl_o42 kcX12_perform (by decide +kernel)
theorem dX12_perform_71 : decode cX12_perform 71 = .ok (.getfield 496, 3) := dl_o180 kcX12_perform (by decide +kernel)
theorem dX12_perform_74 : decode cX12_perform 74 = .ok (.invokevirtual 551, 3) := dl_o182 kcX12_perform (by decide +kernel)
theorem dX12_perform_77 : decode cX12_perform 77 = .ok (.goto 36, 3) := dl_o167 kcX12_perform 36 (by decide +kernel) (by decide +kernel)
theorem dX12_perform_80 : decode cX12_perform 80 = .ok (.iload_n 1, 1) := dl_o27 kcX12_perform (by decide +kernel)
theorem dX12_perform_81 : decode cX12_perform 81 = .ok (.bipush 48, 2) := dl_o16 kcX12_perform 48 (by decide +kernel) (by decide +kernel)
theorem dX12_perform_83 : decode cX12_perform 83 = .ok (.if_icmp .ge 11, 3) := dl_o162 kcX12_perform 11 (by decide +kernel) (by decide +kernel)
theorem dX12_perform_86 : decode cX12_perform 86 = .ok (.aload_n 0, 1) := dl_o42 kcX12_perform (by decide +kernel)
theorem dX12_perform_87 : decode cX12_perform 87 = .ok (.iload_n 1, 1) := dl_o27 kcX12_perform (by decide +kernel)
theorem dX12_perform_88 : decode cX12_perform 88 = .ok (.invokevirtual 555, 3) := dl_o182 kcX12_perform (by decide +kernel)
theorem dX12_perform_91 : decode cX12_perform 91 = .ok (.goto 22, 3) := dl_o167 kcX12_perform 22 (by decide +kernel) (by decide +kernel)
theorem dX12_perform_94 : decode cX12_perform 94 = .ok (.iload_n 1, 1) := dl_o27 kcX12_perform (by decide +kernel)
theorem dX12_perform_95 : decode cX12_perform 95 = .ok (.bipush 96, 2) := dl_o16 kcX12_perform 96 (by decide +kernel) (by decide +kernel)
theorem dX12_perform_97 : decode cX12_perform 97 = .ok (.if_icmp .ge 11, 3) := dl_o162 kcX12_perform 11 (by decide +kernel) (by decide +kernel)
theorem dX12_perform_100 : decode cX12_perform 100 = .ok (.aload_n 0, 1) := dl_o42 kcX12_perform (by decide +kernel)
theorem dX12_perform_101 : decode cX12_perform 101 = .ok (.iload_n 1, 1) := dl_o27 kcX12_perform (by decide +kernel)
theorem dX12_perform_102 : decode cX12_perform 102 = .ok (.invokevirtual 558, 3) := dl_o182 kcX12_perform (by decide +kernel)
theorem dX12_perform_105 : decode cX12_perform 105 = .ok (.goto 8, 3) := dl_o167 kcX12_perform 8 (by decide +kernel) (by decide +kernel)
theorem dX12_perform_108 : decode cX12_perform 108 = .ok (.aload_n 0, 1) := dl_o42 kcX12_perform (by decide +kernel)
theorem dX12_perform_109 : decode cX12_perform 109 = .ok (.iload_n 1, 1) := dl_o27 kcX12_perform (by decide +kernel)
theorem dX12_perform_110 : decode cX12_perform 110 = .ok (.invokevirtual 561, 3) := dl_o182 kcX12_perform (by decide +kernel)
theorem dX12_perform_113 : decode cX12_perform 113 = .ok (.return_, 1) := dl_o177 kcX12_perform (by decide +kernel)
def B_X12_perform_70 (N : Nat)  (s1 : Int32) (s2 : Int32) (V : sv_V) : Option sv_V := (F_X12_pushBytes N s1 s2 (V.1 146 93) V).bind (fun V1 => some V1)
set_option maxRecDepth 20000 in
theorem tB_X12_perform_70 {g : sx_G} (hG : sx_Go g) {P : Option Value → sv_V → Prop} {Vr : sv_V} (hP : P none Vr) {N : Nat}   {s1 : Int32} {s2 : Int32} {V : sv_V} (h : B_X12_perform_70 N  s1 s2 V = some Vr) : sv_N g qX12_perform 8 70 [(0, .ref 146)] [.int s2, .int s1, .ref 146] V P := by
  unfold B_X12_perform_70 at h
  refine sx_aload_n (pc := 70) dX12_perform_70 sx_m0 ?_
  refine sv_getI (pc := 71) hG dX12_perform_71 f_12_496 lay_146 rfl ?_
  obtain ⟨V1, g2, h⟩ := sx_bnd h
  refine sv_cV (pc := 74) (y := qX12_pushBytes) (o := none) (as := [.int s1, .int s2, .int (V.1 146 93)]) (V1 := V1) hG dX12_perform_74 l_X12_551 y0X12_pushBytes yvX12_pushBytes rfl (Nat.le_of_ble_eq_true rfl) lay_146 kr_12 (by decide) (Nat.le_of_ble_eq_true rfl) rfl rfl rfl (t_X12_pushBytes hG ⟨rfl, rfl⟩ g2) ?_
  refine sx_goto (pc := 77) (tgt := 113) dX12_perform_77 (by decide) ?_
  exact sv_vret (pc := 113) dX12_perform_113 rfl h hP
def B_X12_perform_58 (N : Nat)  (l1 : Int32) (s1 : Int32) (V : sv_V) : Option sv_V := if l1 < (184 : Int32) then (B_X12_perform_70 N  s1 (0 : Int32) V) else (B_X12_perform_70 N  s1 (1 : Int32) V)
set_option maxRecDepth 20000 in
theorem tB_X12_perform_58 {g : sx_G} (hG : sx_Go g) {P : Option Value → sv_V → Prop} {Vr : sv_V} (hP : P none Vr) {N : Nat}   {l1 : Int32} {s1 : Int32} {V : sv_V} (h : B_X12_perform_58 N  l1 s1 V = some Vr) : sv_N g qX12_perform 8 58 [(0, .ref 146), (1, .int l1)] [.int s1, .ref 146] V P := by
  unfold B_X12_perform_58 at h
  refine sx_iload_n (pc := 58) dX12_perform_58 sx_m1 ?_
  refine sx_sipush (pc := 59) (v := 184) dX12_perform_59 (by decide) ?_
  refine sx_icmp_lt (pc := 62) (tgt := 69) dX12_perform_62 (by decide) (fun c3 => ?_) (fun c3 => ?_)
  · have h := sx_pos c3 h
    refine sx_iconst (pc := 69) (v := 0) dX12_perform_69 (by decide) ?_
    refine sx_wk (sx_s1 sx_m0 sx_s0) ?_
    exact tB_X12_perform_70 hG hP  h
  · have h := sx_neg c3 h
    refine sx_iconst (pc := 65) (v := 1) dX12_perform_65 (by decide) ?_
    refine sx_goto (pc := 66) (tgt := 70) dX12_perform_66 (by decide) ?_
    refine sx_wk (sx_s1 sx_m0 sx_s0) ?_
    exact tB_X12_perform_70 hG hP  h
def F_X12_perform (N : Nat) (l1 : Int32) (V : sv_V) : Option sv_V := if l1 < (192 : Int32) then (if l1 < (176 : Int32) then (if (48 : Int32) ≤ l1 then (if (96 : Int32) ≤ l1 then ((F_X12_high N l1 V).bind (fun V8 => some V8)) else ((F_X12_middle N l1 V).bind (fun V10 => some V10))) else ((F_X12_low N l1 V).bind (fun V12 => some V12))) else (if l1 < (184 : Int32) then (B_X12_perform_58 N  l1 (l1 - (175 : Int32)) V) else (B_X12_perform_58 N  l1 (l1 - (183 : Int32)) V))) else (if (224 : Int32) ≤ l1 then ((F_X12_indirect l1 V).bind (fun V16 => some V16)) else ((F_X12_relative l1 V).bind (fun V18 => some V18)))
set_option maxRecDepth 20000 in
theorem t_X12_perform {g : sx_G} (hG : sx_Go g) {P : Option Value → sv_V → Prop} {Vr : sv_V} (hP : P none Vr) {N : Nat} {l1 : Int32} {V : sv_V} (h : F_X12_perform N l1 V = some Vr) : sv_N g qX12_perform 8 0 [(0, .ref 146), (1, .int l1)] [] V P := by
  unfold F_X12_perform at h
  refine sx_iload_n (pc := 0) dX12_perform_0 sx_m1 ?_
  refine sx_sipush (pc := 1) (v := 192) dX12_perform_1 (by decide) ?_
  refine sx_icmp_lt (pc := 4) (tgt := 30) dX12_perform_4 (by decide) (fun c4 => ?_) (fun c4 => ?_)
  · have h := sx_pos c4 h
    refine sx_iload_n (pc := 30) dX12_perform_30 sx_m1 ?_
    refine sx_sipush (pc := 31) (v := 176) dX12_perform_31 (by decide) ?_
    refine sx_icmp_lt (pc := 34) (tgt := 80) dX12_perform_34 (by decide) (fun c5 => ?_) (fun c5 => ?_)
    · have h := sx_pos c5 h
      refine sx_iload_n (pc := 80) dX12_perform_80 sx_m1 ?_
      refine sx_bipush (pc := 81) (v := 48) dX12_perform_81 (by decide) ?_
      refine sx_icmp_ge (pc := 83) (tgt := 94) dX12_perform_83 (by decide) (fun c6 => ?_) (fun c6 => ?_)
      · have h := sx_pos c6 h
        refine sx_iload_n (pc := 94) dX12_perform_94 sx_m1 ?_
        refine sx_bipush (pc := 95) (v := 96) dX12_perform_95 (by decide) ?_
        refine sx_icmp_ge (pc := 97) (tgt := 108) dX12_perform_97 (by decide) (fun c7 => ?_) (fun c7 => ?_)
        · have h := sx_pos c7 h
          refine sx_aload_n (pc := 108) dX12_perform_108 sx_m0 ?_
          refine sx_iload_n (pc := 109) dX12_perform_109 sx_m1 ?_
          obtain ⟨V8, g9, h⟩ := sx_bnd h
          refine sv_cV (pc := 110) (y := qX12_high) (o := none) (as := [.int l1]) (V1 := V8) hG dX12_perform_110 l_X12_561 y0X12_high yvX12_high rfl (Nat.le_of_ble_eq_true rfl) lay_146 kr_12 (by decide) (Nat.le_of_ble_eq_true rfl) rfl rfl rfl (t_X12_high hG ⟨rfl, rfl⟩ g9) ?_
          exact sv_vret (pc := 113) dX12_perform_113 rfl h hP
        · have h := sx_neg c7 h
          refine sx_aload_n (pc := 100) dX12_perform_100 sx_m0 ?_
          refine sx_iload_n (pc := 101) dX12_perform_101 sx_m1 ?_
          obtain ⟨V10, g11, h⟩ := sx_bnd h
          refine sv_cV (pc := 102) (y := qX12_middle) (o := none) (as := [.int l1]) (V1 := V10) hG dX12_perform_102 l_X12_558 y0X12_middle yvX12_middle rfl (Nat.le_of_ble_eq_true rfl) lay_146 kr_12 (by decide) (Nat.le_of_ble_eq_true rfl) rfl rfl rfl (t_X12_middle hG ⟨rfl, rfl⟩ g11) ?_
          refine sx_goto (pc := 105) (tgt := 113) dX12_perform_105 (by decide) ?_
          exact sv_vret (pc := 113) dX12_perform_113 rfl h hP
      · have h := sx_neg c6 h
        refine sx_aload_n (pc := 86) dX12_perform_86 sx_m0 ?_
        refine sx_iload_n (pc := 87) dX12_perform_87 sx_m1 ?_
        obtain ⟨V12, g13, h⟩ := sx_bnd h
        refine sv_cV (pc := 88) (y := qX12_low) (o := none) (as := [.int l1]) (V1 := V12) hG dX12_perform_88 l_X12_555 y0X12_low yvX12_low rfl (Nat.le_of_ble_eq_true rfl) lay_146 kr_12 (by decide) (Nat.le_of_ble_eq_true rfl) rfl rfl rfl (t_X12_low hG ⟨rfl, rfl⟩ g13) ?_
        refine sx_goto (pc := 91) (tgt := 113) dX12_perform_91 (by decide) ?_
        exact sv_vret (pc := 113) dX12_perform_113 rfl h hP
    · have h := sx_neg c5 h
      refine sx_aload_n (pc := 37) dX12_perform_37 sx_m0 ?_
      refine sx_iload_n (pc := 38) dX12_perform_38 sx_m1 ?_
      refine sx_sipush (pc := 39) (v := 184) dX12_perform_39 (by decide) ?_
      refine sx_icmp_lt (pc := 42) (tgt := 53) dX12_perform_42 (by decide) (fun c14 => ?_) (fun c14 => ?_)
      · have h := sx_pos c14 h
        refine sx_iload_n (pc := 53) dX12_perform_53 sx_m1 ?_
        refine sx_sipush (pc := 54) (v := 175) dX12_perform_54 (by decide) ?_
        refine sx_isub (pc := 57) dX12_perform_57 ?_
        refine sx_wk (sx_s1 sx_m0 (sx_s1 sx_m1 sx_s0)) ?_
        exact tB_X12_perform_58 hG hP  h
      · have h := sx_neg c14 h
        refine sx_iload_n (pc := 45) dX12_perform_45 sx_m1 ?_
        refine sx_sipush (pc := 46) (v := 183) dX12_perform_46 (by decide) ?_
        refine sx_isub (pc := 49) dX12_perform_49 ?_
        refine sx_goto (pc := 50) (tgt := 58) dX12_perform_50 (by decide) ?_
        refine sx_wk (sx_s1 sx_m0 (sx_s1 sx_m1 sx_s0)) ?_
        exact tB_X12_perform_58 hG hP  h
  · have h := sx_neg c4 h
    refine sx_iload_n (pc := 7) dX12_perform_7 sx_m1 ?_
    refine sx_sipush (pc := 8) (v := 224) dX12_perform_8 (by decide) ?_
    refine sx_icmp_ge (pc := 11) (tgt := 22) dX12_perform_11 (by decide) (fun c15 => ?_) (fun c15 => ?_)
    · have h := sx_pos c15 h
      refine sx_aload_n (pc := 22) dX12_perform_22 sx_m0 ?_
      refine sx_iload_n (pc := 23) dX12_perform_23 sx_m1 ?_
      obtain ⟨V16, g17, h⟩ := sx_bnd h
      refine sv_cV (pc := 24) (y := qX12_indirect) (o := none) (as := [.int l1]) (V1 := V16) hG dX12_perform_24 l_X12_548 y0X12_indirect yvX12_indirect rfl (Nat.le_of_ble_eq_true rfl) lay_146 kr_12 (by decide) (Nat.le_of_ble_eq_true rfl) rfl rfl rfl (t_X12_indirect hG ⟨rfl, rfl⟩ g17) ?_
      refine sx_goto (pc := 27) (tgt := 113) dX12_perform_27 (by decide) ?_
      exact sv_vret (pc := 113) dX12_perform_113 rfl h hP
    · have h := sx_neg c15 h
      refine sx_aload_n (pc := 14) dX12_perform_14 sx_m0 ?_
      refine sx_iload_n (pc := 15) dX12_perform_15 sx_m1 ?_
      obtain ⟨V18, g19, h⟩ := sx_bnd h
      refine sv_cV (pc := 16) (y := qX12_relative) (o := none) (as := [.int l1]) (V1 := V18) hG dX12_perform_16 l_X12_545 y0X12_relative yvX12_relative rfl (Nat.le_of_ble_eq_true rfl) lay_146 kr_12 (by decide) (Nat.le_of_ble_eq_true rfl) rfl rfl rfl (t_X12_relative hG ⟨rfl, rfl⟩ g19) ?_
      refine sx_goto (pc := 19) (tgt := 113) dX12_perform_19 (by decide) ?_
      exact sv_vret (pc := 113) dX12_perform_113 rfl h hP
def ncX6_makeGlyph : Nat := 12759170880610529060523730889454446547072383347550025258429016734352506002934963658834714391378047327267147322218793114933200454394589448161718545727644658288614396539306332438700164943480642921192984909625052620446782952704869447123797292831338729594184947463697972896895659519323463788185672898840728211915805435234485895930516437380621790250330359586639556596619774591786
theorem kcX6_makeGlyph : CK cX6_makeGlyph ncX6_makeGlyph 155 := ⟨by decide +kernel, by decide +kernel⟩
theorem dX6_makeGlyph_0 : decode cX6_makeGlyph 0 = .ok (.aload_n 0, 1) := dl_o42 kcX6_makeGlyph (by decide +kernel)
theorem dX6_makeGlyph_1 : decode cX6_makeGlyph 1 = .ok (.iconst 0, 1) := dl_o3 kcX6_makeGlyph (by decide +kernel)
theorem dX6_makeGlyph_2 : decode cX6_makeGlyph 2 = .ok (.putfield 58, 3) := dl_o181 kcX6_makeGlyph (by decide +kernel)
theorem dX6_makeGlyph_5 : decode cX6_makeGlyph 5 = .ok (.aload_n 0, 1) := dl_o42 kcX6_makeGlyph (by decide +kernel)
theorem dX6_makeGlyph_6 : decode cX6_makeGlyph 6 = .ok (.iconst 0, 1) := dl_o3 kcX6_makeGlyph (by decide +kernel)
theorem dX6_makeGlyph_7 : decode cX6_makeGlyph 7 = .ok (.putfield 101, 3) := dl_o181 kcX6_makeGlyph (by decide +kernel)
theorem dX6_makeGlyph_10 : decode cX6_makeGlyph 10 = .ok (.aload_n 0, 1) := dl_o42 kcX6_makeGlyph (by decide +kernel)
theorem dX6_makeGlyph_11 : decode cX6_makeGlyph 11 = .ok (.getfield 47, 3) := dl_o180 kcX6_makeGlyph (by decide +kernel)
theorem dX6_makeGlyph_14 : decode cX6_makeGlyph 14 = .ok (.invokevirtual 104, 3) := dl_o182 kcX6_makeGlyph (by decide +kernel)
theorem dX6_makeGlyph_17 : decode cX6_makeGlyph 17 = .ok (.aload_n 0, 1) := dl_o42 kcX6_makeGlyph (by decide +kernel)
theorem dX6_makeGlyph_18 : decode cX6_makeGlyph 18 = .ok (.getfield 23, 3) := dl_o180 kcX6_makeGlyph (by decide +kernel)
theorem dX6_makeGlyph_21 : decode cX6_makeGlyph 21 = .ok (.iconst 0, 1) := dl_o3 kcX6_makeGlyph (by decide +kernel)
theorem dX6_makeGlyph_22 : decode cX6_makeGlyph 22 = .ok (.aaload, 1) := dl_o50 kcX6_makeGlyph (by decide +kernel)
theorem dX6_makeGlyph_23 : decode cX6_makeGlyph 23 = .ok (.astore_n 2, 1) := dl_o77 kcX6_makeGlyph (by decide +kernel)
theorem dX6_makeGlyph_24 : decode cX6_makeGlyph 24 = .ok (.aload_n 0, 1) := dl_o42 kcX6_makeGlyph (by decide +kernel)
theorem dX6_makeGlyph_25 : decode cX6_makeGlyph 25 = .ok (.iload_n 1, 1) := dl_o27 kcX6_makeGlyph (by decide +kernel)
theorem dX6_makeGlyph_26 : decode cX6_makeGlyph 26 = .ok (.iconst 0, 1) := dl_o3 kcX6_makeGlyph (by decide +kernel)
theorem dX6_makeGlyph_27 : decode cX6_makeGlyph 27 = .ok (.invokevirtual 107, 3) := dl_o182 kcX6_makeGlyph (by decide +kernel)
theorem dX6_makeGlyph_30 : decode cX6_makeGlyph 30 = .ok (.ifCond .eq 76, 3) := dl_o153 kcX6_makeGlyph 76 (by decide +kernel) (by decide +kernel)
theorem dX6_makeGlyph_33 : decode cX6_makeGlyph 33 = .ok (.aload_n 0, 1) := dl_o42 kcX6_makeGlyph (by decide +kernel)
theorem dX6_makeGlyph_34 : decode cX6_makeGlyph 34 = .ok (.aload_n 0, 1) := dl_o42 kcX6_makeGlyph (by decide +kernel)
theorem dX6_makeGlyph_35 : decode cX6_makeGlyph 35 = .ok (.getfield 34, 3) := dl_o180 kcX6_makeGlyph (by decide +kernel)
theorem dX6_makeGlyph_38 : decode cX6_makeGlyph 38 = .ok (.getfield 111, 3) := dl_o180 kcX6_makeGlyph (by decide +kernel)
theorem dX6_makeGlyph_41 : decode cX6_makeGlyph 41 = .ok (.bipush 7, 2) := dl_o16 kcX6_makeGlyph 7 (by decide +kernel) (by decide +kernel)
theorem dX6_makeGlyph_43 : decode cX6_makeGlyph 43 = .ok (.aaload, 1) := dl_o50 kcX6_makeGlyph (by decide +kernel)
theorem dX6_makeGlyph_44 : decode cX6_makeGlyph 44 = .ok (.iload_n 1, 1) := dl_o27 kcX6_makeGlyph (by decide +kernel)
theorem dX6_makeGlyph_45 : decode cX6_makeGlyph 45 = .ok (.iaload, 1) := dl_o46 kcX6_makeGlyph (by decide +kernel)
theorem dX6_makeGlyph_46 : decode cX6_makeGlyph 46 = .ok (.ifCond .le 7, 3) := dl_o158 kcX6_makeGlyph 7 (by decide +kernel) (by decide +kernel)
theorem dX6_makeGlyph_49 : decode cX6_makeGlyph 49 = .ok (.iconst 1, 1) := dl_o4 kcX6_makeGlyph (by decide +kernel)
theorem dX6_makeGlyph_50 : decode cX6_makeGlyph 50 = .ok (.goto 4, 3) := dl_o167 kcX6_makeGlyph 4 (by decide +kernel) (by decide +kernel)
theorem dX6_makeGlyph_53 : decode cX6_makeGlyph 53 = .ok (.iconst 0, 1) := dl_o3 kcX6_makeGlyph (by decide +kernel)
theorem dX6_makeGlyph_54 : decode cX6_makeGlyph 54 = .ok (.putfield 65, 3) := dl_o181 kcX6_makeGlyph (by decide +kernel)
theorem dX6_makeGlyph_57 : decode cX6_makeGlyph 57 = .ok (.aload_n 0, 1) := dl_o42 kcX6_makeGlyph (by decide +kernel)
theorem dX6_makeGlyph_58 : decode cX6_makeGlyph 58 = .ok (.aload_n 2, 1) := dl_o44 kcX6_makeGlyph (by decide +kernel)
theorem dX6_makeGlyph_59 : decode cX6_makeGlyph 59 = .ok (.getfield 115, 3) := dl_o180 kcX6_makeGlyph (by decide +kernel)
theorem dX6_makeGlyph_62 : decode cX6_makeGlyph 62 = .ok (.iconst 1, 1) := dl_o4 kcX6_makeGlyph (by decide +kernel)
theorem dX6_makeGlyph_63 : decode cX6_makeGlyph 63 = .ok (.iaload, 1) := dl_o46 kcX6_makeGlyph (by decide +kernel)
theorem dX6_makeGlyph_64 : decode cX6_makeGlyph 64 = .ok (.aload_n 2, 1) := dl_o44 kcX6_makeGlyph (by decide +kernel)
theorem dX6_makeGlyph_65 : decode cX6_makeGlyph 65 = .ok (.getfield 115, 3) := dl_o180 kcX6_makeGlyph (by decide +kernel)
theorem dX6_makeGlyph_68 : decode cX6_makeGlyph 68 = .ok (.iconst 0, 1) := dl_o3 kcX6_makeGlyph (by decide +kernel)
theorem dX6_makeGlyph_69 : decode cX6_makeGlyph 69 = .ok (.iaload, 1) := dl_o46 kcX6_makeGlyph (by decide +kernel)
theorem dX6_makeGlyph_70 : decode cX6_makeGlyph 70 = .ok (.isub, 1) := dl_o100 kcX6_makeGlyph (by decide +kernel)
theorem dX6_makeGlyph_71 : decode cX6_makeGlyph 71 = .ok (.putfield 118, 3) := dl_o181 kcX6_makeGlyph (by decide +kernel)
theorem dX6_makeGlyph_74 : decode cX6_makeGlyph 74 = .ok (.aload_n 2, 1) := dl_o44 kcX6_makeGlyph (by decide +kernel)
theorem dX6_makeGlyph_75 : decode cX6_makeGlyph 75 = .ok (.iconst 0, 1) := dl_o3 kcX6_makeGlyph (by decide +kernel)
theorem dX6_makeGlyph_76 : decode cX6_makeGlyph 76 = .ok (.aload_n 2, 1) := dl_o44 kcX6_makeGlyph (by decide +kernel)
theorem dX6_makeGlyph_77 : decode cX6_makeGlyph 77 = .ok (.getfield 115, 3) := dl_o180 kcX6_makeGlyph (by decide +kernel)
theorem dX6_makeGlyph_80 : decode cX6_makeGlyph 80 = .ok (.iconst 0, 1) := dl_o3 kcX6_makeGlyph (by decide +kernel)
theorem dX6_makeGlyph_81 : decode cX6_makeGlyph 81 = .ok (.iaload, 1) := dl_o46 kcX6_makeGlyph (by decide +kernel)
theorem dX6_makeGlyph_82 : decode cX6_makeGlyph 82 = .ok (.ineg, 1) := dl_o116 kcX6_makeGlyph (by decide +kernel)
theorem dX6_makeGlyph_83 : decode cX6_makeGlyph 83 = .ok (.iconst 0, 1) := dl_o3 kcX6_makeGlyph (by decide +kernel)
theorem dX6_makeGlyph_84 : decode cX6_makeGlyph 84 = .ok (.invokevirtual 121, 3) := dl_o182 kcX6_makeGlyph (by decide +kernel)
theorem dX6_makeGlyph_87 : decode cX6_makeGlyph 87 = .ok (.aload_n 2, 1) := dl_o44 kcX6_makeGlyph (by decide +kernel)
theorem dX6_makeGlyph_88 : decode cX6_makeGlyph 88 = .ok (.sipush 4096, 3) := dl_o17 kcX6_makeGlyph 4096 (by decide +kernel) (by decide +kernel)
theorem dX6_makeGlyph_91 : decode cX6_makeGlyph 91 = .ok (.invokevirtual 125, 3) := dl_o182 kcX6_makeGlyph (by decide +kernel)
theorem dX6_makeGlyph_94 : decode cX6_makeGlyph 94 = .ok (.ifCond .ne 12, 3) := dl_o154 kcX6_makeGlyph 12 (by decide +kernel) (by decide +kernel)
theorem dX6_makeGlyph_97 : decode cX6_makeGlyph 97 = .ok (.aload_n 0, 1) := dl_o42 kcX6_makeGlyph (by decide +kernel)
theorem dX6_makeGlyph_98 : decode cX6_makeGlyph 98 = .ok (.getfield 47, 3) := dl_o180 kcX6_makeGlyph (by decide +kernel)
theorem dX6_makeGlyph_101 : decode cX6_makeGlyph 101 = .ok (.bipush 13, 2) := dl_o16 kcX6_makeGlyph 13 (by decide +kernel) (by decide +kernel)
theorem dX6_makeGlyph_103 : decode cX6_makeGlyph 103 = .ok (.invokevirtual 129, 3) := dl_o182 kcX6_makeGlyph (by decide +kernel)
theorem dX6_makeGlyph_106 : decode cX6_makeGlyph 106 = .ok (.aload_n 0, 1) := dl_o42 kcX6_makeGlyph (by decide +kernel)
theorem dX6_makeGlyph_107 : decode cX6_makeGlyph 107 = .ok (.getfield 47, 3) := dl_o180 kcX6_makeGlyph (by decide +kernel)
theorem dX6_makeGlyph_110 : decode cX6_makeGlyph 110 = .ok (.getfield 92, 3) := dl_o180 kcX6_makeGlyph (by decide +kernel)
theorem dX6_makeGlyph_113 : decode cX6_makeGlyph 113 = .ok (.ifCond .eq 24, 3) := dl_o153 kcX6_makeGlyph 24 (by decide +kernel) (by decide +kernel)
theorem dX6_makeGlyph_116 : decode cX6_makeGlyph 116 = .ok (.aload_n 0, 1) := dl_o42 kcX6_makeGlyph (by decide +kernel)
theorem dX6_makeGlyph_117 : decode cX6_makeGlyph 117 = .ok (.dup, 1) := dl_o89 kcX6_makeGlyph (by decide +kernel)
theorem dX6_makeGlyph_118 : decode cX6_makeGlyph 118 = .ok (.getfield 95, 3) := dl_o180 kcX6_makeGlyph (by decide +kernel)
theorem dX6_makeGlyph_121 : decode cX6_makeGlyph 121 = .ok (.iconst 1, 1) := dl_o4 kcX6_makeGlyph (by decide +kernel)
theorem dX6_makeGlyph_122 : decode cX6_makeGlyph 122 = .ok (.iadd, 1) := dl_o96 kcX6_makeGlyph (by decide +kernel)
theorem dX6_makeGlyph_123 : decode cX6_makeGlyph 123 = .ok (.putfield 95, 3) := dl_o181 kcX6_makeGlyph (by decide +kernel)
theorem dX6_makeGlyph_126 : decode cX6_makeGlyph 126 = .ok (.bipush (-100), 2) := dl_o16 kcX6_makeGlyph 156 (by decide +kernel) (by decide +kernel)
theorem dX6_makeGlyph_128 : decode cX6_makeGlyph 128 = .ok (.aload_n 0, 1) := dl_o42 kcX6_makeGlyph (by decide +kernel)
theorem dX6_makeGlyph_129 : decode cX6_makeGlyph 129 = .ok (.getfield 47, 3) := dl_o180 kcX6_makeGlyph (by decide +kernel)
theorem dX6_makeGlyph_132 : decode cX6_makeGlyph 132 = .ok (.getfield 92, 3) := dl_o180 kcX6_makeGlyph (by decide +kernel)
theorem dX6_makeGlyph_135 : decode cX6_makeGlyph 135 = .ok (.isub, 1) := dl_o100 kcX6_makeGlyph (by decide +kernel)
theorem dX6_makeGlyph_136 : decode cX6_makeGlyph 136 = .ok (.ireturn, 1) := dl_o172 kcX6_makeGlyph (by decide +kernel)
theorem dX6_makeGlyph_137 : decode cX6_makeGlyph 137 = .ok (.aload_n 0, 1) := dl_o42 kcX6_makeGlyph (by decide +kernel)
theorem dX6_makeGlyph_138 : decode cX6_makeGlyph 138 = .ok (.iconst 1, 1) := dl_o4 kcX6_makeGlyph (by decide +kernel)
theorem dX6_makeGlyph_139 : decode cX6_makeGlyph 139 = .ok (.putfield 58, 3) := dl_o181 kcX6_makeGlyph (by decide +kernel)
theorem dX6_makeGlyph_142 : decode cX6_makeGlyph 142 = .ok (.aload_n 0, 1) := dl_o42 kcX6_makeGlyph (by decide +kernel)
theorem dX6_makeGlyph_143 : decode cX6_makeGlyph 143 = .ok (.getfield 30, 3) := dl_o180 kcX6_makeGlyph (by decide +kernel)
theorem dX6_makeGlyph_146 : decode cX6_makeGlyph 146 = .ok (.aload_n 2, 1) := dl_o44 kcX6_makeGlyph (by decide +kernel)
theorem dX6_makeGlyph_147 : decode cX6_makeGlyph 147 = .ok (.invokevirtual 132, 3) := dl_o182 kcX6_makeGlyph (by decide +kernel)
theorem dX6_makeGlyph_150 : decode cX6_makeGlyph 150 = .ok (.aload_n 2, 1) := dl_o44 kcX6_makeGlyph (by decide +kernel)
theorem dX6_makeGlyph_151 : decode cX6_makeGlyph 151 = .ok (.getfield 136, 3) := dl_o180 kcX6_makeGlyph (by decide +kernel)
theorem dX6_makeGlyph_154 : decode cX6_makeGlyph 154 = .ok (.ireturn, 1) := dl_o172 kcX6_makeGlyph (by decide +kernel)
def B_X6_makeGlyph_106 (N : Nat)  (l2 : Nat) (V : sv_V) : Option (Int32 × sv_V) := if (V.1 69 14) = 0 then (sx_let (sv_I V 30 8 (1 : Int32)) (fun V2 => (F_X10_trace N l2 V2).bind (fun V3 => if lay l2 = .inl 8 then some (V3.1 l2 9, V3) else none))) else (sx_let (sv_I V 30 11 ((V.1 30 11) + (1 : Int32))) (fun V6 => some ((-100 : Int32) - (V6.1 69 14), V6)))
set_option maxRecDepth 20000 in
theorem tB_X6_makeGlyph_106 {g : sx_G} (hG : sx_Go g) {P : Option Value → sv_V → Prop} {r : Int32} {Vr : sv_V} (hP : P (some (.int r)) Vr) {N : Nat}   {l2 : Nat} {V : sv_V} (h : B_X6_makeGlyph_106 N  l2 V = some (r, Vr)) : sv_N g qX6_makeGlyph 47 106 [(0, .ref 30), (2, .ref l2)] [] V P := by
  unfold B_X6_makeGlyph_106 at h
  refine sx_aload_n (pc := 106) dX6_makeGlyph_106 sx_m0 ?_
  refine sv_getO (pc := 107) hG dX6_makeGlyph_107 f_6_47 lay_30 rfl cr_30_2 ?_
  refine sv_getI (pc := 110) hG dX6_makeGlyph_110 f_6_92 lay_69 rfl ?_
  refine sx_if_eq (pc := 113) (tgt := 137) dX6_makeGlyph_113 (by decide) (fun c1 => ?_) (fun c1 => ?_)
  · have h := sx_pos c1 h
    refine sx_aload_n (pc := 137) dX6_makeGlyph_137 sx_m0 ?_
    refine sx_iconst (pc := 138) (v := 1) dX6_makeGlyph_138 (by decide) ?_
    obtain ⟨V2, hV2⟩ : ∃ z : sv_V, z = sv_I V 30 8 (1 : Int32) := ⟨_, rfl⟩
    have h := sx_letE hV2 h
    refine sv_putZ (pc := 139) hG dX6_makeGlyph_139 f_6_58 lay_30 rfl rfl hV2 ?_
    refine sx_aload_n (pc := 142) dX6_makeGlyph_142 sx_m0 ?_
    refine sv_getO (pc := 143) hG dX6_makeGlyph_143 f_6_30 lay_30 rfl cr_30_6 ?_
    refine sx_aload_n (pc := 146) dX6_makeGlyph_146 sx_m1 ?_
    obtain ⟨V3, g4, h⟩ := sx_bnd h
    refine sv_cV (pc := 147) (y := qX10_trace) (o := none) (as := [.ref l2]) (V1 := V3) hG dX6_makeGlyph_147 l_X6_132 y0X10_trace yvX10_trace rfl (Nat.le_of_ble_eq_true rfl) lay_60 kr_10 (by decide) (Nat.le_of_ble_eq_true rfl) rfl rfl rfl (t_X10_trace hG ⟨rfl, rfl⟩ g4) ?_
    refine sx_aload_n (pc := 150) dX6_makeGlyph_150 sx_m1 ?_
    obtain ⟨g5, h⟩ := sx_grd h
    refine sv_getI (pc := 151) hG dX6_makeGlyph_151 f_6_136 g5 rfl ?_
    exact sv_iret (pc := 154) dX6_makeGlyph_154 rfl h hP
  · have h := sx_neg c1 h
    refine sx_aload_n (pc := 116) dX6_makeGlyph_116 sx_m0 ?_
    refine sx_dup (pc := 117) dX6_makeGlyph_117 rfl ?_
    refine sv_getI (pc := 118) hG dX6_makeGlyph_118 f_6_95 lay_30 rfl ?_
    refine sx_iconst (pc := 121) (v := 1) dX6_makeGlyph_121 (by decide) ?_
    refine sx_iadd (pc := 122) dX6_makeGlyph_122 ?_
    obtain ⟨V6, hV6⟩ : ∃ z : sv_V, z = sv_I V 30 11 ((V.1 30 11) + (1 : Int32)) := ⟨_, rfl⟩
    have h := sx_letE hV6 h
    refine sv_putI (pc := 123) hG dX6_makeGlyph_123 f_6_95 lay_30 rfl hV6 ?_
    refine sx_bipush (pc := 126) (v := (-100)) dX6_makeGlyph_126 (by decide) ?_
    refine sx_aload_n (pc := 128) dX6_makeGlyph_128 sx_m0 ?_
    refine sv_getO (pc := 129) hG dX6_makeGlyph_129 f_6_47 lay_30 rfl cr_30_2 ?_
    refine sv_getI (pc := 132) hG dX6_makeGlyph_132 f_6_92 lay_69 rfl ?_
    refine sx_isub (pc := 135) dX6_makeGlyph_135 ?_
    exact sv_iret (pc := 136) dX6_makeGlyph_136 rfl h hP
def B_X6_makeGlyph_54 (N : Nat)  (l2 : Nat) (s1 : Int32) (V : sv_V) : Option (Int32 × sv_V) := if sv_bl s1 = true then sx_let (sv_I V 30 9 s1) (fun V8 => if lay l2 = .inl 8 then (cr l2 7).bind (fun b10 => (sv_len 0 b10).bind (fun n12 => if sx_in (1 : Int32) n12 = true then if sx_in (0 : Int32) n12 = true then sx_let (sv_I V8 30 10 ((V8.1 b10 (1 : Int32).toNatClampNeg) - (V8.1 b10 (0 : Int32).toNatClampNeg))) (fun V16 => if sx_in (0 : Int32) n12 = true then (F_X8_shift N l2 (0 : Int32) (-(V16.1 b10 (0 : Int32).toNatClampNeg)) (0 : Int32) V16).bind (fun V18 => (F_X8_liesWithin N l2 (4096 : Int32) V18).bind (fun (x22, V20) => if x22 = 0 then ((F_X5_failOutside (13 : Int32) V20).bind (fun V24 => B_X6_makeGlyph_106 N  l2 V24)) else (B_X6_makeGlyph_106 N  l2 V20))) else none) else none else none)) else none) else none
set_option maxRecDepth 20000 in
theorem tB_X6_makeGlyph_54 {g : sx_G} (hG : sx_Go g) {P : Option Value → sv_V → Prop} {r : Int32} {Vr : sv_V} (hP : P (some (.int r)) Vr) {N : Nat}   {l2 : Nat} {s1 : Int32} {V : sv_V} (h : B_X6_makeGlyph_54 N  l2 s1 V = some (r, Vr)) : sv_N g qX6_makeGlyph 47 54 [(0, .ref 30), (2, .ref l2)] [.int s1, .ref 30] V P := by
  unfold B_X6_makeGlyph_54 at h
  obtain ⟨g7, h⟩ := sx_grd h
  obtain ⟨V8, hV8⟩ : ∃ z : sv_V, z = sv_I V 30 9 s1 := ⟨_, rfl⟩
  have h := sx_letE hV8 h
  refine sv_putZ (pc := 54) hG dX6_makeGlyph_54 f_6_65 lay_30 rfl g7 hV8 ?_
  refine sx_aload_n (pc := 57) dX6_makeGlyph_57 sx_m0 ?_
  refine sx_aload_n (pc := 58) dX6_makeGlyph_58 sx_m1 ?_
  obtain ⟨g9, h⟩ := sx_grd h
  obtain ⟨b10, g11, h⟩ := sx_bnd h
  refine sv_getA (pc := 59) hG dX6_makeGlyph_59 f_6_115 g9 rfl g11 ?_
  refine sx_iconst (pc := 62) (v := 1) dX6_makeGlyph_62 (by decide) ?_
  obtain ⟨n12, g13, h⟩ := sx_bnd h
  obtain ⟨g14, h⟩ := sx_grd h
  refine sv_iald (pc := 63) hG dX6_makeGlyph_63 (sv_len_e g13) g14 ?_
  refine sx_aload_n (pc := 64) dX6_makeGlyph_64 sx_m1 ?_
  refine sv_getA (pc := 65) hG dX6_makeGlyph_65 f_6_115 g9 rfl g11 ?_
  refine sx_iconst (pc := 68) (v := 0) dX6_makeGlyph_68 (by decide) ?_
  obtain ⟨g15, h⟩ := sx_grd h
  refine sv_iald (pc := 69) hG dX6_makeGlyph_69 (sv_len_e g13) g15 ?_
  refine sx_isub (pc := 70) dX6_makeGlyph_70 ?_
  obtain ⟨V16, hV16⟩ : ∃ z : sv_V, z = sv_I V8 30 10 ((V8.1 b10 (1 : Int32).toNatClampNeg) - (V8.1 b10 (0 : Int32).toNatClampNeg)) := ⟨_, rfl⟩
  have h := sx_letE hV16 h
  refine sv_putI (pc := 71) hG dX6_makeGlyph_71 f_6_118 lay_30 rfl hV16 ?_
  refine sx_aload_n (pc := 74) dX6_makeGlyph_74 sx_m1 ?_
  refine sx_iconst (pc := 75) (v := 0) dX6_makeGlyph_75 (by decide) ?_
  refine sx_aload_n (pc := 76) dX6_makeGlyph_76 sx_m1 ?_
  refine sv_getA (pc := 77) hG dX6_makeGlyph_77 f_6_115 g9 rfl g11 ?_
  refine sx_iconst (pc := 80) (v := 0) dX6_makeGlyph_80 (by decide) ?_
  obtain ⟨g17, h⟩ := sx_grd h
  refine sv_iald (pc := 81) hG dX6_makeGlyph_81 (sv_len_e g13) g17 ?_
  refine sx_ineg (pc := 82) dX6_makeGlyph_82 ?_
  refine sx_iconst (pc := 83) (v := 0) dX6_makeGlyph_83 (by decide) ?_
  obtain ⟨V18, g19, h⟩ := sx_bnd h
  refine sv_cV (pc := 84) (y := qX8_shift) (o := none) (as := [.int (0 : Int32), .int (-(V16.1 b10 (0 : Int32).toNatClampNeg)), .int (0 : Int32)]) (V1 := V18) hG dX6_makeGlyph_84 l_X6_121 y0X8_shift yvX8_shift rfl (Nat.le_of_ble_eq_true rfl) g9 kr_8 (by decide) (Nat.le_of_ble_eq_true rfl) rfl rfl rfl (t_X8_shift hG ⟨rfl, rfl⟩ g19) ?_
  refine sx_aload_n (pc := 87) dX6_makeGlyph_87 sx_m1 ?_
  refine sx_sipush (pc := 88) (v := 4096) dX6_makeGlyph_88 (by decide) ?_
  obtain ⟨⟨x22, V20⟩, g21, h⟩ := sx_bnd h
  refine sv_cV (pc := 91) (y := qX8_liesWithin) (o := (some (.int x22))) (as := [.int (4096 : Int32)]) (V1 := V20) hG dX6_makeGlyph_91 l_X6_125 y0X8_liesWithin yvX8_liesWithin rfl (Nat.le_of_ble_eq_true rfl) g9 kr_8 (by decide) (Nat.le_of_ble_eq_true rfl) rfl rfl rfl (t_X8_liesWithin hG ⟨rfl, rfl⟩ g21) ?_
  refine sx_if_ne (pc := 94) (tgt := 106) dX6_makeGlyph_94 (by decide) (fun c23 => ?_) (fun c23 => ?_)
  · have h := sx_neg c23 h
    refine sx_wk (sx_s1 sx_m0 (sx_s1 sx_m1 sx_s0)) ?_
    exact tB_X6_makeGlyph_106 hG hP  h
  · have h := sx_pos c23 h
    refine sx_aload_n (pc := 97) dX6_makeGlyph_97 sx_m0 ?_
    refine sv_getO (pc := 98) hG dX6_makeGlyph_98 f_6_47 lay_30 rfl cr_30_2 ?_
    refine sx_bipush (pc := 101) (v := 13) dX6_makeGlyph_101 (by decide) ?_
    obtain ⟨V24, g25, h⟩ := sx_bnd h
    refine sv_cV (pc := 103) (y := qX5_failOutside) (o := none) (as := [.int (13 : Int32)]) (V1 := V24) hG dX6_makeGlyph_103 l_X6_129 y0X5_failOutside yvX5_failOutside rfl (Nat.le_of_ble_eq_true rfl) lay_69 kr_5 (by decide) (Nat.le_of_ble_eq_true rfl) rfl rfl rfl (t_X5_failOutside hG ⟨rfl, rfl⟩ g25) ?_
    refine sx_wk (sx_s1 sx_m0 (sx_s1 sx_m1 sx_s0)) ?_
    exact tB_X6_makeGlyph_106 hG hP  h
def F_X6_makeGlyph (N : Nat) (l1 : Int32) (V : sv_V) : Option (Int32 × sv_V) := sx_let (sv_I V 30 8 (0 : Int32)) (fun V26 => sx_let (sv_I V26 30 12 (0 : Int32)) (fun V27 => (F_X5_beginCount  V27).bind (fun V28 => (cr 59 (0 : Int32).toNatClampNeg).bind (fun b30 => (F_X6_build N l1 (0 : Int32) V28).bind (fun (x34, V32) => if x34 = 0 then (B_X6_makeGlyph_106 N  b30 V32) else ((cr 7 (7 : Int32).toNatClampNeg).bind (fun b36 => (sv_len 0 b36).bind (fun n38 => if sx_in l1 n38 = true then if (V32.1 b36 l1.toNatClampNeg) ≤ 0 then (B_X6_makeGlyph_54 N  b30 (0 : Int32) V32) else (B_X6_makeGlyph_54 N  b30 (1 : Int32) V32) else none))))))))
set_option maxRecDepth 20000 in
theorem t_X6_makeGlyph {g : sx_G} (hG : sx_Go g) {P : Option Value → sv_V → Prop} {r : Int32} {Vr : sv_V} (hP : P (some (.int r)) Vr) {N : Nat} {l1 : Int32} {V : sv_V} (h : F_X6_makeGlyph N l1 V = some (r, Vr)) : sv_N g qX6_makeGlyph 47 0 [(0, .ref 30), (1, .int l1)] [] V P := by
  unfold F_X6_makeGlyph at h
  refine sx_aload_n (pc := 0) dX6_makeGlyph_0 sx_m0 ?_
  refine sx_iconst (pc := 1) (v := 0) dX6_makeGlyph_1 (by decide) ?_
  obtain ⟨V26, hV26⟩ : ∃ z : sv_V, z = sv_I V 30 8 (0 : Int32) := ⟨_, rfl⟩
  have h := sx_letE hV26 h
  refine sv_putZ (pc := 2) hG dX6_makeGlyph_2 f_6_58 lay_30 rfl rfl hV26 ?_
  refine sx_aload_n (pc := 5) dX6_makeGlyph_5 sx_m0 ?_
  refine sx_iconst (pc := 6) (v := 0) dX6_makeGlyph_6 (by decide) ?_
  obtain ⟨V27, hV27⟩ : ∃ z : sv_V, z = sv_I V26 30 12 (0 : Int32) := ⟨_, rfl⟩
  have h := sx_letE hV27 h
  refine sv_putI (pc := 7) hG dX6_makeGlyph_7 f_6_101 lay_30 rfl hV27 ?_
  refine sx_aload_n (pc := 10) dX6_makeGlyph_10 sx_m0 ?_
  refine sv_getO (pc := 11) hG dX6_makeGlyph_11 f_6_47 lay_30 rfl cr_30_2 ?_
  obtain ⟨V28, g29, h⟩ := sx_bnd h
  refine sv_cV (pc := 14) (y := qX5_beginCount) (o := none) (as := []) (V1 := V28) hG dX6_makeGlyph_14 l_X6_104 y0X5_beginCount yvX5_beginCount rfl (Nat.le_of_ble_eq_true rfl) lay_69 kr_5 (by decide) (Nat.le_of_ble_eq_true rfl) rfl rfl rfl (t_X5_beginCount hG ⟨rfl, rfl⟩ g29) ?_
  refine sx_aload_n (pc := 17) dX6_makeGlyph_17 sx_m0 ?_
  refine sv_getA (pc := 18) hG dX6_makeGlyph_18 f_6_23 lay_30 rfl cr_30_5 ?_
  refine sx_iconst (pc := 21) (v := 0) dX6_makeGlyph_21 (by decide) ?_
  obtain ⟨b30, g31, h⟩ := sx_bnd h
  refine sv_aald (pc := 22) hG dX6_makeGlyph_22 (by decide) lay_59 (by decide) g31 ?_
  refine sx_astore_n (pc := 23) (lo' := [(2, .ref b30), (0, .ref 30), (1, .int l1)]) dX6_makeGlyph_23 (by decide) rfl ?_
  refine sx_aload_n (pc := 24) dX6_makeGlyph_24 sx_m1 ?_
  refine sx_iload_n (pc := 25) dX6_makeGlyph_25 sx_m2 ?_
  refine sx_iconst (pc := 26) (v := 0) dX6_makeGlyph_26 (by decide) ?_
  obtain ⟨⟨x34, V32⟩, g33, h⟩ := sx_bnd h
  refine sv_cV (pc := 27) (y := qX6_build) (o := (some (.int x34))) (as := [.int l1, .int (0 : Int32)]) (V1 := V32) hG dX6_makeGlyph_27 l_X6_107 y0X6_build yvX6_build rfl (Nat.le_of_ble_eq_true rfl) lay_30 kr_6 (by decide) (Nat.le_of_ble_eq_true rfl) rfl rfl rfl (t_X6_build hG ⟨rfl, rfl⟩ g33) ?_
  refine sx_if_eq (pc := 30) (tgt := 106) dX6_makeGlyph_30 (by decide) (fun c35 => ?_) (fun c35 => ?_)
  · have h := sx_pos c35 h
    refine sx_wk (sx_s1 sx_m1 (sx_s1 sx_m0 sx_s0)) ?_
    exact tB_X6_makeGlyph_106 hG hP  h
  · have h := sx_neg c35 h
    refine sx_aload_n (pc := 33) dX6_makeGlyph_33 sx_m1 ?_
    refine sx_aload_n (pc := 34) dX6_makeGlyph_34 sx_m1 ?_
    refine sv_getO (pc := 35) hG dX6_makeGlyph_35 f_6_34 lay_30 rfl cr_30_0 ?_
    refine sv_getA (pc := 38) hG dX6_makeGlyph_38 f_6_111 lay_2 rfl cr_2_16 ?_
    refine sx_bipush (pc := 41) (v := 7) dX6_makeGlyph_41 (by decide) ?_
    obtain ⟨b36, g37, h⟩ := sx_bnd h
    refine sv_aald (pc := 43) hG dX6_makeGlyph_43 (by decide) lay_7 (by decide) g37 ?_
    refine sx_iload_n (pc := 44) dX6_makeGlyph_44 sx_m2 ?_
    obtain ⟨n38, g39, h⟩ := sx_bnd h
    obtain ⟨g40, h⟩ := sx_grd h
    refine sv_iald (pc := 45) hG dX6_makeGlyph_45 (sv_len_e g39) g40 ?_
    refine sx_if_le (pc := 46) (tgt := 53) dX6_makeGlyph_46 (by decide) (fun c41 => ?_) (fun c41 => ?_)
    · have h := sx_pos c41 h
      refine sx_iconst (pc := 53) (v := 0) dX6_makeGlyph_53 (by decide) ?_
      refine sx_wk (sx_s1 sx_m1 (sx_s1 sx_m0 sx_s0)) ?_
      exact tB_X6_makeGlyph_54 hG hP  h
    · have h := sx_neg c41 h
      refine sx_iconst (pc := 49) (v := 1) dX6_makeGlyph_49 (by decide) ?_
      refine sx_goto (pc := 50) (tgt := 54) dX6_makeGlyph_50 (by decide) ?_
      refine sx_wk (sx_s1 sx_m1 (sx_s1 sx_m0 sx_s0)) ?_
      exact tB_X6_makeGlyph_54 hG hP  h
def ncX11_make : Nat := 1582944175601535848830962485952198996616211238005077613280528369677666176548994914373208013542252932447122474
theorem kcX11_make : CK cX11_make ncX11_make 45 := ⟨by decide +kernel, by decide +kernel⟩
theorem dX11_make_0 : decode cX11_make 0 = .ok (.aload_n 0, 1) := dl_o42 kcX11_make (by decide +kernel)
theorem dX11_make_1 : decode cX11_make 1 = .ok (.getfield 16, 3) := dl_o180 kcX11_make (by decide +kernel)
theorem dX11_make_4 : decode cX11_make 4 = .ok (.getfield 67, 3) := dl_o180 kcX11_make (by decide +kernel)
theorem dX11_make_7 : decode cX11_make 7 = .ok (.ifCond .eq 13, 3) := dl_o153 kcX11_make 13 (by decide +kernel) (by decide +kernel)
theorem dX11_make_10 : decode cX11_make 10 = .ok (.aload_n 0, 1) := dl_o42 kcX11_make (by decide +kernel)
theorem dX11_make_11 : decode cX11_make 11 = .ok (.getfield 37, 3) := dl_o180 kcX11_make (by decide +kernel)
theorem dX11_make_14 : decode cX11_make 14 = .ok (.getfield 137, 3) := dl_o180 kcX11_make (by decide +kernel)
theorem dX11_make_17 : decode cX11_make 17 = .ok (.ifCond .ne 6, 3) := dl_o154 kcX11_make 6 (by decide +kernel) (by decide +kernel)
theorem dX11_make_20 : decode cX11_make 20 = .ok (.bipush (-3), 2) := dl_o16 kcX11_make 253 (by decide +kernel) (by decide +kernel)
theorem dX11_make_22 : decode cX11_make 22 = .ok (.ireturn, 1) := dl_o172 kcX11_make (by decide +kernel)
theorem dX11_make_23 : decode cX11_make 23 = .ok (.aload_n 0, 1) := dl_o42 kcX11_make (by decide +kernel)
theorem dX11_make_24 : decode cX11_make 24 = .ok (.getfield 16, 3) := dl_o180 kcX11_make (by decide +kernel)
theorem dX11_make_27 : decode cX11_make 27 = .ok (.iload_n 1, 1) := dl_o27 kcX11_make (by decide +kernel)
theorem dX11_make_28 : decode cX11_make 28 = .ok (.invokevirtual 116, 3) := dl_o182 kcX11_make (by decide +kernel)
theorem dX11_make_31 : decode cX11_make 31 = .ok (.ifCond .ne 5, 3) := dl_o154 kcX11_make 5 (by decide +kernel) (by decide +kernel)
theorem dX11_make_34 : decode cX11_make 34 = .ok (.iconst (-1), 1) := dl_o2 kcX11_make (by decide +kernel)
theorem dX11_make_35 : decode cX11_make 35 = .ok (.ireturn, 1) := dl_o172 kcX11_make (by decide +kernel)
theorem dX11_make_36 : decode cX11_make 36 = .ok (.aload_n 0, 1) := dl_o42 kcX11_make (by decide +kernel)
theorem dX11_make_37 : decode cX11_make 37 = .ok (.getfield 37, 3) := dl_o180 kcX11_make (by decide +kernel)
theorem dX11_make_40 : decode cX11_make 40 = .ok (.iload_n 1, 1) := dl_o27 kcX11_make (by decide +kernel)
theorem dX11_make_41 : decode cX11_make 41 = .ok (.invokevirtual 140, 3) := dl_o182 kcX11_make (by decide +kernel)
theorem dX11_make_44 : decode cX11_make 44 = .ok (.ireturn, 1) := dl_o172 kcX11_make (by decide +kernel)
def F_X11_make (N : Nat) (l1 : Int32) (V : sv_V) : Option (Int32 × sv_V) := if (V.1 2 2) = 0 then (some ((-3 : Int32), V)) else (if (V.1 30 7) = 0 then (some ((-3 : Int32), V)) else ((F_X2_hasGlyph l1 V).bind (fun (x5, V3) => if x5 = 0 then (some ((-1 : Int32), V3)) else ((F_X6_makeGlyph N l1 V3).bind (fun (x9, V7) => some (x9, V7))))))
set_option maxRecDepth 20000 in
theorem t_X11_make {g : sx_G} (hG : sx_Go g) {P : Option Value → sv_V → Prop} {r : Int32} {Vr : sv_V} (hP : P (some (.int r)) Vr) {N : Nat} {l1 : Int32} {V : sv_V} (h : F_X11_make N l1 V = some (r, Vr)) : sv_N g qX11_make 48 0 [(0, .ref 0), (1, .int l1)] [] V P := by
  unfold F_X11_make at h
  refine sx_aload_n (pc := 0) dX11_make_0 sx_m0 ?_
  refine sv_getO (pc := 1) hG dX11_make_1 f_11_16 lay_0 rfl cr_0_2 ?_
  refine sv_getZ (pc := 4) hG dX11_make_4 f_11_67 lay_2 rfl ?_
  refine sx_if_eq (pc := 7) (tgt := 20) dX11_make_7 (by decide) (fun c1 => ?_) (fun c1 => ?_)
  · have h := sx_pos c1 h
    refine sx_bipush (pc := 20) (v := (-3)) dX11_make_20 (by decide) ?_
    exact sv_iret (pc := 22) dX11_make_22 rfl h hP
  · have h := sx_neg c1 h
    refine sx_aload_n (pc := 10) dX11_make_10 sx_m0 ?_
    refine sv_getO (pc := 11) hG dX11_make_11 f_11_37 lay_0 rfl cr_0_4 ?_
    refine sv_getI (pc := 14) hG dX11_make_14 f_11_137 lay_30 rfl ?_
    refine sx_if_ne (pc := 17) (tgt := 23) dX11_make_17 (by decide) (fun c2 => ?_) (fun c2 => ?_)
    · have h := sx_neg c2 h
      refine sx_aload_n (pc := 23) dX11_make_23 sx_m0 ?_
      refine sv_getO (pc := 24) hG dX11_make_24 f_11_16 lay_0 rfl cr_0_2 ?_
      refine sx_iload_n (pc := 27) dX11_make_27 sx_m1 ?_
      obtain ⟨⟨x5, V3⟩, g4, h⟩ := sx_bnd h
      refine sv_cV (pc := 28) (y := qX2_hasGlyph) (o := (some (.int x5))) (as := [.int l1]) (V1 := V3) hG dX11_make_28 l_X11_116 y0X2_hasGlyph yvX2_hasGlyph rfl (Nat.le_of_ble_eq_true rfl) lay_2 kr_2 (by decide) (Nat.le_of_ble_eq_true rfl) rfl rfl rfl (t_X2_hasGlyph hG ⟨rfl, rfl⟩ g4) ?_
      refine sx_if_ne (pc := 31) (tgt := 36) dX11_make_31 (by decide) (fun c6 => ?_) (fun c6 => ?_)
      · have h := sx_neg c6 h
        refine sx_aload_n (pc := 36) dX11_make_36 sx_m0 ?_
        refine sv_getO (pc := 37) hG dX11_make_37 f_11_37 lay_0 rfl cr_0_4 ?_
        refine sx_iload_n (pc := 40) dX11_make_40 sx_m1 ?_
        obtain ⟨⟨x9, V7⟩, g8, h⟩ := sx_bnd h
        refine sv_cV (pc := 41) (y := qX6_makeGlyph) (o := (some (.int x9))) (as := [.int l1]) (V1 := V7) hG dX11_make_41 l_X11_140 y0X6_makeGlyph yvX6_makeGlyph rfl (Nat.le_of_ble_eq_true rfl) lay_30 kr_6 (by decide) (Nat.le_of_ble_eq_true rfl) rfl rfl rfl (t_X6_makeGlyph hG ⟨rfl, rfl⟩ g8) ?_
        exact sv_iret (pc := 44) dX11_make_44 rfl h hP
      · have h := sx_pos c6 h
        refine sx_iconst (pc := 34) (v := (-1)) dX11_make_34 (by decide) ?_
        exact sv_iret (pc := 35) dX11_make_35 rfl h hP
    · have h := sx_pos c2 h
      refine sx_bipush (pc := 20) (v := (-3)) dX11_make_20 (by decide) ?_
      exact sv_iret (pc := 22) dX11_make_22 rfl h hP
def ncX11_line : Nat := 2610360164067374338147408027264504733510123635585808972205045351098514633087607122786753363968112568060507987151333078740328104354294002915592764208224813337767816302299043947644610256639391422723800222438105714933990994108128777724052736213085162988967435499578616959264016187147801790183659330141516011173488136569420985757352087897740749389509606156205400635345122908589296135370493770242467657535506737941844513010400643792639216571743735007847963857534352645711902292410072660515451257584516974473190296949277071553578
theorem kcX11_line : CK cX11_line ncX11_line 217 := ⟨by decide +kernel, by decide +kernel⟩
theorem dX11_line_0 : decode cX11_line 0 = .ok (.aload_n 0, 1) := dl_o42 kcX11_line (by decide +kernel)
theorem dX11_line_1 : decode cX11_line 1 = .ok (.getfield 16, 3) := dl_o180 kcX11_line (by decide +kernel)
theorem dX11_line_4 : decode cX11_line 4 = .ok (.getfield 67, 3) := dl_o180 kcX11_line (by decide +kernel)
theorem dX11_line_7 : decode cX11_line 7 = .ok (.ifCond .eq 23, 3) := dl_o153 kcX11_line 23 (by decide +kernel) (by decide +kernel)
theorem dX11_line_10 : decode cX11_line 10 = .ok (.aload_n 0, 1) := dl_o42 kcX11_line (by decide +kernel)
theorem dX11_line_11 : decode cX11_line 11 = .ok (.getfield 37, 3) := dl_o180 kcX11_line (by decide +kernel)
theorem dX11_line_14 : decode cX11_line 14 = .ok (.getfield 137, 3) := dl_o180 kcX11_line (by decide +kernel)
theorem dX11_line_17 : decode cX11_line 17 = .ok (.ifCond .eq 13, 3) := dl_o153 kcX11_line 13 (by decide +kernel) (by decide +kernel)
theorem dX11_line_20 : decode cX11_line 20 = .ok (.aload_n 0, 1) := dl_o42 kcX11_line (by decide +kernel)
theorem dX11_line_21 : decode cX11_line 21 = .ok (.getfield 44, 3) := dl_o180 kcX11_line (by decide +kernel)
theorem dX11_line_24 : decode cX11_line 24 = .ok (.getfield 247, 3) := dl_o180 kcX11_line (by decide +kernel)
theorem dX11_line_27 : decode cX11_line 27 = .ok (.ifCond .ne 6, 3) := dl_o154 kcX11_line 6 (by decide +kernel) (by decide +kernel)
theorem dX11_line_30 : decode cX11_line 30 = .ok (.bipush (-3), 2) := dl_o16 kcX11_line 253 (by decide +kernel) (by decide +kernel)
theorem dX11_line_32 : decode cX11_line 32 = .ok (.ireturn, 1) := dl_o172 kcX11_line (by decide +kernel)
theorem dX11_line_33 : decode cX11_line 33 = .ok (.iload_n 1, 1) := dl_o27 kcX11_line (by decide +kernel)
theorem dX11_line_34 : decode cX11_line 34 = .ok (.i2l, 1) := dl_o133 kcX11_line (by decide +kernel)
theorem dX11_line_35 : decode cX11_line 35 = .ok (.sipush 20000, 3) := dl_o17 kcX11_line 20000 (by decide +kernel) (by decide +kernel)
theorem dX11_line_38 : decode cX11_line 38 = .ok (.invokestatic 225, 3) := dl_o184 kcX11_line (by decide +kernel)
theorem dX11_line_41 : decode cX11_line 41 = .ok (.ifCond .ne 14, 3) := dl_o154 kcX11_line 14 (by decide +kernel) (by decide +kernel)
theorem dX11_line_44 : decode cX11_line 44 = .ok (.iload_n 2, 1) := dl_o28 kcX11_line (by decide +kernel)
theorem dX11_line_45 : decode cX11_line 45 = .ok (.i2l, 1) := dl_o133 kcX11_line (by decide +kernel)
theorem dX11_line_46 : decode cX11_line 46 = .ok (.sipush 20000, 3) := dl_o17 kcX11_line 20000 (by decide +kernel) (by decide +kernel)
theorem dX11_line_49 : decode cX11_line 49 = .ok (.invokestatic 225, 3) := dl_o184 kcX11_line (by decide +kernel)
theorem dX11_line_52 : decode cX11_line 52 = .ok (.ifCond .eq 6, 3) := dl_o153 kcX11_line 6 (by decide +kernel) (by decide +kernel)
theorem dX11_line_55 : decode cX11_line 55 = .ok (.bipush (-2), 2) := dl_o16 kcX11_line 254 (by decide +kernel) (by decide +kernel)
theorem dX11_line_57 : decode cX11_line 57 = .ok (.ireturn, 1) := dl_o172 kcX11_line (by decide +kernel)
theorem dX11_line_58 : decode cX11_line 58 = .ok (.aload_n 0, 1) := dl_o42 kcX11_line (by decide +kernel)
theorem dX11_line_59 : decode cX11_line 59 = .ok (.getfield 260, 3) := dl_o180 kcX11_line (by decide +kernel)
theorem dX11_line_62 : decode cX11_line 62 = .ok (.istore_n 3, 1) := dl_o62 kcX11_line (by decide +kernel)
theorem dX11_line_63 : decode cX11_line 63 = .ok (.aload_n 0, 1) := dl_o42 kcX11_line (by decide +kernel)
theorem dX11_line_64 : decode cX11_line 64 = .ok (.iconst 0, 1) := dl_o3 kcX11_line (by decide +kernel)
theorem dX11_line_65 : decode cX11_line 65 = .ok (.putfield 260, 3) := dl_o181 kcX11_line (by decide +kernel)
theorem dX11_line_68 : decode cX11_line 68 = .ok (.iload_n 1, 1) := dl_o27 kcX11_line (by decide +kernel)
theorem dX11_line_69 : decode cX11_line 69 = .ok (.i2l, 1) := dl_o133 kcX11_line (by decide +kernel)
theorem dX11_line_70 : decode cX11_line 70 = .ok (.lstore 4, 2) := dl_o55 kcX11_line (by decide +kernel)
theorem dX11_line_72 : decode cX11_line 72 = .ok (.iconst (-1), 1) := dl_o2 kcX11_line (by decide +kernel)
theorem dX11_line_73 : decode cX11_line 73 = .ok (.istore 6, 2) := dl_o54 kcX11_line (by decide +kernel)
theorem dX11_line_75 : decode cX11_line 75 = .ok (.iconst 0, 1) := dl_o3 kcX11_line (by decide +kernel)
theorem dX11_line_76 : decode cX11_line 76 = .ok (.istore 7, 2) := dl_o54 kcX11_line (by decide +kernel)
theorem dX11_line_78 : decode cX11_line 78 = .ok (.iload 7, 2) := dl_o21 kcX11_line (by decide +kernel)
theorem dX11_line_80 : decode cX11_line 80 = .ok (.iload_n 3, 1) := dl_o29 kcX11_line (by decide +kernel)
theorem dX11_line_81 : decode cX11_line 81 = .ok (.if_icmp .ge 132, 3) := dl_o162 kcX11_line 132 (by decide +kernel) (by decide +kernel)
theorem dX11_line_84 : decode cX11_line 84 = .ok (.aload_n 0, 1) := dl_o42 kcX11_line (by decide +kernel)
theorem dX11_line_85 : decode cX11_line 85 = .ok (.getfield 16, 3) := dl_o180 kcX11_line (by decide +kernel)
theorem dX11_line_88 : decode cX11_line 88 = .ok (.aload_n 0, 1) := dl_o42 kcX11_line (by decide +kernel)
theorem dX11_line_89 : decode cX11_line 89 = .ok (.getfield 48, 3) := dl_o180 kcX11_line (by decide +kernel)
theorem dX11_line_92 : decode cX11_line 92 = .ok (.iload 7, 2) := dl_o21 kcX11_line (by decide +kernel)
theorem dX11_line_94 : decode cX11_line 94 = .ok (.iaload, 1) := dl_o46 kcX11_line (by decide +kernel)
theorem dX11_line_95 : decode cX11_line 95 = .ok (.invokevirtual 112, 3) := dl_o182 kcX11_line (by decide +kernel)
theorem dX11_line_98 : decode cX11_line 98 = .ok (.istore 8, 2) := dl_o54 kcX11_line (by decide +kernel)
theorem dX11_line_100 : decode cX11_line 100 = .ok (.iload 6, 2) := dl_o21 kcX11_line (by decide +kernel)
theorem dX11_line_102 : decode cX11_line 102 = .ok (.iconst (-1), 1) := dl_o2 kcX11_line (by decide +kernel)
theorem dX11_line_103 : decode cX11_line 103 = .ok (.if_icmp .eq 30, 3) := dl_o159 kcX11_line 30 (by decide +kernel) (by decide +kernel)
theorem dX11_line_106 : decode cX11_line 106 = .ok (.lload 4, 2) := dl_o22 kcX11_line (by decide +kernel)
theorem dX11_line_108 : decode cX11_line 108 = .ok (.aload_n 0, 1) := dl_o42 kcX11_line (by decide +kernel)
theorem dX11_line_109 : decode cX11_line 109 = .ok (.getfield 37, 3) := dl_o180 kcX11_line (by decide +kernel)
theorem dX11_line_112 : decode cX11_line 112 = .ok (.getfield 167, 3) := dl_o180 kcX11_line (by decide +kernel)
theorem dX11_line_115 : decode cX11_line 115 = .ok (.aload_n 0, 1) := dl_o42 kcX11_line (by decide +kernel)
theorem dX11_line_116 : decode cX11_line 116 = .ok (.getfield 16, 3) := dl_o180 kcX11_line (by decide +kernel)
theorem dX11_line_119 : decode cX11_line 119 = .ok (.iload 6, 2) := dl_o21 kcX11_line (by decide +kernel)
theorem dX11_line_121 : decode cX11_line 121 = .ok (.iload 8, 2) := dl_o21 kcX11_line (by decide +kernel)
theorem dX11_line_123 : decode cX11_line 123 = .ok (.invokevirtual 130, 3) := dl_o182 kcX11_line (by decide +kernel)
theorem dX11_line_126 : decode cX11_line 126 = .ok (.i2l, 1) := dl_o133 kcX11_line (by decide +kernel)
theorem dX11_line_127 : decode cX11_line 127 = .ok (.invokevirtual 263, 3) := dl_o182 kcX11_line (by decide +kernel)
theorem dX11_line_130 : decode cX11_line 130 = .ok (.ladd, 1) := dl_o97 kcX11_line (by decide +kernel)
theorem dX11_line_131 : decode cX11_line 131 = .ok (.lstore 4, 2) := dl_o55 kcX11_line (by decide +kernel)
theorem dX11_line_133 : decode cX11_line 133 = .ok (.aload_n 0, 1) := dl_o42 kcX11_line (by decide +kernel)
theorem dX11_line_134 : decode cX11_line 134 = .ok (.getfield 37, 3) := dl_o180 kcX11_line (by decide +kernel)
theorem dX11_line_137 : decode cX11_line 137 = .ok (.iload 8, 2) := dl_o21 kcX11_line (by decide +kernel)
theorem dX11_line_139 : decode cX11_line 139 = .ok (.invokevirtual 140, 3) := dl_o182 kcX11_line (by decide +kernel)
theorem dX11_line_142 : decode cX11_line 142 = .ok (.istore 9, 2) := dl_o54 kcX11_line (by decide +kernel)
theorem dX11_line_144 : decode cX11_line 144 = .ok (.iload 9, 2) := dl_o21 kcX11_line (by decide +kernel)
theorem dX11_line_146 : decode cX11_line 146 = .ok (.ifCond .ge 10, 3) := dl_o156 kcX11_line 10 (by decide +kernel) (by decide +kernel)
theorem dX11_line_149 : decode cX11_line 149 = .ok (.ldc_w 267, 3) := dl_o19 kcX11_line (by decide +kernel)
theorem dX11_line_152 : decode cX11_line 152 = .ok (.iload 9, 2) := dl_o21 kcX11_line (by decide +kernel)
theorem dX11_line_154 : decode cX11_line 154 = .ok (.iadd, 1) := dl_o96 kcX11_line (by decide +kernel)
theorem dX11_line_155 : decode cX11_line 155 = .ok (.ireturn, 1) := dl_o172 kcX11_line (by decide +kernel)
theorem dX11_line_156 : decode cX11_line 156 = .ok (.lload 4, 2) := dl_o22 kcX11_line (by decide +kernel)
theorem dX11_line_158 : decode cX11_line 158 = .ok (.sipush 20000, 3) := dl_o17 kcX11_line 20000 (by decide +kernel) (by decide +kernel)
theorem dX11_line_161 : decode cX11_line 161 = .ok (.invokestatic 225, 3) := dl_o184 kcX11_line (by decide +kernel)
theorem dX11_line_164 : decode cX11_line 164 = .ok (.ifCond .eq 7, 3) := dl_o153 kcX11_line 7 (by decide +kernel) (by decide +kernel)
theorem dX11_line_167 : decode cX11_line 167 = .ok (.ldc_w 268, 3) := dl_o19 kcX11_line (by decide +kernel)
theorem dX11_line_170 : decode cX11_line 170 = .ok (.ireturn, 1) := dl_o172 kcX11_line (by decide +kernel)
theorem dX11_line_171 : decode cX11_line 171 = .ok (.aload_n 0, 1) := dl_o42 kcX11_line (by decide +kernel)
theorem dX11_line_172 : decode cX11_line 172 = .ok (.getfield 44, 3) := dl_o180 kcX11_line (by decide +kernel)
theorem dX11_line_175 : decode cX11_line 175 = .ok (.aload_n 0, 1) := dl_o42 kcX11_line (by decide +kernel)
theorem dX11_line_176 : decode cX11_line 176 = .ok (.getfield 37, 3) := dl_o180 kcX11_line (by decide +kernel)
theorem dX11_line_179 : decode cX11_line 179 = .ok (.getfield 229, 3) := dl_o180 kcX11_line (by decide +kernel)
theorem dX11_line_182 : decode cX11_line 182 = .ok (.lload 4, 2) := dl_o22 kcX11_line (by decide +kernel)
theorem dX11_line_184 : decode cX11_line 184 = .ok (.l2i, 1) := dl_o136 kcX11_line (by decide +kernel)
theorem dX11_line_185 : decode cX11_line 185 = .ok (.iload_n 2, 1) := dl_o28 kcX11_line (by decide +kernel)
theorem dX11_line_186 : decode cX11_line 186 = .ok (.invokevirtual 250, 3) := dl_o182 kcX11_line (by decide +kernel)
theorem dX11_line_189 : decode cX11_line 189 = .ok (.pop, 1) := dl_o87 kcX11_line (by decide +kernel)
theorem dX11_line_190 : decode cX11_line 190 = .ok (.lload 4, 2) := dl_o22 kcX11_line (by decide +kernel)
theorem dX11_line_192 : decode cX11_line 192 = .ok (.aload_n 0, 1) := dl_o42 kcX11_line (by decide +kernel)
theorem dX11_line_193 : decode cX11_line 193 = .ok (.getfield 37, 3) := dl_o180 kcX11_line (by decide +kernel)
theorem dX11_line_196 : decode cX11_line 196 = .ok (.getfield 185, 3) := dl_o180 kcX11_line (by decide +kernel)
theorem dX11_line_199 : decode cX11_line 199 = .ok (.i2l, 1) := dl_o133 kcX11_line (by decide +kernel)
theorem dX11_line_200 : decode cX11_line 200 = .ok (.ladd, 1) := dl_o97 kcX11_line (by decide +kernel)
theorem dX11_line_201 : decode cX11_line 201 = .ok (.lstore 4, 2) := dl_o55 kcX11_line (by decide +kernel)
theorem dX11_line_203 : decode cX11_line 203 = .ok (.iload 8, 2) := dl_o21 kcX11_line (by decide +kernel)
theorem dX11_line_205 : decode cX11_line 205 = .ok (.istore 6, 2) := dl_o54 kcX11_line (by decide +kernel)
theorem dX11_line_207 : decode cX11_line 207 = .ok (.iinc 7 1, 3) := by decide +kernel
theorem dX11_line_210 : decode cX11_line 210 = .ok (.goto (-132), 3) := dl_o167 kcX11_line 65404 (by decide +kernel) (by decide +kernel)
theorem dX11_line_213 : decode cX11_line 213 = .ok (.lload 4, 2) := dl_o22 kcX11_line (by decide +kernel)
theorem dX11_line_215 : decode cX11_line 215 = .ok (.l2i, 1) := dl_o136 kcX11_line (by decide +kernel)
theorem dX11_line_216 : decode cX11_line 216 = .ok (.ireturn, 1) := dl_o172 kcX11_line (by decide +kernel)
def B_X11_line_133 (N : Nat) (k78 : Int32 → Int32 → Int64 → Int32 → Int32 → sv_V → Option (Int32 × sv_V)) (l2 : Int32) (l3 : Int32) (l4 : Int64) (l7 : Int32) (l8 : Int32) (V : sv_V) : Option (Int32 × sv_V) := (F_X6_makeGlyph N l8 V).bind (fun (x3, V1) => if 0 ≤ x3 then ((F_X11_isBeyond l4 (20000 : Int32) V1).bind (fun (x7, V5) => if x7 = 0 then ((F_X1_fillIn N l4.toInt32 l2 V5).bind (fun (x11, V9) => sx_let (l4 + ((V9.1 30 10).toInt64)) (fun x12 => sx_let (l7 + 1) (fun x13 => k78 l2 l3 x12 l8 x13 V9)))) else (some ((-1000200 : Int32), V5)))) else (some ((-1000000 : Int32) + x3, V1)))
set_option maxRecDepth 20000 in
theorem tB_X11_line_133 {g : sx_G} (hG : sx_Go g) {P : Option Value → sv_V → Prop} {r : Int32} {Vr : sv_V} (hP : P (some (.int r)) Vr) {N : Nat} {k78 : Int32 → Int32 → Int64 → Int32 → Int32 → sv_V → Option (Int32 × sv_V)} (hk78 : ∀ (l2 : Int32) (l3 : Int32) (l4 : Int64) (l6 : Int32) (l7 : Int32) (V : sv_V), k78 l2 l3 l4 l6 l7 V = some (r, Vr) → sv_N g qX11_line 48 78 [(0, .ref 0), (2, .int l2), (3, .int l3), (4, .long l4), (6, .int l6), (7, .int l7)] [] V P) {l2 : Int32} {l3 : Int32} {l4 : Int64} {l7 : Int32} {l8 : Int32} {V : sv_V} (h : B_X11_line_133 N k78 l2 l3 l4 l7 l8 V = some (r, Vr)) : sv_N g qX11_line 48 133 [(0, .ref 0), (2, .int l2), (3, .int l3), (4, .long l4), (7, .int l7), (8, .int l8)] [] V P := by
  unfold B_X11_line_133 at h
  refine sx_aload_n (pc := 133) dX11_line_133 sx_m0 ?_
  refine sv_getO (pc := 134) hG dX11_line_134 f_11_37 lay_0 rfl cr_0_4 ?_
  refine sx_iload (pc := 137) dX11_line_137 sx_m5 ?_
  obtain ⟨⟨x3, V1⟩, g2, h⟩ := sx_bnd h
  refine sv_cV (pc := 139) (y := qX6_makeGlyph) (o := (some (.int x3))) (as := [.int l8]) (V1 := V1) hG dX11_line_139 l_X11_140 y0X6_makeGlyph yvX6_makeGlyph rfl (Nat.le_of_ble_eq_true rfl) lay_30 kr_6 (by decide) (Nat.le_of_ble_eq_true rfl) rfl rfl rfl (t_X6_makeGlyph hG ⟨rfl, rfl⟩ g2) ?_
  refine sx_istore (pc := 142) (lo' := [(9, .int x3), (0, .ref 0), (2, .int l2), (3, .int l3), (4, .long l4), (7, .int l7), (8, .int l8)]) dX11_line_142 (by decide) rfl ?_
  refine sx_iload (pc := 144) dX11_line_144 sx_m0 ?_
  refine sx_if_ge (pc := 146) (tgt := 156) dX11_line_146 (by decide) (fun c4 => ?_) (fun c4 => ?_)
  · have h := sx_pos c4 h
    refine sx_lload (pc := 156) dX11_line_156 sx_m4 ?_
    refine sx_sipush (pc := 158) (v := 20000) dX11_line_158 (by decide) ?_
    obtain ⟨⟨x7, V5⟩, g6, h⟩ := sx_bnd h
    refine sv_cS (pc := 161) (y := qX11_isBeyond) (o := (some (.int x7))) (as := [.long l4, .int (20000 : Int32)]) (V1 := V5) dX11_line_161 l_X11_225 y0X11_isBeyond ysX11_isBeyond rfl (Nat.le_of_ble_eq_true rfl) (by decide) (Nat.le_of_ble_eq_true rfl) rfl rfl rfl (t_X11_isBeyond hG ⟨rfl, rfl⟩ g6) ?_
    refine sx_if_eq (pc := 164) (tgt := 171) dX11_line_164 (by decide) (fun c8 => ?_) (fun c8 => ?_)
    · have h := sx_pos c8 h
      refine sx_aload_n (pc := 171) dX11_line_171 sx_m1 ?_
      refine sv_getO (pc := 172) hG dX11_line_172 f_11_44 lay_0 rfl cr_0_5 ?_
      refine sx_aload_n (pc := 175) dX11_line_175 sx_m1 ?_
      refine sv_getO (pc := 176) hG dX11_line_176 f_11_37 lay_0 rfl cr_0_4 ?_
      refine sv_getO (pc := 179) hG dX11_line_179 f_11_229 lay_30 rfl cr_30_6 ?_
      refine sx_lload (pc := 182) dX11_line_182 sx_m4 ?_
      refine sx_l2i (pc := 184) dX11_line_184 ?_
      refine sx_iload_n (pc := 185) dX11_line_185 sx_m2 ?_
      obtain ⟨⟨x11, V9⟩, g10, h⟩ := sx_bnd h
      refine sv_cV (pc := 186) (y := qX1_fillIn) (o := (some (.int x11))) (as := [.ref 60, .int l4.toInt32, .int l2]) (V1 := V9) hG dX11_line_186 l_X11_250 y0X1_fillIn yvX1_fillIn rfl (Nat.le_of_ble_eq_true rfl) lay_143 kr_1 (by decide) (Nat.le_of_ble_eq_true rfl) rfl rfl rfl (t_X1_fillIn hG ⟨rfl, rfl⟩ g10) ?_
      refine sx_pop (pc := 189) dX11_line_189 rfl ?_
      refine sx_lload (pc := 190) dX11_line_190 sx_m4 ?_
      refine sx_aload_n (pc := 192) dX11_line_192 sx_m1 ?_
      refine sv_getO (pc := 193) hG dX11_line_193 f_11_37 lay_0 rfl cr_0_4 ?_
      refine sv_getI (pc := 196) hG dX11_line_196 f_11_185 lay_30 rfl ?_
      refine sx_i2l (pc := 199) dX11_line_199 ?_
      refine sx_ladd (pc := 200) dX11_line_200 ?_
      refine sv_tJ (fun x12 hx12 => ?_)
      have h := sx_letE hx12 h
      refine sx_lstore (pc := 201) (lo' := [(4, .long x12), (9, .int x3), (0, .ref 0), (2, .int l2), (3, .int l3), (7, .int l7), (8, .int l8)]) dX11_line_201 (by decide) rfl ?_
      refine sx_iload (pc := 203) dX11_line_203 sx_m6 ?_
      refine sx_istore (pc := 205) (lo' := [(6, .int l8), (4, .long x12), (9, .int x3), (0, .ref 0), (2, .int l2), (3, .int l3), (7, .int l7), (8, .int l8)]) dX11_line_205 (by decide) rfl ?_
      obtain ⟨x13, hx13⟩ : ∃ z : Int32, z = l7 + 1 := ⟨_, rfl⟩
      have h := sx_letE hx13 h
      refine sx_iinc (pc := 207) (v := x13) (lo' := [(7, .int x13), (6, .int l8), (4, .long x12), (9, .int x3), (0, .ref 0), (2, .int l2), (3, .int l3), (8, .int l8)]) dX11_line_207 sx_m6 (by rw [hx13]; rfl) (by decide) rfl ?_
      refine sx_goto (pc := 210) (tgt := 78) dX11_line_210 (by decide) ?_
      refine sx_wk (sx_s1 sx_m4 (sx_s1 sx_m5 (sx_s1 sx_m6 (sx_s1 sx_m2 (sx_s1 sx_m1 (sx_s1 sx_m0 sx_s0)))))) ?_
      exact hk78 _ _ _ _ _ _ h
    · have h := sx_neg c8 h
      refine sx_ldcw (pc := 167) dX11_line_167 k_X11_268 ?_
      exact sv_iret (pc := 170) dX11_line_170 rfl h hP
  · have h := sx_neg c4 h
    refine sx_ldcw (pc := 149) dX11_line_149 k_X11_267 ?_
    refine sx_iload (pc := 152) dX11_line_152 sx_m0 ?_
    refine sx_iadd (pc := 154) dX11_line_154 ?_
    exact sv_iret (pc := 155) dX11_line_155 rfl h hP
def B_X11_line_78 (N : Nat) (k78 : Int32 → Int32 → Int64 → Int32 → Int32 → sv_V → Option (Int32 × sv_V)) (l2 : Int32) (l3 : Int32) (l4 : Int64) (l6 : Int32) (l7 : Int32) (V : sv_V) : Option (Int32 × sv_V) := if l3 ≤ l7 then (some (l4.toInt32, V)) else (if sx_in l7 100 = true then (F_X2_findGlyph N (V.1 145 l7.toNatClampNeg) V).bind (fun (x18, V16) => if l6 = (-1 : Int32) then (B_X11_line_133 N k78 l2 l3 l4 l7 x18 V16) else ((F_X2_kernOf N l6 x18 V16).bind (fun (x22, V20) => (F_X5_scaled x22.toInt64 V20).bind (fun (x25, V23) => sx_let (l4 + x25) (fun x26 => B_X11_line_133 N k78 l2 l3 x26 l7 x18 V23))))) else none)
set_option maxRecDepth 20000 in
theorem tB_X11_line_78 {g : sx_G} (hG : sx_Go g) {P : Option Value → sv_V → Prop} {r : Int32} {Vr : sv_V} (hP : P (some (.int r)) Vr) {N : Nat} {k78 : Int32 → Int32 → Int64 → Int32 → Int32 → sv_V → Option (Int32 × sv_V)} (hk78 : ∀ (l2 : Int32) (l3 : Int32) (l4 : Int64) (l6 : Int32) (l7 : Int32) (V : sv_V), k78 l2 l3 l4 l6 l7 V = some (r, Vr) → sv_N g qX11_line 48 78 [(0, .ref 0), (2, .int l2), (3, .int l3), (4, .long l4), (6, .int l6), (7, .int l7)] [] V P) {l2 : Int32} {l3 : Int32} {l4 : Int64} {l6 : Int32} {l7 : Int32} {V : sv_V} (h : B_X11_line_78 N k78 l2 l3 l4 l6 l7 V = some (r, Vr)) : sv_N g qX11_line 48 78 [(0, .ref 0), (2, .int l2), (3, .int l3), (4, .long l4), (6, .int l6), (7, .int l7)] [] V P := by
  unfold B_X11_line_78 at h
  refine sx_iload (pc := 78) dX11_line_78 sx_m5 ?_
  refine sx_iload_n (pc := 80) dX11_line_80 sx_m2 ?_
  refine sx_icmp_ge (pc := 81) (tgt := 213) dX11_line_81 (by decide) (fun c14 => ?_) (fun c14 => ?_)
  · have h := sx_pos c14 h
    refine sx_lload (pc := 213) dX11_line_213 sx_m3 ?_
    refine sx_l2i (pc := 215) dX11_line_215 ?_
    exact sv_iret (pc := 216) dX11_line_216 rfl h hP
  · have h := sx_neg c14 h
    refine sx_aload_n (pc := 84) dX11_line_84 sx_m0 ?_
    refine sv_getO (pc := 85) hG dX11_line_85 f_11_16 lay_0 rfl cr_0_2 ?_
    refine sx_aload_n (pc := 88) dX11_line_88 sx_m0 ?_
    refine sv_getA (pc := 89) hG dX11_line_89 f_11_48 lay_0 rfl cr_0_6 ?_
    refine sx_iload (pc := 92) dX11_line_92 sx_m5 ?_
    obtain ⟨g15, h⟩ := sx_grd h
    refine sv_iald (pc := 94) hG dX11_line_94 lay_145 g15 ?_
    obtain ⟨⟨x18, V16⟩, g17, h⟩ := sx_bnd h
    refine sv_cV (pc := 95) (y := qX2_findGlyph) (o := (some (.int x18))) (as := [.int (V.1 145 l7.toNatClampNeg)]) (V1 := V16) hG dX11_line_95 l_X11_112 y0X2_findGlyph yvX2_findGlyph rfl (Nat.le_of_ble_eq_true rfl) lay_2 kr_2 (by decide) (Nat.le_of_ble_eq_true rfl) rfl rfl rfl (t_X2_findGlyph hG ⟨rfl, rfl⟩ g17) ?_
    refine sx_istore (pc := 98) (lo' := [(8, .int x18), (0, .ref 0), (2, .int l2), (3, .int l3), (4, .long l4), (6, .int l6), (7, .int l7)]) dX11_line_98 (by decide) rfl ?_
    refine sx_iload (pc := 100) dX11_line_100 sx_m5 ?_
    refine sx_iconst (pc := 102) (v := (-1)) dX11_line_102 (by decide) ?_
    refine sx_icmp_eq (pc := 103) (tgt := 133) dX11_line_103 (by decide) (fun c19 => ?_) (fun c19 => ?_)
    · have h := sx_pos c19 h
      refine sx_wk (sx_s1 sx_m1 (sx_s1 sx_m2 (sx_s1 sx_m3 (sx_s1 sx_m4 (sx_s1 sx_m6 (sx_s1 sx_m0 sx_s0)))))) ?_
      exact tB_X11_line_133 hG hP hk78 h
    · have h := sx_neg c19 h
      refine sx_lload (pc := 106) dX11_line_106 sx_m4 ?_
      refine sx_aload_n (pc := 108) dX11_line_108 sx_m1 ?_
      refine sv_getO (pc := 109) hG dX11_line_109 f_11_37 lay_0 rfl cr_0_4 ?_
      refine sv_getO (pc := 112) hG dX11_line_112 f_11_167 lay_30 rfl cr_30_2 ?_
      refine sx_aload_n (pc := 115) dX11_line_115 sx_m1 ?_
      refine sv_getO (pc := 116) hG dX11_line_116 f_11_16 lay_0 rfl cr_0_2 ?_
      refine sx_iload (pc := 119) dX11_line_119 sx_m5 ?_
      refine sx_iload (pc := 121) dX11_line_121 sx_m0 ?_
      obtain ⟨⟨x22, V20⟩, g21, h⟩ := sx_bnd h
      refine sv_cV (pc := 123) (y := qX2_kernOf) (o := (some (.int x22))) (as := [.int l6, .int x18]) (V1 := V20) hG dX11_line_123 l_X11_130 y0X2_kernOf yvX2_kernOf rfl (Nat.le_of_ble_eq_true rfl) lay_2 kr_2 (by decide) (Nat.le_of_ble_eq_true rfl) rfl rfl rfl (t_X2_kernOf hG ⟨rfl, rfl⟩ g21) ?_
      refine sx_i2l (pc := 126) dX11_line_126 ?_
      obtain ⟨⟨x25, V23⟩, g24, h⟩ := sx_bnd h
      refine sv_cV (pc := 127) (y := qX5_scaled) (o := (some (.long x25))) (as := [.long x22.toInt64]) (V1 := V23) hG dX11_line_127 l_X11_263 y0X5_scaled yvX5_scaled rfl (Nat.le_of_ble_eq_true rfl) lay_69 kr_5 (by decide) (Nat.le_of_ble_eq_true rfl) rfl rfl rfl (t_X5_scaled hG ⟨rfl, rfl⟩ g24) ?_
      refine sx_ladd (pc := 130) dX11_line_130 ?_
      refine sv_tJ (fun x26 hx26 => ?_)
      have h := sx_letE hx26 h
      refine sx_lstore (pc := 131) (lo' := [(4, .long x26), (8, .int x18), (0, .ref 0), (2, .int l2), (3, .int l3), (6, .int l6), (7, .int l7)]) dX11_line_131 (by decide) rfl ?_
      refine sx_wk (sx_s1 sx_m2 (sx_s1 sx_m3 (sx_s1 sx_m4 (sx_s1 sx_m0 (sx_s1 sx_m6 (sx_s1 sx_m1 sx_s0)))))) ?_
      exact tB_X11_line_133 hG hP hk78 h
theorem tL_X11_line_78 {g : sx_G} (hG : sx_Go g) {P : Option Value → sv_V → Prop} {r : Int32} {Vr : sv_V} (hP : P (some (.int r)) Vr) {N : Nat}   : ∀ (n : Nat) (l2 : Int32) (l3 : Int32) (l4 : Int64) (l6 : Int32) (l7 : Int32) (V : sv_V), sx_lp6 (B_X11_line_78 N ) n l2 l3 l4 l6 l7 V = some (r, Vr) → sv_N g qX11_line 48 78 [(0, .ref 0), (2, .int l2), (3, .int l3), (4, .long l4), (6, .int l6), (7, .int l7)] [] V P :=
  sx_lp6_ind (fun k0 ih _ _ _ _ _ V h => tB_X11_line_78 hG hP ih h)
def F_X11_line (N : Nat) (l1 : Int32) (l2 : Int32) (V : sv_V) : Option (Int32 × sv_V) := if (V.1 2 2) = 0 then (some ((-3 : Int32), V)) else (if (V.1 30 7) = 0 then (some ((-3 : Int32), V)) else (if (V.1 143 1) = 0 then (some ((-3 : Int32), V)) else ((F_X11_isBeyond l1.toInt64 (20000 : Int32) V).bind (fun (x32, V30) => if x32 = 0 then ((F_X11_isBeyond l2.toInt64 (20000 : Int32) V30).bind (fun (x36, V34) => if x36 = 0 then (sx_let (V34.1 0 7) (fun x38 => sx_let (sv_I V34 0 7 (0 : Int32)) (fun V39 => sx_let (l1.toInt64) (fun x40 => sx_lp6 (B_X11_line_78 N ) N l2 x38 x40 (-1 : Int32) (0 : Int32) V39)))) else (some ((-2 : Int32), V34)))) else (some ((-2 : Int32), V30))))))
set_option maxRecDepth 20000 in
theorem t_X11_line {g : sx_G} (hG : sx_Go g) {P : Option Value → sv_V → Prop} {r : Int32} {Vr : sv_V} (hP : P (some (.int r)) Vr) {N : Nat} {l1 : Int32} {l2 : Int32} {V : sv_V} (h : F_X11_line N l1 l2 V = some (r, Vr)) : sv_N g qX11_line 48 0 [(0, .ref 0), (1, .int l1), (2, .int l2)] [] V P := by
  unfold F_X11_line at h
  refine sx_aload_n (pc := 0) dX11_line_0 sx_m0 ?_
  refine sv_getO (pc := 1) hG dX11_line_1 f_11_16 lay_0 rfl cr_0_2 ?_
  refine sv_getZ (pc := 4) hG dX11_line_4 f_11_67 lay_2 rfl ?_
  refine sx_if_eq (pc := 7) (tgt := 30) dX11_line_7 (by decide) (fun c27 => ?_) (fun c27 => ?_)
  · have h := sx_pos c27 h
    refine sx_bipush (pc := 30) (v := (-3)) dX11_line_30 (by decide) ?_
    exact sv_iret (pc := 32) dX11_line_32 rfl h hP
  · have h := sx_neg c27 h
    refine sx_aload_n (pc := 10) dX11_line_10 sx_m0 ?_
    refine sv_getO (pc := 11) hG dX11_line_11 f_11_37 lay_0 rfl cr_0_4 ?_
    refine sv_getI (pc := 14) hG dX11_line_14 f_11_137 lay_30 rfl ?_
    refine sx_if_eq (pc := 17) (tgt := 30) dX11_line_17 (by decide) (fun c28 => ?_) (fun c28 => ?_)
    · have h := sx_pos c28 h
      refine sx_bipush (pc := 30) (v := (-3)) dX11_line_30 (by decide) ?_
      exact sv_iret (pc := 32) dX11_line_32 rfl h hP
    · have h := sx_neg c28 h
      refine sx_aload_n (pc := 20) dX11_line_20 sx_m0 ?_
      refine sv_getO (pc := 21) hG dX11_line_21 f_11_44 lay_0 rfl cr_0_5 ?_
      refine sv_getI (pc := 24) hG dX11_line_24 f_11_247 lay_143 rfl ?_
      refine sx_if_ne (pc := 27) (tgt := 33) dX11_line_27 (by decide) (fun c29 => ?_) (fun c29 => ?_)
      · have h := sx_neg c29 h
        refine sx_iload_n (pc := 33) dX11_line_33 sx_m1 ?_
        refine sx_i2l (pc := 34) dX11_line_34 ?_
        refine sx_sipush (pc := 35) (v := 20000) dX11_line_35 (by decide) ?_
        obtain ⟨⟨x32, V30⟩, g31, h⟩ := sx_bnd h
        refine sv_cS (pc := 38) (y := qX11_isBeyond) (o := (some (.int x32))) (as := [.long l1.toInt64, .int (20000 : Int32)]) (V1 := V30) dX11_line_38 l_X11_225 y0X11_isBeyond ysX11_isBeyond rfl (Nat.le_of_ble_eq_true rfl) (by decide) (Nat.le_of_ble_eq_true rfl) rfl rfl rfl (t_X11_isBeyond hG ⟨rfl, rfl⟩ g31) ?_
        refine sx_if_ne (pc := 41) (tgt := 55) dX11_line_41 (by decide) (fun c33 => ?_) (fun c33 => ?_)
        · have h := sx_neg c33 h
          refine sx_bipush (pc := 55) (v := (-2)) dX11_line_55 (by decide) ?_
          exact sv_iret (pc := 57) dX11_line_57 rfl h hP
        · have h := sx_pos c33 h
          refine sx_iload_n (pc := 44) dX11_line_44 sx_m2 ?_
          refine sx_i2l (pc := 45) dX11_line_45 ?_
          refine sx_sipush (pc := 46) (v := 20000) dX11_line_46 (by decide) ?_
          obtain ⟨⟨x36, V34⟩, g35, h⟩ := sx_bnd h
          refine sv_cS (pc := 49) (y := qX11_isBeyond) (o := (some (.int x36))) (as := [.long l2.toInt64, .int (20000 : Int32)]) (V1 := V34) dX11_line_49 l_X11_225 y0X11_isBeyond ysX11_isBeyond rfl (Nat.le_of_ble_eq_true rfl) (by decide) (Nat.le_of_ble_eq_true rfl) rfl rfl rfl (t_X11_isBeyond hG ⟨rfl, rfl⟩ g35) ?_
          refine sx_if_eq (pc := 52) (tgt := 58) dX11_line_52 (by decide) (fun c37 => ?_) (fun c37 => ?_)
          · have h := sx_pos c37 h
            refine sx_aload_n (pc := 58) dX11_line_58 sx_m0 ?_
            refine sv_getI (pc := 59) hG dX11_line_59 f_11_260 lay_0 rfl ?_
            refine sv_tI (fun x38 hx38 => ?_)
            have h := sx_letE hx38 h
            refine sx_istore_n (pc := 62) (lo' := [(3, .int x38), (0, .ref 0), (1, .int l1), (2, .int l2)]) dX11_line_62 (by decide) rfl ?_
            refine sx_aload_n (pc := 63) dX11_line_63 sx_m1 ?_
            refine sx_iconst (pc := 64) (v := 0) dX11_line_64 (by decide) ?_
            obtain ⟨V39, hV39⟩ : ∃ z : sv_V, z = sv_I V34 0 7 (0 : Int32) := ⟨_, rfl⟩
            have h := sx_letE hV39 h
            refine sv_putI (pc := 65) hG dX11_line_65 f_11_260 lay_0 rfl hV39 ?_
            refine sx_iload_n (pc := 68) dX11_line_68 sx_m2 ?_
            refine sx_i2l (pc := 69) dX11_line_69 ?_
            refine sv_tJ (fun x40 hx40 => ?_)
            have h := sx_letE hx40 h
            refine sx_lstore (pc := 70) (lo' := [(4, .long x40), (3, .int x38), (0, .ref 0), (1, .int l1), (2, .int l2)]) dX11_line_70 (by decide) rfl ?_
            refine sx_iconst (pc := 72) (v := (-1)) dX11_line_72 (by decide) ?_
            refine sx_istore (pc := 73) (lo' := [(6, .int (-1 : Int32)), (4, .long x40), (3, .int x38), (0, .ref 0), (1, .int l1), (2, .int l2)]) dX11_line_73 (by decide) rfl ?_
            refine sx_iconst (pc := 75) (v := 0) dX11_line_75 (by decide) ?_
            refine sx_istore (pc := 76) (lo' := [(7, .int (0 : Int32)), (6, .int (-1 : Int32)), (4, .long x40), (3, .int x38), (0, .ref 0), (1, .int l1), (2, .int l2)]) dX11_line_76 (by decide) rfl ?_
            refine sx_wk (sx_s1 sx_m4 (sx_s1 sx_m6 (sx_s1 sx_m3 (sx_s1 sx_m2 (sx_s1 sx_m1 (sx_s1 sx_m0 sx_s0)))))) ?_
            exact tL_X11_line_78 hG hP  N _ _ _ _ _ _ h
          · have h := sx_neg c37 h
            refine sx_bipush (pc := 55) (v := (-2)) dX11_line_55 (by decide) ?_
            exact sv_iret (pc := 57) dX11_line_57 rfl h hP
      · have h := sx_pos c29 h
        refine sx_bipush (pc := 30) (v := (-3)) dX11_line_30 (by decide) ?_
        exact sv_iret (pc := 32) dX11_line_32 rfl h hP
end
